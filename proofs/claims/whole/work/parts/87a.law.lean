/-! the law's own frame: two objects made, 453 cells; the script is static array 11 -/
def xS (q : Nat × (Nat → Int32)) (i : Int) : Int := (q.2 i.toNat).toInt
def EVL (q : Nat × (Nat → Int32)) (pc : Nat) (lv : en_L) (st : List Value) (S : ms) (r : Option Value) (S' : ms) : Prop := en_Ev pg_P (pg_tb q.1 q.2) pg_cr 0 (pc, lv, st, hp S, 453, 2211534) r (hp S')
section EnXl
variable {j pc cs ss : Nat} {lv : en_L} {st : List Value} {h' : en_H} {r : Option Value} {S : ms} {q : Nat × (Nat → Int32)}
theorem mv_xal {i : Int} (hI : en_pI pg_P j pc = some (.iaload, 1)) (hb : 0 ≤ w32 i ∧ w32 i < (q.1 : Nat)) (kk : en_Ev pg_P (pg_tb q.1 q.2) pg_cr j (pc + 1, lv, vI (xS q (w32 i)) :: st, hp S, cs, ss) r h') : en_Ev pg_P (pg_tb q.1 q.2) pg_cr j (pc, lv, vI i :: .ref (en_b + 11) :: st, hp S, cs, ss) r h' := by
  refine mv_hp (st' := vI (xS q (w32 i)) :: st) (h1 := hp S) hI (fun _ => rfl) (fun _ _ _ => rfl) (fun _ _ _ => rfl) ?_ kk
  unfold en_hp
  dsimp only
  rw [if_pos rfl]
  have z : en_ai (pg_tb q.1 q.2) 0 (vI i :: .ref (en_b + 11) :: st) (hp S) = some (vI (xS q (w32 i)) :: st) := by
    have h1 := oI_nat hb.1
    unfold vI
    rw [en_ai_s (n := q.1) (f := q.2) (hp_none (en_b_ge 11)) (en_b_nlt 11) (by rw [Nat.add_sub_cancel_left]; rfl) (bd_ok hb)]
    unfold xS
    rw [Int32.ofInt_toInt, show (Int32.ofInt i).toNatClampNeg = (w32 i).toNat by omega]
  rw [z]
  rfl
theorem mv_xlen (hI : en_pI pg_P j pc = some (.arraylength, 1)) (kk : en_Ev pg_P (pg_tb q.1 q.2) pg_cr j (pc + 1, lv, vI (q.1 : Nat) :: st, hp S, cs, ss) r h') : en_Ev pg_P (pg_tb q.1 q.2) pg_cr j (pc, lv, .ref (en_b + 11) :: st, hp S, cs, ss) r h' := by
  refine mv_hp (st' := vI (q.1 : Nat) :: st) (h1 := hp S) hI (fun _ => rfl) (fun _ _ _ => rfl) (fun _ _ _ => rfl) ?_ kk
  unfold en_hp
  dsimp only
  rw [if_pos rfl]
  have z : en_len (pg_tb q.1 q.2) (.ref (en_b + 11) :: st) (hp S) = some (vI (q.1 : Nat) :: st) := by
    unfold vI
    rw [en_len_s (n := q.1) (f := q.2) (hp_none (en_b_ge 11)) (en_b_nlt 11) (by rw [Nat.add_sub_cancel_left]; rfl), Int32.ofInt_eq_ofNat]
  rw [z]
  rfl
end EnXl
