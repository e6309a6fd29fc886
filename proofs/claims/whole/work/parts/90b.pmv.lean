/-! MOVES over any list of shapes (wip/gen/param.py) -/
section PMv
variable {sx : List sh_T} {tb : en_T} {j pc cs ss : Nat} {lv : en_L} {st : List Value} {h h' : en_H} {r r1 : Option Value} {x y : Int} {S S1 : ms}
theorem mw_gf {f t k n : Nat} {fs : List (Nat × Nat)} {q : Nat × Nat} {a : Nat} (hI : en_pI pg_P j pc = some (.getfield f, 3)) (hF : en_pF pg_P j f = some (t, k)) (hs : sg sx a = (t + 6, n, fs)) (ht : t < 90) (hk : fs[k]? = some q) (kk : en_Ev pg_P tb pg_cr j (pc + 3, lv, sv_v (S.1 a) (S.2.1 a) (S.2.2 a) k q :: st, hq sx S, cs, ss) r h') : en_Ev pg_P tb pg_cr j (pc, lv, .ref a :: st, hq sx S, cs, ss) r h' := by
  refine mv_hp (st' := sv_v (S.1 a) (S.2.1 a) (S.2.2 a) k q :: st) (h1 := hq sx S) hI (fun _ => rfl) (fun _ _ _ => rfl) (fun _ _ _ => rfl) ?_ kk
  unfold en_hp
  dsimp only
  rw [if_pos rfl]
  unfold en_gf
  dsimp only
  rw [hF]
  dsimp only
  rw [hq_obj hs ht]
  dsimp only
  rw [if_pos (Nat.beq_refl t), sv_f_at hk]
  rfl
theorem mw_gfI {f t k n z : Nat} {fs : List (Nat × Nat)} {a : Nat} (hI : en_pI pg_P j pc = some (.getfield f, 3)) (hF : en_pF pg_P j f = some (t, k)) (hs : sg sx a = (t + 6, n, fs)) (ht : t < 90) (hk : fs[k]? = some (0, z)) (kk : en_Ev pg_P tb pg_cr j (pc + 3, lv, vI (S.1 a k) :: st, hq sx S, cs, ss) r h') : en_Ev pg_P tb pg_cr j (pc, lv, .ref a :: st, hq sx S, cs, ss) r h' := mw_gf hI hF hs ht hk kk
theorem mw_gfJ {f t k n z : Nat} {fs : List (Nat × Nat)} {a : Nat} (hI : en_pI pg_P j pc = some (.getfield f, 3)) (hF : en_pF pg_P j f = some (t, k)) (hs : sg sx a = (t + 6, n, fs)) (ht : t < 90) (hk : fs[k]? = some (1, z)) (kk : en_Ev pg_P tb pg_cr j (pc + 3, lv, vL (S.2.1 a k) :: st, hq sx S, cs, ss) r h') : en_Ev pg_P tb pg_cr j (pc, lv, .ref a :: st, hq sx S, cs, ss) r h' := mw_gf hI hF hs ht hk kk
theorem mw_gfR {f t k n z : Nat} {fs : List (Nat × Nat)} {a : Nat} (hI : en_pI pg_P j pc = some (.getfield f, 3)) (hF : en_pF pg_P j f = some (t, k)) (hs : sg sx a = (t + 6, n, fs)) (ht : t < 90) (hk : fs[k]? = some (2, z)) (kk : en_Ev pg_P tb pg_cr j (pc + 3, lv, .ref z :: st, hq sx S, cs, ss) r h') : en_Ev pg_P tb pg_cr j (pc, lv, .ref a :: st, hq sx S, cs, ss) r h' := mw_gf hI hF hs ht hk kk
theorem mw_gfM {f t k n z : Nat} {fs : List (Nat × Nat)} {a : Nat} (hI : en_pI pg_P j pc = some (.getfield f, 3)) (hF : en_pF pg_P j f = some (t, k)) (hs : sg sx a = (t + 6, n, fs)) (ht : t < 90) (hk : fs[k]? = some (3, z)) (kk : en_Ev pg_P tb pg_cr j (pc + 3, lv, .ref (S.2.2 a k) :: st, hq sx S, cs, ss) r h') : en_Ev pg_P tb pg_cr j (pc, lv, .ref a :: st, hq sx S, cs, ss) r h' := mw_gf hI hF hs ht hk kk
theorem mw_pf {f t k n : Nat} {fs : List (Nat × Nat)} {q : Nat × Nat} {a : Nat} {v : Value} {h1 : en_H} (hI : en_pI pg_P j pc = some (.putfield f, 3)) (hF : en_pF pg_P j f = some (t, k)) (hs : sg sx a = (t + 6, n, fs)) (ht : t < 90) (hk : fs[k]? = some q) (hn : (en_nf (en_pY pg_P t k).1 v && (!(en_pY pg_P t k).2 || Nat.beq (en_ini pg_P j) (t + 1))) = true) (hh : (hq sx S).set a (.inr (t, (sv_f (S.1 a) (S.2.1 a) (S.2.2 a) fs).set k v)) = h1) (kk : en_Ev pg_P tb pg_cr j (pc + 3, lv, st, h1, cs, ss) r h') : en_Ev pg_P tb pg_cr j (pc, lv, v :: .ref a :: st, hq sx S, cs, ss) r h' := by
  refine mv_hp (st' := st) (h1 := h1) hI (fun _ => rfl) (fun _ _ _ => rfl) (fun _ _ _ => rfl) ?_ kk
  unfold en_hp
  dsimp only
  rw [if_pos rfl]
  unfold en_pf
  dsimp only
  rw [hF]
  dsimp only
  rw [hq_obj hs ht]
  dsimp only
  rw [Bool.and_eq_true] at hn
  rw [if_pos (by rw [Nat.beq_refl, hn.1, hn.2, sv_f_len, Nat.ble_eq_true_of_le (Nat.succ_le_of_lt (List.getElem?_eq_some_iff.mp hk).1)]; rfl), hh]
  rfl
theorem mw_pfI {f t k n z : Nat} {fs : List (Nat × Nat)} {a : Nat} {v : Int} (hI : en_pI pg_P j pc = some (.putfield f, 3)) (hF : en_pF pg_P j f = some (t, k)) (hs : sg sx a = (t + 6, n, fs)) (ht : t < 90) (hk : fs[k]? = some (0, z)) (hn : (en_nf (en_pY pg_P t k).1 (vI v) && (!(en_pY pg_P t k).2 || Nat.beq (en_ini pg_P j) (t + 1))) = true) (kk : en_Ev pg_P tb pg_cr j (pc + 3, lv, st, hq sx (wI S a k v), cs, ss) r h') : en_Ev pg_P tb pg_cr j (pc, lv, vI v :: .ref a :: st, hq sx S, cs, ss) r h' := mw_pf hI hF hs ht hk hn (hq_pfI hs ht hk) kk
theorem mw_pfJ {f t k n z : Nat} {fs : List (Nat × Nat)} {a : Nat} {v : Int} (hI : en_pI pg_P j pc = some (.putfield f, 3)) (hF : en_pF pg_P j f = some (t, k)) (hs : sg sx a = (t + 6, n, fs)) (ht : t < 90) (hk : fs[k]? = some (1, z)) (hn : (en_nf (en_pY pg_P t k).1 (vL v) && (!(en_pY pg_P t k).2 || Nat.beq (en_ini pg_P j) (t + 1))) = true) (kk : en_Ev pg_P tb pg_cr j (pc + 3, lv, st, hq sx (wJ S a k v), cs, ss) r h') : en_Ev pg_P tb pg_cr j (pc, lv, vL v :: .ref a :: st, hq sx S, cs, ss) r h' := mw_pf hI hF hs ht hk hn (hq_pfJ hs ht hk) kk
theorem mw_pfR {f t k n z v : Nat} {fs : List (Nat × Nat)} {a : Nat} (hI : en_pI pg_P j pc = some (.putfield f, 3)) (hF : en_pF pg_P j f = some (t, k)) (hs : sg sx a = (t + 6, n, fs)) (ht : t < 90) (hk : fs[k]? = some (3, z)) (hn : (en_nf (en_pY pg_P t k).1 (.ref v) && (!(en_pY pg_P t k).2 || Nat.beq (en_ini pg_P j) (t + 1))) = true) (kk : en_Ev pg_P tb pg_cr j (pc + 3, lv, st, hq sx (wR S a k v), cs, ss) r h') : en_Ev pg_P tb pg_cr j (pc, lv, .ref v :: .ref a :: st, hq sx S, cs, ss) r h' := mw_pf hI hF hs ht hk hn (hq_pfR hs ht hk) kk
/-- 0 or 1: what a boolean field, or answer, takes -/
theorem en_ai_aw {t a n : Nat} {i : Int} (hs : sg sx a = (t, n, [])) (ht : t < 3) (hb : 0 ≤ w32 i ∧ w32 i < n) : en_ai tb t (vI i :: .ref a :: st) (hq sx S) = some (vI (S.1 a (w32 i)) :: st) := by
  unfold en_ai vI
  dsimp only
  rw [hq_arr hs ht]
  dsimp only
  rw [if_pos (by rw [bd_ok hb, Nat.beq_refl]; rfl), oI_nat hb.1]
theorem mw_ial {a n : Nat} {i : Int} (hI : en_pI pg_P j pc = some (.iaload, 1)) (hs : sg sx a = (0, n, [])) (hb : 0 ≤ w32 i ∧ w32 i < n) (kk : en_Ev pg_P tb pg_cr j (pc + 1, lv, vI (S.1 a (w32 i)) :: st, hq sx S, cs, ss) r h') : en_Ev pg_P tb pg_cr j (pc, lv, vI i :: .ref a :: st, hq sx S, cs, ss) r h' := by
  refine mv_hp (st' := vI (S.1 a (w32 i)) :: st) (h1 := hq sx S) hI (fun _ => rfl) (fun _ _ _ => rfl) (fun _ _ _ => rfl) ?_ kk
  unfold en_hp
  dsimp only
  rw [if_pos rfl, en_ai_aw hs (by decide) hb]
  rfl
theorem mw_bal {a n : Nat} {i : Int} (hI : en_pI pg_P j pc = some (.baload, 1)) (hs : sg sx a = (1, n, [])) (hb : 0 ≤ w32 i ∧ w32 i < n) (kk : en_Ev pg_P tb pg_cr j (pc + 1, lv, vI (S.1 a (w32 i)) :: st, hq sx S, cs, ss) r h') : en_Ev pg_P tb pg_cr j (pc, lv, vI i :: .ref a :: st, hq sx S, cs, ss) r h' := by
  refine mv_hp (st' := vI (S.1 a (w32 i)) :: st) (h1 := hq sx S) hI (fun _ => rfl) (fun _ _ _ => rfl) (fun _ _ _ => rfl) ?_ kk
  unfold en_hp
  dsimp only
  rw [if_pos rfl, en_ai_aw hs (by decide) hb]
theorem mw_zal {a n : Nat} {i : Int} (hI : en_pI pg_P j pc = some (.baload, 1)) (hs : sg sx a = (2, n, [])) (hb : 0 ≤ w32 i ∧ w32 i < n) (kk : en_Ev pg_P tb pg_cr j (pc + 1, lv, vI (S.1 a (w32 i)) :: st, hq sx S, cs, ss) r h') : en_Ev pg_P tb pg_cr j (pc, lv, vI i :: .ref a :: st, hq sx S, cs, ss) r h' := by
  refine mv_hp (st' := vI (S.1 a (w32 i)) :: st) (h1 := hq sx S) hI (fun _ => rfl) (fun _ _ _ => rfl) (fun _ _ _ => rfl) ?_ kk
  have z : en_ai tb 2 (vI i :: .ref a :: st) (hq sx S) = some (vI (S.1 a (w32 i)) :: st) := en_ai_aw hs (by decide) hb
  have z1 : en_ai tb 1 (vI i :: .ref a :: st) (hq sx S) = none := by
    unfold en_ai vI
    dsimp only
    rw [hq_arr hs (by decide)]
    rfl
  unfold en_hp
  dsimp only
  rw [if_pos rfl, z1, z]
  rfl
theorem mw_lal {a n : Nat} {i : Int} (hI : en_pI pg_P j pc = some (.laload, 1)) (hs : sg sx a = (3, n, [])) (hb : 0 ≤ w32 i ∧ w32 i < n) (kk : en_Ev pg_P tb pg_cr j (pc + 1, lv, vL (S.2.1 a (w32 i)) :: st, hq sx S, cs, ss) r h') : en_Ev pg_P tb pg_cr j (pc, lv, vI i :: .ref a :: st, hq sx S, cs, ss) r h' := by
  refine mv_hp (st' := vL (S.2.1 a (w32 i)) :: st) (h1 := hq sx S) hI (fun _ => rfl) (fun _ _ _ => rfl) (fun _ _ _ => rfl) ?_ kk
  unfold en_hp
  dsimp only
  rw [if_pos rfl]
  have z : en_al (vI i :: .ref a :: st) (hq sx S) = some (vL (S.2.1 a (w32 i)) :: st) := by
    unfold en_al vI
    dsimp only
    rw [hq_larr hs]
    dsimp only
    rw [if_pos (by rw [bd_ok hb]; rfl), oI_nat hb.1]
    rfl
  rw [z]
  rfl
theorem mw_aal {t a n q : Nat} {fs : List (Nat × Nat)} {i : Int} (hI : en_pI pg_P j pc = some (.aaload, 1)) (hs : sg sx a = (t, n, fs)) (ht : t = 4 ∨ t = 5) (hb : 0 ≤ w32 i ∧ w32 i < n) (hqq : sh_r fs (w32 i).toNat = some q) (kk : en_Ev pg_P tb pg_cr j (pc + 1, lv, .ref q :: st, hq sx S, cs, ss) r h') : en_Ev pg_P tb pg_cr j (pc, lv, vI i :: .ref a :: st, hq sx S, cs, ss) r h' := by
  refine mv_hp (st' := .ref q :: st) (h1 := hq sx S) hI (fun _ => rfl) (fun _ _ _ => rfl) (fun _ _ _ => rfl) ?_ kk
  unfold en_hp
  dsimp only
  rw [if_pos rfl]
  have z : en_aa (vI i :: .ref a :: st) (hq sx S) = some (.ref q :: st) := by
    have h1 := oI_nat hb.1
    unfold en_aa vI
    dsimp only
    rw [hq_rarr hs ht]
    dsimp only
    rw [if_pos (by rw [bd_ok hb]; rcases ht with rfl | rfl <;> rfl), show (Int32.ofInt i).toNatClampNeg = (w32 i).toNat by omega, hqq]
    rfl
  rw [z]
  rfl
theorem mw_ias {a n : Nat} {i v : Int} (hI : en_pI pg_P j pc = some (.iastore, 1)) (hs : sg sx a = (0, n, [])) (hb : 0 ≤ w32 i ∧ w32 i < n) (kk : en_Ev pg_P tb pg_cr j (pc + 1, lv, st, hq sx (wI S a (w32 i) v), cs, ss) r h') : en_Ev pg_P tb pg_cr j (pc, lv, vI v :: vI i :: .ref a :: st, hq sx S, cs, ss) r h' := by
  refine mv_hp (st' := st) (h1 := hq sx (wI S a (w32 i) v)) hI (fun _ => rfl) (fun _ _ _ => rfl) (fun _ _ _ => rfl) ?_ kk
  unfold en_hp
  dsimp only
  rw [if_pos rfl]
  unfold en_si vI
  dsimp only
  rw [hq_arr hs (by decide)]
  dsimp only
  rw [if_pos (by rw [bd_ok hb]; rfl), hq_ast hs (by decide) hb.1 rfl]
  rfl
theorem mw_bas {a n : Nat} {i v : Int} (hI : en_pI pg_P j pc = some (.bastore, 1)) (hs : sg sx a = (1, n, [])) (hb : 0 ≤ w32 i ∧ w32 i < n) (kk : en_Ev pg_P tb pg_cr j (pc + 1, lv, st, hq sx (wI S a (w32 i) (b8 v)), cs, ss) r h') : en_Ev pg_P tb pg_cr j (pc, lv, vI v :: vI i :: .ref a :: st, hq sx S, cs, ss) r h' := by
  refine mv_hp (st' := st) (h1 := hq sx (wI S a (w32 i) (b8 v))) hI (fun _ => rfl) (fun _ _ _ => rfl) (fun _ _ _ => rfl) ?_ kk
  unfold en_hp
  dsimp only
  rw [if_pos rfl]
  have z : en_si 1 (vp_nar .byte) (vI v :: vI i :: .ref a :: st) (hq sx S) = some (st, hq sx (wI S a (w32 i) (b8 v))) := by
    unfold en_si vI
    dsimp only
    rw [hq_arr hs (by decide)]
    dsimp only
    rw [if_pos (by rw [bd_ok hb]; rfl), hq_ast hs (by decide) hb.1 (show vp_nar .byte (Int32.ofInt v) = Int32.ofInt (b8 v) from oI_b v)]
  rw [z]
theorem mw_zas {a n : Nat} {i v : Int} (hI : en_pI pg_P j pc = some (.bastore, 1)) (hs : sg sx a = (2, n, [])) (hb : 0 ≤ w32 i ∧ w32 i < n) (kk : en_Ev pg_P tb pg_cr j (pc + 1, lv, st, hq sx (wI S a (w32 i) (v % 2)), cs, ss) r h') : en_Ev pg_P tb pg_cr j (pc, lv, vI v :: vI i :: .ref a :: st, hq sx S, cs, ss) r h' := by
  refine mv_hp (st' := st) (h1 := hq sx (wI S a (w32 i) (v % 2))) hI (fun _ => rfl) (fun _ _ _ => rfl) (fun _ _ _ => rfl) ?_ kk
  unfold en_hp
  dsimp only
  rw [if_pos rfl]
  have e : vp_nar .boolean (Int32.ofInt v) = Int32.ofInt (v % 2) := by
    show Int32.ofInt v &&& Int32.ofInt 1 = _
    rw [oI_and, show bA v 1 = v % 2 from bA_m v 1 (by decide)]
  have z : en_si 2 (vp_nar .boolean) (vI v :: vI i :: .ref a :: st) (hq sx S) = some (st, hq sx (wI S a (w32 i) (v % 2))) := by
    unfold en_si vI
    dsimp only
    rw [hq_arr hs (by decide)]
    dsimp only
    rw [if_pos (by rw [bd_ok hb]; rfl), hq_ast hs (by decide) hb.1 (v := v % 2) e]
  have z1 : en_si 1 (vp_nar .byte) (vI v :: vI i :: .ref a :: st) (hq sx S) = none := by
    unfold en_si vI
    dsimp only
    rw [hq_arr hs (by decide)]
    rfl
  rw [z1, z]
  rfl
theorem mw_las {a n : Nat} {i v : Int} (hI : en_pI pg_P j pc = some (.lastore, 1)) (hs : sg sx a = (3, n, [])) (hb : 0 ≤ w32 i ∧ w32 i < n) (kk : en_Ev pg_P tb pg_cr j (pc + 1, lv, st, hq sx (wJ S a (w32 i) v), cs, ss) r h') : en_Ev pg_P tb pg_cr j (pc, lv, vL v :: vI i :: .ref a :: st, hq sx S, cs, ss) r h' := by
  refine mv_hp (st' := st) (h1 := hq sx (wJ S a (w32 i) v)) hI (fun _ => rfl) (fun _ _ _ => rfl) (fun _ _ _ => rfl) ?_ kk
  unfold en_hp
  dsimp only
  rw [if_pos rfl]
  have z : en_sl (vL v :: vI i :: .ref a :: st) (hq sx S) = some (st, hq sx (wJ S a (w32 i) v)) := by
    unfold en_sl vL vI
    dsimp only
    rw [hq_larr hs]
    dsimp only
    rw [if_pos (by rw [bd_ok hb]; rfl), hq_last hs hb.1]
  rw [z]
  rfl
theorem mw_len {t a n : Nat} {fs : List (Nat × Nat)} (hI : en_pI pg_P j pc = some (.arraylength, 1)) (hs : sg sx a = (t, n, fs)) (ht : t < 6) (kk : en_Ev pg_P tb pg_cr j (pc + 1, lv, vI n :: st, hq sx S, cs, ss) r h') : en_Ev pg_P tb pg_cr j (pc, lv, .ref a :: st, hq sx S, cs, ss) r h' := by
  refine mv_hp (st' := vI n :: st) (h1 := hq sx S) hI (fun _ => rfl) (fun _ _ _ => rfl) (fun _ _ _ => rfl) ?_ kk
  unfold en_hp
  dsimp only
  rw [if_pos rfl]
  have z : en_len tb (.ref a :: st) (hq sx S) = some (vI n :: st) := by
    unfold en_len vI
    dsimp only
    rw [hq_at (sg_lt hs (by omega)), hs, Int32.ofInt_eq_ofNat]
    match t, ht with
    | 0, _ => rfl
    | 1, _ => rfl
    | 2, _ => rfl
    | 3, _ => rfl
    | 4, _ => rfl
    | 5, _ => rfl
  rw [z]
  rfl
theorem mw_sal (hsx : sx.length ≤ en_b) {L : Nat} {xs : Nat → Int32} {k : Nat} {i : Int} {l : List Int32} (hI : en_pI pg_P j pc = some (.iaload, 1)) (hl : pg_st[k]? = some l) (hk : k < 11) (hb : 0 ≤ w32 i ∧ w32 i < (l.length : Nat)) (kk : en_Ev pg_P (pg_tb L xs) pg_cr j (pc + 1, lv, vI (sS k (w32 i)) :: st, hq sx S, cs, ss) r h') : en_Ev pg_P (pg_tb L xs) pg_cr j (pc, lv, vI i :: .ref (en_b + k) :: st, hq sx S, cs, ss) r h' := by
  refine mv_hp (st' := vI (sS k (w32 i)) :: st) (h1 := hq sx S) hI (fun _ => rfl) (fun _ _ _ => rfl) (fun _ _ _ => rfl) ?_ kk
  unfold en_hp
  dsimp only
  rw [if_pos rfl]
  have z : en_ai (pg_tb L xs) 0 (vI i :: .ref (en_b + k) :: st) (hq sx S) = some (vI (sS k (w32 i)) :: st) := by
    have h1 := oI_nat hb.1
    unfold vI
    rw [en_ai_s (hq_none (Nat.le_trans hsx (Nat.le_add_right _ _))) (en_b_nlt k) (by rw [Nat.add_sub_cancel_left]; exact tb_at hl hk) (bd_ok hb)]
    unfold sS
    rw [Int32.ofInt_toInt, List.getD_eq_getElem?_getD (l := pg_st), hl, Option.getD_some, show (Int32.ofInt i).toNatClampNeg = (w32 i).toNat by omega]
  rw [z]
  rfl
theorem mw_slen (hsx : sx.length ≤ en_b) {L : Nat} {xs : Nat → Int32} {k : Nat} {l : List Int32} (hI : en_pI pg_P j pc = some (.arraylength, 1)) (hl : pg_st[k]? = some l) (hk : k < 11) (kk : en_Ev pg_P (pg_tb L xs) pg_cr j (pc + 1, lv, vI (l.length : Nat) :: st, hq sx S, cs, ss) r h') : en_Ev pg_P (pg_tb L xs) pg_cr j (pc, lv, .ref (en_b + k) :: st, hq sx S, cs, ss) r h' := by
  refine mv_hp (st' := vI (l.length : Nat) :: st) (h1 := hq sx S) hI (fun _ => rfl) (fun _ _ _ => rfl) (fun _ _ _ => rfl) ?_ kk
  unfold en_hp
  dsimp only
  rw [if_pos rfl]
  have z : en_len (pg_tb L xs) (.ref (en_b + k) :: st) (hq sx S) = some (vI (l.length : Nat) :: st) := by
    unfold vI
    rw [en_len_s (hq_none (Nat.le_trans hsx (Nat.le_add_right _ _))) (en_b_nlt k) (by rw [Nat.add_sub_cancel_left]; exact tb_at hl hk), Int32.ofInt_eq_ofNat]
  rw [z]
  rfl
theorem mw_cpy {f a b n0 n1 : Nat} {sp dp n : Int} (hI : en_pI pg_P j pc = some (.invokestatic f, 3)) (hM : en_pM pg_P j f = some (5, 0)) (hf : 1 ≤ (en_rm pg_P j).frames ∧ en_ws st + (nativeFrameWords "java/lang/System" "arraycopy" 5 + 11) ≤ (en_rm pg_P j).locals) (hs : sg sx a = (0, n1, [])) (hs2 : sg sx b = (0, n0, [])) (hb : 0 ≤ w32 sp ∧ 0 ≤ w32 dp ∧ 0 ≤ w32 n ∧ w32 dp + w32 n ≤ n1 ∧ w32 sp + w32 n ≤ n0) (kk : en_Ev pg_P tb pg_cr j (pc + 3, lv, st, hq sx (wC S a (w32 dp) (w32 n) (fun k => S.1 b (w32 sp + k))), cs, ss) r h') : en_Ev pg_P tb pg_cr j (pc, lv, vI n :: vI dp :: .ref a :: vI sp :: .ref b :: st, hq sx S, cs, ss) r h' := by
  refine mv_hp (st' := st) (h1 := hq sx (wC S a (w32 dp) (w32 n) (fun k => S.1 b (w32 sp + k)))) hI (fun _ => rfl) (fun _ _ _ => rfl) (fun _ _ _ => rfl) ?_ kk
  unfold en_hp
  try dsimp only
  rw [if_pos rfl, hM]
  obtain ⟨b1, b2, b3, b4, b5⟩ := hb
  have c1 := oI_nat b1
  have c2 := oI_nat b2
  have c3 := oI_nat b3
  have z : en_cpy pg_P tb j (vI n :: vI dp :: .ref a :: vI sp :: .ref b :: st) (hq sx S) = some (st, hq sx (wC S a (w32 dp) (w32 n) (fun k => S.1 b (w32 sp + k)))) := by
    unfold en_cpy vI
    try dsimp only
    rw [hq_arr hs (by decide)]
    change (ite _ _ _) = _
    rw [if_pos ⟨o_neg b1, o_neg b2, o_neg b3, by omega, hf.1, hf.2⟩, hq_arr hs2 (by decide)]
    change (ite _ _ _) = _
    rw [if_pos (by omega), hq_cpy hs b1 b2 b3 (fun k hk => ?_)]
    show Int32.ofInt (S.1 b (((w32 sp).toNat + k : Nat) : Int)) = Int32.ofInt (S.1 b (w32 sp + k))
    rw [show (((w32 sp).toNat + k : Nat) : Int) = w32 sp + k by omega]
  rw [z]
  rfl
theorem mw_cal (hsx : sx.length ≤ en_b) {kd j' : Nat} {as rest : List Value} {i : Instr} (hr : en_Ev pg_P tb pg_cr j' (0, en_ent (en_ml pg_P j') as, [], hq sx S, 0, 0) r1 (hq sx S1)) (hI : en_pI pg_P j pc = some (i, 3)) (hcal : en_cal pg_P j i 3 st (hq sx S) = some (kd, j', as, rest)) (hfit : en_fit pg_P j j' rest cs ss = true) (hent : Nat.ble (en_ent1 as).length (en_ml pg_P j') = true) (hmc : en_mc pg_P j' = 0) (hms : en_ms pg_P j' = 0) (k : en_Ev pg_P tb pg_cr j (pc + 3, lv, r1.toList ++ rest, hq sx S1, cs, ss) r h') : en_Ev pg_P tb pg_cr j (pc, lv, st, hq sx S, cs, ss) r h' := by
  refine ev_call hI hcal hfit (Nat.le_of_ble_eq_true hent) hr ⟨by rw [hq_len, hq_len, hmc, Nat.add_zero], by rw [hq_len]; exact hsx⟩ ?_
  rw [hmc, hms]
  exact k
theorem mw_cals (hsx : sx.length ≤ en_b) {j' f na : Nat} {as rest : List Value} (hr : en_Ev pg_P tb pg_cr j' (0, en_ent (en_ml pg_P j') as, [], hq sx S, 0, 0) r1 (hq sx S1)) (hI : en_pI pg_P j pc = some (.invokestatic f, 3)) (hM : en_pM pg_P j f = some (0, j')) (hna : en_na pg_P j' = na) (hl : st.take na = as.reverse ∧ st.drop na = rest ∧ Nat.ble na st.length = true) (hfit : en_fit pg_P j j' rest cs ss = true) (hent : Nat.ble (en_ent1 as).length (en_ml pg_P j') = true) (hmc : en_mc pg_P j' = 0) (hms : en_ms pg_P j' = 0) (k : en_Ev pg_P tb pg_cr j (pc + 3, lv, r1.toList ++ rest, hq sx S1, cs, ss) r h') : en_Ev pg_P tb pg_cr j (pc, lv, st, hq sx S, cs, ss) r h' := by
  refine mw_cal hsx (kd := 0) hr hI ?_ hfit hent hmc hms k
  unfold en_cal
  try dsimp only
  rw [if_pos rfl, hM]
  change (ite _ _ _) = _
  rw [hna, if_pos (Nat.le_of_ble_eq_true hl.2.2), hl.1, hl.2.1, List.reverse_reverse]
theorem mw_calv (hsx : sx.length ≤ en_b) {j' f na a n : Nat} {fs : List (Nat × Nat)} {as rest : List Value} (hr : en_Ev pg_P tb pg_cr j' (0, en_ent (en_ml pg_P j') (.ref a :: as), [], hq sx S, 0, 0) r1 (hq sx S1)) (hs : sg sx a = (en_oc pg_P j' + 6, n, fs)) (hI : en_pI pg_P j pc = some (.invokevirtual f, 3)) (hM : en_pM pg_P j f = some (1, j')) (hna : en_na pg_P j' = na) (hl : st.take na = as.reverse ∧ st.drop na = .ref a :: rest) (hoc : Nat.ble (en_oc pg_P j') 80 = true) (hfit : en_fit pg_P j j' rest cs ss = true) (hent : Nat.ble (en_ent1 (.ref a :: as)).length (en_ml pg_P j') = true) (hmc : en_mc pg_P j' = 0) (hms : en_ms pg_P j' = 0) (k : en_Ev pg_P tb pg_cr j (pc + 3, lv, r1.toList ++ rest, hq sx S1, cs, ss) r h') : en_Ev pg_P tb pg_cr j (pc, lv, st, hq sx S, cs, ss) r h' := by
  have := Nat.le_of_ble_eq_true hoc
  refine mw_cal hsx (kd := 1) hr hI ?_ hfit hent hmc hms k
  unfold en_cal
  try dsimp only
  rw [if_pos rfl, hM]
  show (match List.drop (en_na pg_P j') st with
    | Value.ref b :: r => (match (hq sx S)[b]? with
      | some (.inr (ci, _)) => if ci = en_oc pg_P j' then some (1, j', Value.ref b :: (st.take (en_na pg_P j')).reverse, r) else none
      | _ => none)
    | _ => none) = _
  rw [hna, hl.2]
  try dsimp only
  rw [hq_obj hs (by omega)]
  try dsimp only
  rw [if_pos rfl, hl.1, List.reverse_reverse]
theorem mw_gfV {f t k n z v : Nat} {fs : List (Nat × Nat)} {a : Nat} (hI : en_pI pg_P j pc = some (.getfield f, 3)) (hF : en_pF pg_P j f = some (t, k)) (hs : sg sx a = (t + 6, n, fs)) (ht : t < 90) (hk : fs[k]? = some (3, z)) (he : S.2.2 a (k : Int) = v) (kk : en_Ev pg_P tb pg_cr j (pc + 3, lv, .ref v :: st, hq sx S, cs, ss) r h') : en_Ev pg_P tb pg_cr j (pc, lv, .ref a :: st, hq sx S, cs, ss) r h' := by
  subst he
  exact mw_gfM hI hF hs ht hk kk
end PMv
/-- method j, from pc on, over the memory S of shapes sx, with cs cells and ss slots made -/
def EW (q : Nat × (Nat → Int32)) (sx : List sh_T) (cs ss j pc : Nat) (lv : en_L) (st : List Value) (S : ms) (r : Option Value) (S' : ms) : Prop := en_Ev pg_P (pg_tb q.1 q.2) pg_cr j (pc, lv, st, hq sx S, cs, ss) r (hq sx S')
