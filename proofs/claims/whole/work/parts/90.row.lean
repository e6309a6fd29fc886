/-! Row: over its own few cells (0 the row, 1 its cells). A row's state: count, over, spare, what the cells hold; N is how many cells there are -/
abbrev rw_S : Type := Int32 × Int32 × Int32 × (Nat → Int32)
def rw_c (N : Nat) (q : rw_S) : en_H := [.inr (6, [.ref 1, .int q.1, .int q.2.1, .int q.2.2.1]), .inl (0, N, .inl q.2.2.2)]
def rw_in (N : Nat) (q : rw_S) : Prop := ¬ q.1 < 0 ∧ q.1 < Int32.ofNat N
def rw_put (v : Int32) (q : rw_S) : rw_S := (q.1 + 1, q.2.1, q.2.2.1, upd q.2.2.2 q.1.toNatClampNeg (v &&& 255))
def rw_full (q : rw_S) : rw_S := (q.1, 1, q.2.2.1, q.2.2.2)
noncomputable def rw_add (N : Nat) (v : Int32) (q : rw_S) : rw_S := match Classical.propDecidable (rw_in N q) with
  | .isTrue _ => rw_put v q
  | .isFalse _ => rw_full q
theorem rw_add_t {N : Nat} {v : Int32} {q : rw_S} (h : rw_in N q) : rw_add N v q = rw_put v q := by
  unfold rw_add
  split
  · rfl
  · rename_i z _
    exact absurd h z
theorem rw_add_f {N : Nat} {v : Int32} {q : rw_S} (h : ¬ rw_in N q) : rw_add N v q = rw_full q := by
  unfold rw_add
  split
  · rename_i z _
    exact absurd z h
  · rfl
section RowSp
variable {tb : en_T}
theorem en_lt_t {x y : Int32} (h : x < y) : en_cmp .lt x y = true := decide_eq_true h
theorem en_lt_f {x y : Int32} (h : ¬ x < y) : en_cmp .lt x y = false := decide_eq_false h
theorem en_no {b : Bool} {C : Prop} (h : b = true) (h2 : b = false) : C := by rw [h] at h2; cases h2
theorem rw_bad {N : Nat} {n : Int32} (hN : N < 2 ^ 31) (h0 : ¬ n < 0) (h1 : n < Int32.ofNat N) : en_bad n N = false := by
  obtain ⟨k, hk, rfl⟩ := nI_of h0
  exact en_bad_nI ((nI_ltI hk hN).mp h1) hN
/-- clear() -/
theorem sp_Row_clear (c : Value) (n o s : Int32) : en_Ev pg_P tb pg_cr 37 (0, [some (.ref 0)], [], [.inr (6, [c, .int n, .int o, .int s])], 0, 0) none [.inr (6, [c, .int 0, .int 0, .int 0])] := by
  refine ev_bk 9 (S' := (15, [some (.ref 0)], [], [.inr (6, [c, .int 0, .int 0, .int 0])], 0, 0)) rfl ?_
  exact ev_ret rfl rfl
/-- closeOctet() -/
theorem sp_Row_closeOctet (c : Value) (n o s : Int32) : en_Ev pg_P tb pg_cr 53 (0, [some (.ref 0)], [], [.inr (6, [c, .int n, .int o, .int s])], 0, 0) none [.inr (6, [c, .int n, .int o, .int 0])] := by
  refine ev_bk 3 (S' := (5, [some (.ref 0)], [], [.inr (6, [c, .int n, .int o, .int 0])], 0, 0)) rfl ?_
  exact ev_ret rfl rfl
/-- rotated(v, by) -/
theorem sp_Row_rotated (v b : Int32) : en_Ev pg_P tb pg_cr 32 (0, [some (.int v), some (.int b)], [], [], 0, 0) (some (.int ((v <<< (b &&& 31)) ||| (v.toUInt32 >>> (((32 : Int32) - b).toUInt32 &&& Int32.toUInt32 31)).toInt32))) [] := by
  refine ev_bk 9 (S' := (10, [some (.int v), some (.int b)], [.int ((v <<< (b &&& 31)) ||| (v.toUInt32 >>> (((32 : Int32) - b).toUInt32 &&& Int32.toUInt32 31)).toInt32)], [], 0, 0)) rfl ?_
  exact ev_ret rfl rfl
/-- add(v) -/
theorem sp_Row_add {N : Nat} (hN : N < 2 ^ 31) (v : Int32) (q : rw_S) : en_Ev pg_P tb pg_cr 19 (0, [some (.ref 0), some (.int v)], [], rw_c N q, 0, 0) none (rw_c N (rw_add N v q)) := by
  obtain ⟨n, o, s, f⟩ := q
  refine ev_bk 3 (S' := (bif en_cmp .lt n 0 then 19 else 7, [some (.ref 0), some (.int v)], [], rw_c N (n, o, s, f), 0, 0)) rfl ?_
  refine ev_if (fun c1 => ?_) (fun c1 => ?_)
  · have h : ¬ rw_in N (n, o, s, f) := fun z => en_no c1 (en_lt_f z.1)
    rw [rw_add_f h]
    refine ev_bk 3 (S' := (24, [some (.ref 0), some (.int v)], [], rw_c N (rw_full (n, o, s, f)), 0, 0)) rfl ?_
    exact ev_ret rfl rfl
  · refine ev_bk 6 (S' := (bif en_cmp .lt n (Int32.ofNat N) then 25 else 19, [some (.ref 0), some (.int v)], [], rw_c N (n, o, s, f), 0, 0)) rfl ?_
    refine ev_if (fun c2 => ?_) (fun c2 => ?_)
    · have h0 : ¬ n < 0 := of_decide_eq_false c1
      have h1 : n < Int32.ofNat N := of_decide_eq_true c2
      have h : rw_in N (n, o, s, f) := ⟨h0, h1⟩
      rw [rw_add_t h]
      refine ev_bk 7 (S' := (38, [some (.ref 0), some (.int v)], [.int (v &&& 255), .int n, .ref 1], rw_c N (n, o, s, f), 0, 0)) rfl ?_
      refine ev_iast (n := N) (f := f) rfl rfl (rw_bad hN h0 h1) ?_
      refine ev_bk 6 (S' := (49, [some (.ref 0), some (.int v)], [], rw_c N (rw_put v (n, o, s, f)), 0, 0)) rfl ?_
      exact ev_ret rfl rfl
    · have h : ¬ rw_in N (n, o, s, f) := fun z => en_no (en_lt_t z.2) c2
      rw [rw_add_f h]
      refine ev_bk 3 (S' := (24, [some (.ref 0), some (.int v)], [], rw_c N (rw_full (n, o, s, f)), 0, 0)) rfl ?_
      exact ev_ret rfl rfl
/-- octet k of a long, as an int -/
def rw_oct (v : Int64) (k : Int32) : Int32 := (v.toUInt64 >>> ((8 * k).toInt64.toUInt64 &&& Int64.toUInt64 63)).toInt64.toInt32
/-- k octets, the highest first -/
noncomputable def rw_high (N : Nat) (v : Int64) : Nat → rw_S → rw_S
  | 0, q => q
  | k + 1, q => rw_high N v k (rw_add N (rw_oct v (nI k)) q)
theorem rw_m1 (k : Nat) : nI k + Int32.ofInt (-1) = nI k - 1 := by
  rw [Int32.sub_eq_add_neg]
  rfl
theorem lp_Row_addHigh {N : Nat} (hN : N < 2 ^ 31) (v : Int64) (n : Int32) : ∀ (k : Nat) (q : rw_S) (i : Int32), i = nI k - 1 → k < 2 ^ 31 → en_Ev pg_P tb pg_cr 18 (5, [some (.ref 0), some (.long v), none, some (.int n), some (.int i)], [], rw_c N q, 0, 0) none (rw_c N (rw_high N v k q)) := by
  intro k
  induction k with
  | zero =>
    intro q i hi _
    refine ev_bk 2 (S' := (bif en_cmp .lt i 0 then 28 else 10, [some (.ref 0), some (.long v), none, some (.int n), some (.int i)], [], rw_c N q, 0, 0)) rfl ?_
    refine ev_if (fun _ => ?_) (fun c => en_no (by rw [hi]; decide) c)
    exact ev_ret rfl rfl
  | succ k ih =>
    intro q i hi hk
    rw [nI_pred] at hi
    subst hi
    refine ev_bk 2 (S' := (bif en_cmp .lt (nI k) 0 then 28 else 10, [some (.ref 0), some (.long v), none, some (.int n), some (.int (nI k))], [], rw_c N q, 0, 0)) rfl ?_
    refine ev_if (fun c => en_no c (en_lt_f (nI_pos (by omega)))) (fun _ => ?_)
    refine ev_bk 7 (S' := (19, [some (.ref 0), some (.long v), none, some (.int n), some (.int (nI k))], [.int (rw_oct v (nI k)), .ref 0], rw_c N q, 0, 0)) rfl ?_
    refine ev_callF [0, 1] (as0 := [.ref 0, .int (rw_oct v (nI k))]) (sp_Row_add hN (rw_oct v (nI k)) q) rfl rfl rfl (Nat.le_of_ble_eq_true rfl) rfl rfl rfl (Nat.le_of_ble_eq_true rfl) (Nat.le_of_ble_eq_true rfl) ?_
    refine ev_bk 2 (S' := (5, [some (.ref 0), some (.long v), none, some (.int n), some (.int (nI k + Int32.ofInt (-1)))], [], rw_c N (rw_add N (rw_oct v (nI k)) q), 0, 0)) rfl ?_
    exact ih _ _ (rw_m1 k) (by omega)
/-- addHigh(v, k) -/
theorem sp_Row_addHigh {N : Nat} (hN : N < 2 ^ 31) (v : Int64) (k : Nat) (hk : k < 2 ^ 31) (q : rw_S) : en_Ev pg_P tb pg_cr 18 (0, [some (.ref 0), some (.long v), none, some (.int (nI k)), none], [], rw_c N q, 0, 0) none (rw_c N (rw_high N v k q)) := by
  refine ev_bk 4 (S' := (5, [some (.ref 0), some (.long v), none, some (.int (nI k)), some (.int (nI k - 1))], [], rw_c N q, 0, 0)) rfl ?_
  exact lp_Row_addHigh hN v (nI k) k q _ rfl hk
end RowSp
