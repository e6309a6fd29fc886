/-! the reference's feed: cells 0 the object (code, tray, size, the rest), 1 the tray -/
section FeedMd
variable {tb : en_T}
/-- size, tray -/
abbrev md_S : Type := Int32 × (Nat → Int32)
def md_c (c : Int32) (fs : List Value) (q : md_S) : en_H := [.inr (12, .int c :: .ref 1 :: .int q.1 :: fs), .inl (1, 6000, .inl q.2)]
def md_oct (v : Int64) (k : Int32) : Int32 := (v >>> ((8 * k).toInt64 &&& 63)).toInt32.toInt8.toInt32
def md_put (x : Int32) (q : md_S) : md_S := (q.1 + 1, upd q.2 q.1.toNatClampNeg (vp_nar .byte x))
def md_high (v : Int64) : Nat → md_S → md_S
  | 0, q => q
  | k + 1, q => md_high v k (md_put (md_oct v (nI k)) q)
theorem lp_feedm (c : Int32) (fs : List Value) (v : Int64) (n : Int32) : ∀ (k : Nat) (z : Nat) (f : Nat → Int32) (i : Int32), i = nI k - 1 → z + k ≤ 6000 → en_Ev pg_P tb pg_cr 256 (38, [some (.ref 0), some (.long v), none, some (.int n), some (.int i)], [], md_c c fs (nI z, f), 0, 0) (some (.int (nI (z + k)))) (md_c c fs (md_high v k (nI z, f))) ∧ (md_high v k (nI z, f)).1 = nI (z + k) := by
  intro k
  induction k with
  | zero =>
    intro z f i hi _
    refine ⟨?_, rfl⟩
    refine ev_bk 2 (S' := (bif en_cmp .lt i 0 then 77 else 43, [some (.ref 0), some (.long v), none, some (.int n), some (.int i)], [], md_c c fs (nI z, f), 0, 0)) rfl ?_
    refine ev_if (fun _ => ?_) (fun c => en_no (by rw [hi]; decide) c)
    refine ev_bk 2 (S' := (81, [some (.ref 0), some (.long v), none, some (.int n), some (.int i)], [.int (nI z)], md_c c fs (nI z, f), 0, 0)) rfl ?_
    exact ev_ret rfl rfl
  | succ k ih =>
    intro z f i hi hz
    rw [nI_pred] at hi
    subst hi
    obtain ⟨e1, e2⟩ := ih (z + 1) (upd f (nI z).toNatClampNeg (vp_nar .byte (md_oct v (nI k)))) _ (rw_m1 k) (by omega)
    have hm : md_high v (k + 1) (nI z, f) = md_high v k (nI (z + 1), upd f (nI z).toNatClampNeg (vp_nar .byte (md_oct v (nI k)))) := by
      show md_high v k (md_put (md_oct v (nI k)) (nI z, f)) = _
      unfold md_put
      rw [nI_1]
    rw [show z + (k + 1) = z + 1 + k by omega]
    rw [hm]
    refine ⟨?_, e2⟩
    refine ev_bk 2 (S' := (bif en_cmp .lt (nI k) 0 then 77 else 43, [some (.ref 0), some (.long v), none, some (.int n), some (.int (nI k))], [], md_c c fs (nI z, f), 0, 0)) rfl ?_
    refine ev_if (fun c => en_no c (en_lt_f (nI_pos (by omega)))) (fun _ => ?_)
    refine ev_bk 11 (S' := (60, [some (.ref 0), some (.long v), none, some (.int n), some (.int (nI k))], [.int (md_oct v (nI k)), .int (nI z), .ref 1], md_c c fs (nI z, f), 0, 0)) rfl ?_
    refine ev_bast (n := 6000) (f := f) rfl rfl (en_bad_nI (by omega) (by decide)) ?_
    refine ev_bk 8 (S' := (38, [some (.ref 0), some (.long v), none, some (.int n), some (.int (nI k + Int32.ofInt (-1)))], [], md_c c fs (nI z + 1, upd f (nI z).toNatClampNeg (vp_nar .byte (md_oct v (nI k)))), 0, 0)) rfl ?_
    rw [nI_1]
    exact e1
/-- the reference refuses: n is not 1 .. 8 -/
theorem sp_feedm_range (c : Int32) (fs : List Value) (q : md_S) (v : Int64) (n : Int32) (h : fn_in n 1 8 = 0) : en_Ev pg_P tb pg_cr 256 (0, [some (.ref 0), some (.long v), none, some (.int n), none], [], md_c c fs q, 0, 0) (some (.int (-2))) (md_c 0 fs q) := by
  refine ev_bk 6 (S' := (9, [some (.ref 0), some (.long v), none, some (.int n), none], [.int 8, .int 1, .int n], md_c 0 fs q, 0, 0)) rfl ?_
  refine ev_callF [] (as0 := [.int n, .int 1, .int 8]) (sp_in n 1 8) rfl rfl rfl (Nat.le_of_ble_eq_true rfl) rfl rfl rfl (Nat.le_of_ble_eq_true rfl) (Nat.le_of_ble_eq_true rfl) ?_
  refine ev_bk 1 (S' := (bif en_cmp .ne (fn_in n 1 8) 0 then 18 else 15, [some (.ref 0), some (.long v), none, some (.int n), none], [], md_c 0 fs q, 0, 0)) rfl ?_
  rw [h]
  refine ev_bk 1 (S' := (17, [some (.ref 0), some (.long v), none, some (.int n), none], [.int (-2)], md_c 0 fs q, 0, 0)) rfl ?_
  exact ev_ret rfl rfl
end FeedMd
