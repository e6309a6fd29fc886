/-! feed(v, n) on both sides. The class: cells 0 the house, 1 its tray, 2 the tray's cells. The reference: 0 the object, 1 its tray -/
section FeedSp
variable {tb : en_T}
def th_c (fs : List Value) (q : rw_S) : en_H := [.inr (11, .ref 1 :: fs), .inr (6, [.ref 2, .int q.1, .int q.2.1, .int q.2.2.1]), .inl (0, 6000, .inl q.2.2.2)]
theorem en_le_t {x y : Int32} (h : x ≤ y) : en_cmp .le x y = true := decide_eq_true h
theorem en_le_f {x y : Int32} (h : ¬ x ≤ y) : en_cmp .le x y = false := decide_eq_false h
theorem en_gt_t {x y : Int32} (h : y < x) : en_cmp .gt x y = true := decide_eq_true h
theorem en_gt_f {x y : Int32} (h : ¬ y < x) : en_cmp .gt x y = false := decide_eq_false h
/-- the class refuses: n is not 1 .. 8 -/
theorem sp_feed_range (fs : List Value) (q : rw_S) (v : Int64) (n : Int32) (h : n < 1 ∨ ¬ n ≤ 8) : en_Ev pg_P tb pg_cr 17 (0, [some (.ref 0), some (.long v), none, some (.int n)], [], th_c fs q, 0, 0) (some (.int (-2))) (th_c fs q) := by
  refine ev_bk 3 (S' := (bif en_cmp .lt n 1 then 11 else 5, [some (.ref 0), some (.long v), none, some (.int n)], [], th_c fs q, 0, 0)) rfl ?_
  refine ev_if (fun c1 => ?_) (fun c1 => ?_)
  · refine ev_bk 1 (S' := (13, [some (.ref 0), some (.long v), none, some (.int n)], [.int (-2)], th_c fs q, 0, 0)) rfl ?_
    exact ev_ret rfl rfl
  · refine ev_bk 3 (S' := (bif en_cmp .le n 8 then 14 else 11, [some (.ref 0), some (.long v), none, some (.int n)], [], th_c fs q, 0, 0)) rfl ?_
    refine ev_if (fun c2 => ?_) (fun c2 => ?_)
    · rcases h with z | z
      · exact en_no (en_lt_t z) c1
      · exact en_no c2 (en_le_f z)
    · refine ev_bk 1 (S' := (13, [some (.ref 0), some (.long v), none, some (.int n)], [.int (-2)], th_c fs q, 0, 0)) rfl ?_
      exact ev_ret rfl rfl
/-- the class refuses: no room -/
theorem sp_feed_room (fs : List Value) (q : rw_S) (v : Int64) (n : Int32) (h1 : ¬ n < 1) (h2 : n ≤ 8) (h3 : ¬ n ≤ 6000 - q.1) : en_Ev pg_P tb pg_cr 17 (0, [some (.ref 0), some (.long v), none, some (.int n)], [], th_c fs q, 0, 0) (some (.int (-4))) (th_c fs q) := by
  refine ev_bk 3 (S' := (bif en_cmp .lt n 1 then 11 else 5, [some (.ref 0), some (.long v), none, some (.int n)], [], th_c fs q, 0, 0)) rfl ?_
  refine ev_if (fun c1 => en_no c1 (en_lt_f h1)) (fun c1 => ?_)
  refine ev_bk 3 (S' := (bif en_cmp .le n 8 then 14 else 11, [some (.ref 0), some (.long v), none, some (.int n)], [], th_c fs q, 0, 0)) rfl ?_
  refine ev_if (fun c2 => ?_) (fun c2 => en_no (en_le_t h2) c2)
  refine ev_bk 7 (S' := (bif en_cmp .le n (6000 - q.1) then 32 else 29, [some (.ref 0), some (.long v), none, some (.int n)], [], th_c fs q, 0, 0)) rfl ?_
  refine ev_if (fun c3 => en_no c3 (en_le_f h3)) (fun c3 => ?_)
  refine ev_bk 1 (S' := (31, [some (.ref 0), some (.long v), none, some (.int n)], [.int (-4)], th_c fs q, 0, 0)) rfl ?_
  exact ev_ret rfl rfl
/-- the class feeds -/
theorem sp_feed (fs : List Value) (q : rw_S) (v : Int64) (k : Nat) (hk1 : 1 ≤ k) (hk8 : k ≤ 8) (h3 : nI k ≤ 6000 - q.1) : en_Ev pg_P tb pg_cr 17 (0, [some (.ref 0), some (.long v), none, some (.int (nI k))], [], th_c fs q, 0, 0) (some (.int (rw_high 6000 v k q).1)) (th_c fs (rw_high 6000 v k q)) := by
  have h1 : ¬ nI k < 1 := nI_nlt (b := 1) hk1 (by omega)
  have h2 : nI k ≤ 8 := nI_le (b := 8) hk8 (by decide)
  refine ev_bk 3 (S' := (bif en_cmp .lt (nI k) 1 then 11 else 5, [some (.ref 0), some (.long v), none, some (.int (nI k))], [], th_c fs q, 0, 0)) rfl ?_
  refine ev_if (fun c1 => en_no c1 (en_lt_f h1)) (fun c1 => ?_)
  refine ev_bk 3 (S' := (bif en_cmp .le (nI k) 8 then 14 else 11, [some (.ref 0), some (.long v), none, some (.int (nI k))], [], th_c fs q, 0, 0)) rfl ?_
  refine ev_if (fun c2 => ?_) (fun c2 => en_no (en_le_t h2) c2)
  refine ev_bk 7 (S' := (bif en_cmp .le (nI k) (6000 - q.1) then 32 else 29, [some (.ref 0), some (.long v), none, some (.int (nI k))], [], th_c fs q, 0, 0)) rfl ?_
  refine ev_if (fun c3 => ?_) (fun c3 => en_no (en_le_t h3) c3)
  refine ev_bk 4 (S' := (38, [some (.ref 0), some (.long v), none, some (.int (nI k))], [.int (nI k), .long v, .ref 1], th_c fs q, 0, 0)) rfl ?_
  refine ev_callF [1, 2] (as0 := [.ref 0, .long v, .int (nI k)]) (sp_Row_addHigh (N := 6000) (by decide) v k (by omega) q) rfl rfl rfl (Nat.le_of_ble_eq_true rfl) rfl rfl rfl (Nat.le_of_ble_eq_true rfl) (Nat.le_of_ble_eq_true rfl) ?_
  refine ev_bk 3 (S' := (48, [some (.ref 0), some (.long v), none, some (.int (nI k))], [.int (rw_high 6000 v k q).1], th_c fs (rw_high 6000 v k q), 0, 0)) rfl ?_
  exact ev_ret rfl rfl
/-! the reference -/
def fn_in (a lo hi : Int32) : Int32 := if a < lo then 0 else if hi < a then 0 else 1
theorem sp_in (a lo hi : Int32) : en_Ev pg_P tb pg_cr 257 (0, [some (.int a), some (.int lo), some (.int hi)], [], [], 0, 0) (some (.int (fn_in a lo hi))) [] := by
  refine ev_bk 3 (S' := (bif en_cmp .lt a lo then 14 else 5, [some (.int a), some (.int lo), some (.int hi)], [], [], 0, 0)) rfl ?_
  refine ev_if (fun c1 => ?_) (fun c1 => ?_)
  · rw [show fn_in a lo hi = 0 from if_pos (of_decide_eq_true c1)]
    refine ev_bk 1 (S' := (15, [some (.int a), some (.int lo), some (.int hi)], [.int 0], [], 0, 0)) rfl ?_
    exact ev_ret rfl rfl
  · refine ev_bk 3 (S' := (bif en_cmp .gt a hi then 14 else 10, [some (.int a), some (.int lo), some (.int hi)], [], [], 0, 0)) rfl ?_
    refine ev_if (fun c2 => ?_) (fun c2 => ?_)
    · rw [show fn_in a lo hi = 0 from (if_neg (of_decide_eq_false c1)).trans (if_pos (of_decide_eq_true c2))]
      refine ev_bk 1 (S' := (15, [some (.int a), some (.int lo), some (.int hi)], [.int 0], [], 0, 0)) rfl ?_
      exact ev_ret rfl rfl
    · rw [show fn_in a lo hi = 1 from (if_neg (of_decide_eq_false c1)).trans (if_neg (of_decide_eq_false c2))]
      refine ev_bk 2 (S' := (15, [some (.int a), some (.int lo), some (.int hi)], [.int 1], [], 0, 0)) rfl ?_
      exact ev_ret rfl rfl
end FeedSp
