/-! what is to be shown of each method, by program (wip/gen/vcall.py) -/
theorem vc_PH_feed {q : Nat × (Nat → Int32)} {S S' : ms} {r : Option Value} (x1 x3 : Int)
    (F : ((w32 x3 < 1) → r = some (vI ((-2))) ∧ S' = S) ∧ ((¬ w32 x3 < 1) → ((w32 x3 ≤ 8) → ((w32 x3 ≤ w32 (6000 - (S.1 1 1))) → ∃ (S1 : ms), EV q 18 0 [some (.ref 1), some (vL x1), none, some (vI x3), none] [] S none S1 ∧ r = some (vI (S1.1 1 1)) ∧ S' = S1) ∧ ((¬ w32 x3 ≤ w32 (6000 - (S.1 1 1))) → r = some (vI ((-4))) ∧ S' = S)) ∧ ((¬ w32 x3 ≤ 8) → r = some (vI ((-2))) ∧ S' = S))) : EV q 17 0 [some (.ref 0), some (vL x1), none, some (vI x3)] [] S r S' := by
  unfold EV
  refine ev_bk 2 (S' := (2, [some (.ref 0), some (vL x1), none, some (vI x3)], [vI 1, vI x3], hp S, 0, 0)) rfl ?_
  refine mv_icmp 11 rfl rfl (fun c => ?_) (fun c => ?_)
  · have F := F.1 c
    refine ev_bk 1 (S' := (13, [some (.ref 0), some (vL x1), none, some (vI x3)], [vI ((-2))], hp S, 0, 0)) rfl ?_
    obtain ⟨rfl, rfl⟩ := F
    exact ev_ret rfl rfl
  · have F := F.2 c
    refine ev_bk 2 (S' := (8, [some (.ref 0), some (vL x1), none, some (vI x3)], [vI 8, vI x3], hp S, 0, 0)) rfl ?_
    refine mv_icmp 14 rfl rfl (fun c => ?_) (fun c => ?_)
    · have F := F.1 c
      refine ev_bk 3 (S' := (19, [some (.ref 0), some (vL x1), none, some (vI x3)], [.ref 0, vI 6000, vI x3], hp S, 0, 0)) rfl ?_
      refine mv_gfR rfl rfl (sh_0) (by decide) rfl ?_
      refine mv_gfI rfl rfl (sh_1) (by decide) rfl ?_
      refine mv_isub rfl ?_
      refine mv_icmp 32 rfl rfl (fun c => ?_) (fun c => ?_)
      · have F := F.1 c
        refine ev_bk 1 (S' := (33, [some (.ref 0), some (vL x1), none, some (vI x3)], [.ref 0], hp S, 0, 0)) rfl ?_
        refine mv_gfR rfl rfl (sh_0) (by decide) rfl ?_
        refine ev_bk 2 (S' := (38, [some (.ref 0), some (vL x1), none, some (vI x3)], [vI x3, vL x1, .ref 1], hp S, 0, 0)) rfl ?_
        obtain ⟨S1, e2, F⟩ := F
        refine mv_calv (as := [vL x1, vI x3]) (rest := []) e2 (sh_1) rfl rfl rfl ⟨rfl, rfl⟩ rfl rfl rfl rfl rfl ?_
        refine ev_bk 1 (S' := (42, [some (.ref 0), some (vL x1), none, some (vI x3)], [.ref 0], hp S1, 0, 0)) rfl ?_
        refine mv_gfR rfl rfl (sh_0) (by decide) rfl ?_
        refine mv_gfI rfl rfl (sh_1) (by decide) rfl ?_
        obtain ⟨rfl, rfl⟩ := F
        exact ev_ret rfl rfl
      · have F := F.2 c
        refine ev_bk 1 (S' := (31, [some (.ref 0), some (vL x1), none, some (vI x3)], [vI ((-4))], hp S, 0, 0)) rfl ?_
        obtain ⟨rfl, rfl⟩ := F
        exact ev_ret rfl rfl
    · have F := F.2 c
      refine ev_bk 1 (S' := (13, [some (.ref 0), some (vL x1), none, some (vI x3)], [vI ((-2))], hp S, 0, 0)) rfl ?_
      obtain ⟨rfl, rfl⟩ := F
      exact ev_ret rfl rfl
theorem vc_PH_fill {q : Nat × (Nat → Int32)} {S S' : ms} {r : Option Value} (x1 x2 x3 : Int)
    (F : ((w32 x1 < 0) → r = some (vI ((-2))) ∧ S' = S) ∧ ((¬ w32 x1 < 0) → ((3 < w32 x1) → r = some (vI ((-2))) ∧ S' = S) ∧ ((¬ 3 < w32 x1) → ((0 ≤ w32 x2) → ((w32 x2 ≤ w32 (6000 - (S.1 1 1))) → EV q 20 40 [some (.ref 0), some (vI x1), some (vI x2), some (vI x3), some (vI x3), some (vI 0)] [] S r S') ∧ ((¬ w32 x2 ≤ w32 (6000 - (S.1 1 1))) → r = some (vI ((-4))) ∧ S' = S)) ∧ ((¬ 0 ≤ w32 x2) → r = some (vI ((-2))) ∧ S' = S)))) : EV q 20 0 [some (.ref 0), some (vI x1), some (vI x2), some (vI x3), none, none] [] S r S' := by
  unfold EV
  refine ev_bk 1 (S' := (1, [some (.ref 0), some (vI x1), some (vI x2), some (vI x3), none, none], [vI x1], hp S, 0, 0)) rfl ?_
  refine mv_if 13 rfl rfl (fun c => ?_) (fun c => ?_)
  · have F := F.1 c
    refine ev_bk 1 (S' := (15, [some (.ref 0), some (vI x1), some (vI x2), some (vI x3), none, none], [vI ((-2))], hp S, 0, 0)) rfl ?_
    obtain ⟨rfl, rfl⟩ := F
    exact ev_ret rfl rfl
  · have F := F.2 c
    refine ev_bk 2 (S' := (6, [some (.ref 0), some (vI x1), some (vI x2), some (vI x3), none, none], [vI 3, vI x1], hp S, 0, 0)) rfl ?_
    refine mv_icmp 13 rfl rfl (fun c => ?_) (fun c => ?_)
    · have F := F.1 c
      refine ev_bk 1 (S' := (15, [some (.ref 0), some (vI x1), some (vI x2), some (vI x3), none, none], [vI ((-2))], hp S, 0, 0)) rfl ?_
      obtain ⟨rfl, rfl⟩ := F
      exact ev_ret rfl rfl
    · have F := F.2 c
      refine ev_bk 1 (S' := (10, [some (.ref 0), some (vI x1), some (vI x2), some (vI x3), none, none], [vI x2], hp S, 0, 0)) rfl ?_
      refine mv_if 16 rfl rfl (fun c => ?_) (fun c => ?_)
      · have F := F.1 c
        refine ev_bk 3 (S' := (21, [some (.ref 0), some (vI x1), some (vI x2), some (vI x3), none, none], [.ref 0, vI 6000, vI x2], hp S, 0, 0)) rfl ?_
        refine mv_gfR rfl rfl (sh_0) (by decide) rfl ?_
        refine mv_gfI rfl rfl (sh_1) (by decide) rfl ?_
        refine mv_isub rfl ?_
        refine mv_icmp 34 rfl rfl (fun c => ?_) (fun c => ?_)
        · have F := F.1 c
          refine ev_bk 4 (S' := (40, [some (.ref 0), some (vI x1), some (vI x2), some (vI x3), some (vI x3), some (vI 0)], [], hp S, 0, 0)) rfl ?_
          exact F
        · have F := F.2 c
          refine ev_bk 1 (S' := (33, [some (.ref 0), some (vI x1), some (vI x2), some (vI x3), none, none], [vI ((-4))], hp S, 0, 0)) rfl ?_
          obtain ⟨rfl, rfl⟩ := F
          exact ev_ret rfl rfl
      · have F := F.2 c
        refine ev_bk 1 (S' := (15, [some (.ref 0), some (vI x1), some (vI x2), some (vI x3), none, none], [vI ((-2))], hp S, 0, 0)) rfl ?_
        obtain ⟨rfl, rfl⟩ := F
        exact ev_ret rfl rfl
theorem vc_PH_fill_40 {q : Nat × (Nat → Int32)} {S S' : ms} {r : Option Value} (x1 x2 x3 x4 x5 : Int)
    (F : ((w32 x2 ≤ w32 x5) → r = some (vI (S.1 1 1)) ∧ S' = S) ∧ ((¬ w32 x2 ≤ w32 x5) → ∃ (z3 : Int) (S1 : ms), EV q 21 0 [some (.ref 0), some (vI x1), some (vI (((x4 * 1664525) + 1013904223) % 4294967296 / 16777216))] [] S (some (vI z3)) S1 ∧ ∃ (S4 : ms), EV q 19 0 [some (.ref 1), some (vI z3)] [] S1 none S4 ∧ EV q 20 40 [some (.ref 0), some (vI x1), some (vI x2), some (vI x3), some (vI ((x4 * 1664525) + 1013904223)), some (vI (x5 + 1))] [] S4 r S')) : EV q 20 40 [some (.ref 0), some (vI x1), some (vI x2), some (vI x3), some (vI x4), some (vI x5)] [] S r S' := by
  unfold EV
  refine ev_bk 2 (S' := (43, [some (.ref 0), some (vI x1), some (vI x2), some (vI x3), some (vI x4), some (vI x5)], [vI x2, vI x5], hp S, 0, 0)) rfl ?_
  refine mv_icmp 79 rfl rfl (fun c => ?_) (fun c => ?_)
  · have F := F.1 c
    refine ev_bk 1 (S' := (80, [some (.ref 0), some (vI x1), some (vI x2), some (vI x3), some (vI x4), some (vI x5)], [.ref 0], hp S, 0, 0)) rfl ?_
    refine mv_gfR rfl rfl (sh_0) (by decide) rfl ?_
    refine mv_gfI rfl rfl (sh_1) (by decide) rfl ?_
    obtain ⟨rfl, rfl⟩ := F
    exact ev_ret rfl rfl
  · have F := F.2 c
    refine ev_bk 2 (S' := (50, [some (.ref 0), some (vI x1), some (vI x2), some (vI x3), some (vI x4), some (vI x5)], [vI 1664525, vI x4], hp S, 0, 0)) rfl ?_
    refine mv_imul rfl ?_
    refine ev_bk 1 (S' := (53, [some (.ref 0), some (vI x1), some (vI x2), some (vI x3), some (vI x4), some (vI x5)], [vI 1013904223, vI (x4 * 1664525)], hp S, 0, 0)) rfl ?_
    refine mv_iadd rfl ?_
    refine ev_bk 2 (S' := (57, [some (.ref 0), some (vI x1), some (vI x2), some (vI x3), some (vI ((x4 * 1664525) + 1013904223)), some (vI x5)], [.ref 0], hp S, 0, 0)) rfl ?_
    refine mv_gfR rfl rfl (sh_0) (by decide) rfl ?_
    refine ev_bk 4 (S' := (66, [some (.ref 0), some (vI x1), some (vI x2), some (vI x3), some (vI ((x4 * 1664525) + 1013904223)), some (vI x5)], [vI 24, vI ((x4 * 1664525) + 1013904223), vI x1, .ref 0, .ref 1], hp S, 0, 0)) rfl ?_
    refine mv_iushr 16777216 rfl rfl ?_
    obtain ⟨z3, S1, e2, F⟩ := F
    refine mv_calv (as := [vI x1, vI (((x4 * 1664525) + 1013904223) % 4294967296 / 16777216)]) (rest := [.ref 1]) e2 (sh_0) rfl rfl rfl ⟨rfl, rfl⟩ rfl rfl rfl rfl rfl ?_
    obtain ⟨S4, e5, F⟩ := F
    refine mv_calv (as := [vI z3]) (rest := []) e5 (sh_1) rfl rfl rfl ⟨rfl, rfl⟩ rfl rfl rfl rfl rfl ?_
    refine mv_inc (lv' := [some (.ref 0), some (vI x1), some (vI x2), some (vI x3), some (vI ((x4 * 1664525) + 1013904223)), some (vI (x5 + 1))]) 5 1 rfl rfl rfl rfl ?_
    refine mv_goto 40 rfl rfl ?_
    exact F
theorem vc_PH_ruled {q : Nat × (Nat → Int32)} {S S' : ms} {r : Option Value} (x1 x2 : Int)
    (F : ((w32 x1 = 1) → r = some (vI (97 + (Int.tmod (w32 x2) (w32 4)))) ∧ S' = S) ∧ ((w32 x1 = 2) → ((240 ≤ w32 x2) → r = some (vI x2) ∧ S' = S) ∧ ((¬ 240 ≤ w32 x2) → ∃ (z3 : Int) (S1 : ms), EV q 22 0 [some (.ref 1), some (vI 17), some (vI x2)] [] S (some (vI z3)) S1 ∧ r = some (vI z3) ∧ S' = S1)) ∧ ((w32 x1 = 3) → ((230 ≤ w32 x2) → r = some (vI x2) ∧ S' = S) ∧ ((¬ 230 ≤ w32 x2) → ∃ (z6 : Int) (S4 : ms), EV q 22 0 [some (.ref 1), some (vI 1), some (vI x2)] [] S (some (vI z6)) S4 ∧ r = some (vI z6) ∧ S' = S4)) ∧ ((¬ w32 x1 = 1) → (¬ w32 x1 = 2) → (¬ w32 x1 = 3) → r = some (vI x2) ∧ S' = S)) : EV q 21 0 [some (.ref 0), some (vI x1), some (vI x2)] [] S r S' := by
  unfold EV
  refine ev_bk 1 (S' := (1, [some (.ref 0), some (vI x1), some (vI x2)], [vI x1], hp S, 0, 0)) rfl ?_
  by_cases d0 : w32 x1 < 1
  · have F := F.2.2.2 (ts_lo d0 (by decide)) (ts_lo d0 (by decide)) (ts_lo d0 (by decide))
    refine mv_tout 78 (Or.inl d0) rfl rfl ?_
    refine ev_bk 1 (S' := (79, [some (.ref 0), some (vI x1), some (vI x2)], [vI x2], hp S, 0, 0)) rfl ?_
    obtain ⟨rfl, rfl⟩ := F
    exact ev_ret rfl rfl
  by_cases d1 : w32 x1 < 2
  · have e := ts_eq d0 d1
    have F := F.1 e
    refine mv_tin 28 1 e rfl (by decide) rfl rfl ?_
    refine ev_bk 3 (S' := (32, [some (.ref 0), some (vI x1), some (vI x2)], [vI 4, vI x2, vI 97], hp S, 0, 0)) rfl ?_
    refine mv_irem (by decide) rfl ?_
    refine mv_iadd rfl ?_
    obtain ⟨rfl, rfl⟩ := F
    exact ev_ret rfl rfl
  by_cases d2 : w32 x1 < 3
  · have e := ts_eq d1 d2
    have F := F.2.1 e
    refine mv_tin 35 2 e rfl (by decide) rfl rfl ?_
    refine ev_bk 2 (S' := (39, [some (.ref 0), some (vI x1), some (vI x2)], [vI 240, vI x2], hp S, 0, 0)) rfl ?_
    refine mv_icmp 55 rfl rfl (fun c => ?_) (fun c => ?_)
    · have F := F.1 c
      refine ev_bk 1 (S' := (56, [some (.ref 0), some (vI x1), some (vI x2)], [vI x2], hp S, 0, 0)) rfl ?_
      obtain ⟨rfl, rfl⟩ := F
      exact ev_ret rfl rfl
    · have F := F.2 c
      refine ev_bk 1 (S' := (43, [some (.ref 0), some (vI x1), some (vI x2)], [.ref 0], hp S, 0, 0)) rfl ?_
      refine mv_gfR rfl rfl (sh_0) (by decide) rfl ?_
      refine ev_bk 2 (S' := (49, [some (.ref 0), some (vI x1), some (vI x2)], [vI x2, vI 17, .ref 1], hp S, 0, 0)) rfl ?_
      obtain ⟨z3, S1, e2, F⟩ := F
      refine mv_calv (as := [vI 17, vI x2]) (rest := []) e2 (sh_1) rfl rfl rfl ⟨rfl, rfl⟩ rfl rfl rfl rfl rfl ?_
      refine mv_goto 56 rfl rfl ?_
      obtain ⟨rfl, rfl⟩ := F
      exact ev_ret rfl rfl
  by_cases d3 : w32 x1 < 4
  · have e := ts_eq d2 d3
    have F := F.2.2.1 e
    refine mv_tin 57 3 e rfl (by decide) rfl rfl ?_
    refine ev_bk 2 (S' := (61, [some (.ref 0), some (vI x1), some (vI x2)], [vI 230, vI x2], hp S, 0, 0)) rfl ?_
    refine mv_icmp 76 rfl rfl (fun c => ?_) (fun c => ?_)
    · have F := F.1 c
      refine ev_bk 1 (S' := (77, [some (.ref 0), some (vI x1), some (vI x2)], [vI x2], hp S, 0, 0)) rfl ?_
      obtain ⟨rfl, rfl⟩ := F
      exact ev_ret rfl rfl
    · have F := F.2 c
      refine ev_bk 1 (S' := (65, [some (.ref 0), some (vI x1), some (vI x2)], [.ref 0], hp S, 0, 0)) rfl ?_
      refine mv_gfR rfl rfl (sh_0) (by decide) rfl ?_
      refine ev_bk 2 (S' := (70, [some (.ref 0), some (vI x1), some (vI x2)], [vI x2, vI 1, .ref 1], hp S, 0, 0)) rfl ?_
      obtain ⟨z6, S4, e5, F⟩ := F
      refine mv_calv (as := [vI 1, vI x2]) (rest := []) e5 (sh_1) rfl rfl rfl ⟨rfl, rfl⟩ rfl rfl rfl rfl rfl ?_
      refine mv_goto 77 rfl rfl ?_
      obtain ⟨rfl, rfl⟩ := F
      exact ev_ret rfl rfl
  have F := F.2.2.2 (ts_hi d3 (by decide)) (ts_hi d3 (by decide)) (ts_hi d3 (by decide))
  refine mv_tout 78 (Or.inr (ts_gt (hi := 3) d3)) rfl rfl ?_
  refine ev_bk 1 (S' := (79, [some (.ref 0), some (vI x1), some (vI x2)], [vI x2], hp S, 0, 0)) rfl ?_
  obtain ⟨rfl, rfl⟩ := F
  exact ev_ret rfl rfl
theorem vc_PH_cut {q : Nat × (Nat → Int32)} {S S' : ms} {r : Option Value} (x1 : Int)
    (F : ((w32 x1 < 0) → r = some (vI ((-2))) ∧ S' = S) ∧ ((¬ w32 x1 < 0) → ((w32 x1 ≤ w32 (S.1 1 1)) → ∀ S1 : ms, S1 = wI S 1 1 x1 → r = some (vI (S.1 1 1)) ∧ S' = S1) ∧ ((¬ w32 x1 ≤ w32 (S.1 1 1)) → r = some (vI ((-2))) ∧ S' = S))) : EV q 23 0 [some (.ref 0), some (vI x1), none] [] S r S' := by
  unfold EV
  refine ev_bk 1 (S' := (1, [some (.ref 0), some (vI x1), none], [vI x1], hp S, 0, 0)) rfl ?_
  refine mv_if 15 rfl rfl (fun c => ?_) (fun c => ?_)
  · have F := F.1 c
    refine ev_bk 1 (S' := (17, [some (.ref 0), some (vI x1), none], [vI ((-2))], hp S, 0, 0)) rfl ?_
    obtain ⟨rfl, rfl⟩ := F
    exact ev_ret rfl rfl
  · have F := F.2 c
    refine ev_bk 2 (S' := (6, [some (.ref 0), some (vI x1), none], [.ref 0, vI x1], hp S, 0, 0)) rfl ?_
    refine mv_gfR rfl rfl (sh_0) (by decide) rfl ?_
    refine mv_gfI rfl rfl (sh_1) (by decide) rfl ?_
    refine mv_icmp 18 rfl rfl (fun c => ?_) (fun c => ?_)
    · have F := F.1 c
      refine ev_bk 1 (S' := (19, [some (.ref 0), some (vI x1), none], [.ref 0], hp S, 0, 0)) rfl ?_
      refine mv_gfR rfl rfl (sh_0) (by decide) rfl ?_
      refine mv_gfI rfl rfl (sh_1) (by decide) rfl ?_
      refine ev_bk 2 (S' := (27, [some (.ref 0), some (vI x1), some (vI (S.1 1 1))], [.ref 0], hp S, 0, 0)) rfl ?_
      refine mv_gfR rfl rfl (sh_0) (by decide) rfl ?_
      refine ev_bk 1 (S' := (31, [some (.ref 0), some (vI x1), some (vI (S.1 1 1))], [vI x1, .ref 1], hp S, 0, 0)) rfl ?_
      refine mv_pfI rfl rfl (sh_1) (by decide) rfl rfl ?_
      have F := F _ rfl
      refine ev_bk 1 (S' := (35, [some (.ref 0), some (vI x1), some (vI (S.1 1 1))], [vI (S.1 1 1)], hp (wI S 1 1 x1), 0, 0)) rfl ?_
      obtain ⟨rfl, rfl⟩ := F
      exact ev_ret rfl rfl
    · have F := F.2 c
      refine ev_bk 1 (S' := (17, [some (.ref 0), some (vI x1), none], [vI ((-2))], hp S, 0, 0)) rfl ?_
      obtain ⟨rfl, rfl⟩ := F
      exact ev_ret rfl rfl
theorem vc_PH_alter {q : Nat × (Nat → Int32)} {S S' : ms} {r : Option Value} (x1 x2 : Int)
    (F : ((w32 x1 < 0) → r = some (vI ((-1))) ∧ S' = S) ∧ ((¬ w32 x1 < 0) → ((w32 x1 < w32 (S.1 1 1)) → ((w32 x2 < 0) → r = some (vI ((-2))) ∧ S' = S) ∧ ((¬ w32 x2 < 0) → ((w32 x2 ≤ 255) → (0 ≤ w32 x1 ∧ w32 x1 < (6000 : Nat)) ∧ (0 ≤ w32 x1 ∧ w32 x1 < (6000 : Nat)) ∧ ∀ S3 : ms, S3 = wI S 2 (w32 x1) x2 → r = some (vI (S.1 2 (w32 x1))) ∧ S' = S3) ∧ ((¬ w32 x2 ≤ 255) → r = some (vI ((-2))) ∧ S' = S))) ∧ ((¬ w32 x1 < w32 (S.1 1 1)) → r = some (vI ((-1))) ∧ S' = S))) : EV q 24 0 [some (.ref 0), some (vI x1), some (vI x2), none] [] S r S' := by
  unfold EV
  refine ev_bk 1 (S' := (1, [some (.ref 0), some (vI x1), some (vI x2), none], [vI x1], hp S, 0, 0)) rfl ?_
  refine mv_if 15 rfl rfl (fun c => ?_) (fun c => ?_)
  · have F := F.1 c
    refine ev_bk 1 (S' := (16, [some (.ref 0), some (vI x1), some (vI x2), none], [vI ((-1))], hp S, 0, 0)) rfl ?_
    obtain ⟨rfl, rfl⟩ := F
    exact ev_ret rfl rfl
  · have F := F.2 c
    refine ev_bk 2 (S' := (6, [some (.ref 0), some (vI x1), some (vI x2), none], [.ref 0, vI x1], hp S, 0, 0)) rfl ?_
    refine mv_gfR rfl rfl (sh_0) (by decide) rfl ?_
    refine mv_gfI rfl rfl (sh_1) (by decide) rfl ?_
    refine mv_icmp 17 rfl rfl (fun c => ?_) (fun c => ?_)
    · have F := F.1 c
      refine ev_bk 1 (S' := (18, [some (.ref 0), some (vI x1), some (vI x2), none], [vI x2], hp S, 0, 0)) rfl ?_
      refine mv_if 28 rfl rfl (fun c => ?_) (fun c => ?_)
      · have F := F.1 c
        refine ev_bk 1 (S' := (30, [some (.ref 0), some (vI x1), some (vI x2), none], [vI ((-2))], hp S, 0, 0)) rfl ?_
        obtain ⟨rfl, rfl⟩ := F
        exact ev_ret rfl rfl
      · have F := F.2 c
        refine ev_bk 2 (S' := (25, [some (.ref 0), some (vI x1), some (vI x2), none], [vI 255, vI x2], hp S, 0, 0)) rfl ?_
        refine mv_icmp 31 rfl rfl (fun c => ?_) (fun c => ?_)
        · have F := F.1 c
          refine ev_bk 1 (S' := (32, [some (.ref 0), some (vI x1), some (vI x2), none], [.ref 0], hp S, 0, 0)) rfl ?_
          refine mv_gfR rfl rfl (sh_0) (by decide) rfl ?_
          refine mv_gfR rfl rfl (sh_1) (by decide) rfl ?_
          refine ev_bk 1 (S' := (39, [some (.ref 0), some (vI x1), some (vI x2), none], [vI x1, .ref 2], hp S, 0, 0)) rfl ?_
          obtain ⟨b1, F⟩ := F
          refine mv_ial rfl (sh_2) b1 ?_
          refine ev_bk 2 (S' := (42, [some (.ref 0), some (vI x1), some (vI x2), some (vI (S.1 2 (w32 x1)))], [.ref 0], hp S, 0, 0)) rfl ?_
          refine mv_gfR rfl rfl (sh_0) (by decide) rfl ?_
          refine mv_gfR rfl rfl (sh_1) (by decide) rfl ?_
          refine ev_bk 2 (S' := (50, [some (.ref 0), some (vI x1), some (vI x2), some (vI (S.1 2 (w32 x1)))], [vI x2, vI x1, .ref 2], hp S, 0, 0)) rfl ?_
          obtain ⟨b2, F⟩ := F
          refine mv_ias rfl (sh_2) b2 ?_
          have F := F _ rfl
          refine ev_bk 1 (S' := (52, [some (.ref 0), some (vI x1), some (vI x2), some (vI (S.1 2 (w32 x1)))], [vI (S.1 2 (w32 x1))], hp (wI S 2 (w32 x1) x2), 0, 0)) rfl ?_
          obtain ⟨rfl, rfl⟩ := F
          exact ev_ret rfl rfl
        · have F := F.2 c
          refine ev_bk 1 (S' := (30, [some (.ref 0), some (vI x1), some (vI x2), none], [vI ((-2))], hp S, 0, 0)) rfl ?_
          obtain ⟨rfl, rfl⟩ := F
          exact ev_ret rfl rfl
    · have F := F.2 c
      refine ev_bk 1 (S' := (16, [some (.ref 0), some (vI x1), some (vI x2), none], [vI ((-1))], hp S, 0, 0)) rfl ?_
      obtain ⟨rfl, rfl⟩ := F
      exact ev_ret rfl rfl
theorem vc_PH_octet {q : Nat × (Nat → Int32)} {S S' : ms} {r : Option Value} (x1 : Int)
    (F : ((w32 x1 < 0) → EV q 25 15 [some (.ref 0), some (vI x1)] [] S r S') ∧ ((¬ w32 x1 < 0) → ((w32 x1 < w32 (S.1 1 1)) → (0 ≤ w32 x1 ∧ w32 x1 < (6000 : Nat)) ∧ r = some (vI (S.1 2 (w32 x1))) ∧ S' = S) ∧ ((¬ w32 x1 < w32 (S.1 1 1)) → EV q 25 15 [some (.ref 0), some (vI x1)] [] S r S'))) : EV q 25 0 [some (.ref 0), some (vI x1)] [] S r S' := by
  unfold EV
  refine ev_bk 1 (S' := (1, [some (.ref 0), some (vI x1)], [vI x1], hp S, 0, 0)) rfl ?_
  refine mv_if 15 rfl rfl (fun c => ?_) (fun c => ?_)
  · have F := F.1 c
    exact F
  · have F := F.2 c
    refine ev_bk 2 (S' := (6, [some (.ref 0), some (vI x1)], [.ref 0, vI x1], hp S, 0, 0)) rfl ?_
    refine mv_gfR rfl rfl (sh_0) (by decide) rfl ?_
    refine mv_gfI rfl rfl (sh_1) (by decide) rfl ?_
    refine mv_icmp 19 rfl rfl (fun c => ?_) (fun c => ?_)
    · have F := F.1 c
      refine ev_bk 1 (S' := (20, [some (.ref 0), some (vI x1)], [.ref 0], hp S, 0, 0)) rfl ?_
      refine mv_gfR rfl rfl (sh_0) (by decide) rfl ?_
      refine mv_gfR rfl rfl (sh_1) (by decide) rfl ?_
      refine ev_bk 1 (S' := (27, [some (.ref 0), some (vI x1)], [vI x1, .ref 2], hp S, 0, 0)) rfl ?_
      obtain ⟨b1, F⟩ := F
      refine mv_ial rfl (sh_2) b1 ?_
      obtain ⟨rfl, rfl⟩ := F
      exact ev_ret rfl rfl
    · have F := F.2 c
      exact F
theorem vc_PH_octet_15 {q : Nat × (Nat → Int32)} {S S' : ms} {r : Option Value} (x1 : Int)
    (F : r = some (vI ((-1))) ∧ S' = S) : EV q 25 15 [some (.ref 0), some (vI x1)] [] S r S' := by
  unfold EV
  refine ev_bk 1 (S' := (16, [some (.ref 0), some (vI x1)], [vI ((-1))], hp S, 0, 0)) rfl ?_
  refine mv_goto 28 rfl rfl ?_
  obtain ⟨rfl, rfl⟩ := F
  exact ev_ret rfl rfl
theorem vc_PH_sum {q : Nat × (Nat → Int32)} {S S' : ms} {r : Option Value} (x1 : Int)
    (F : ((w32 x1 = 0) → ∃ (z3 : Int) (S1 : ms), EV q 27 0 [some (.ref 2), some (vI 0), some (vI (S.1 1 1)), none, none, none] [] S (some (vI z3)) S1 ∧ r = some (vL ((w32 z3) % 4294967296)) ∧ S' = S1) ∧ ((w32 x1 = 1) → ∃ (z6 : Int) (S4 : ms), EV q 28 0 [some (.ref 2), some (vI 0), some (vI (S.1 1 1)), none, none] [] S (some (vI z6)) S4 ∧ r = some (vL ((w32 z6) % 4294967296)) ∧ S' = S4) ∧ ((w32 x1 = 2) → ∃ (z9 : Int) (S7 : ms), EV q 29 0 [some (.ref 2), some (vI 0), some (vI (S.1 1 1)), none, none] [] S (some (vI z9)) S7 ∧ r = some (vL ((w32 z9) % 4294967296)) ∧ S' = S7) ∧ ((w32 x1 = 3) → ∃ (z12 : Int) (S10 : ms), EV q 30 0 [some (.ref 2), some (vI 0), some (vI (S.1 1 1)), none, none, none, none, none, none] [] S (some (vI z12)) S10 ∧ r = some (vL ((w32 z12) % 4294967296)) ∧ S' = S10) ∧ ((¬ w32 x1 = 0) → (¬ w32 x1 = 1) → (¬ w32 x1 = 2) → (¬ w32 x1 = 3) → r = some (vL ((-2))) ∧ S' = S)) : EV q 26 0 [some (.ref 0), some (vI x1)] [] S r S' := by
  unfold EV
  refine ev_bk 1 (S' := (1, [some (.ref 0), some (vI x1)], [vI x1], hp S, 0, 0)) rfl ?_
  by_cases d0 : w32 x1 < 0
  · have F := F.2.2.2.2 (ts_lo d0 (by decide)) (ts_lo d0 (by decide)) (ts_lo d0 (by decide)) (ts_lo d0 (by decide))
    refine mv_tout 128 (Or.inl d0) rfl rfl ?_
    refine ev_bk 1 (S' := (131, [some (.ref 0), some (vI x1)], [vL ((-2))], hp S, 0, 0)) rfl ?_
    obtain ⟨rfl, rfl⟩ := F
    exact ev_ret rfl rfl
  by_cases d1 : w32 x1 < 1
  · have e := ts_eq d0 d1
    have F := F.1 e
    refine mv_tin 32 0 e rfl (by decide) rfl rfl ?_
    refine ev_bk 1 (S' := (33, [some (.ref 0), some (vI x1)], [.ref 0], hp S, 0, 0)) rfl ?_
    refine mv_gfR rfl rfl (sh_0) (by decide) rfl ?_
    refine mv_gfR rfl rfl (sh_1) (by decide) rfl ?_
    refine ev_bk 2 (S' := (41, [some (.ref 0), some (vI x1)], [.ref 0, vI 0, .ref 2], hp S, 0, 0)) rfl ?_
    refine mv_gfR rfl rfl (sh_0) (by decide) rfl ?_
    refine mv_gfI rfl rfl (sh_1) (by decide) rfl ?_
    obtain ⟨z3, S1, e2, F⟩ := F
    refine mv_cals (as := [.ref 2, vI 0, vI (S.1 1 1)]) (rest := []) e2 rfl rfl rfl ⟨rfl, rfl, rfl⟩ rfl rfl rfl rfl ?_
    refine mv_i2l rfl ?_
    refine ev_bk 1 (S' := (54, [some (.ref 0), some (vI x1)], [vL 4294967295, vL (w32 z3)], hp S1, 0, 0)) rfl ?_
    refine mv_landm 4294967296 32 (by decide) rfl rfl rfl ?_
    obtain ⟨rfl, rfl⟩ := F
    exact ev_ret rfl rfl
  by_cases d2 : w32 x1 < 2
  · have e := ts_eq d1 d2
    have F := F.2.1 e
    refine mv_tin 56 1 e rfl (by decide) rfl rfl ?_
    refine ev_bk 1 (S' := (57, [some (.ref 0), some (vI x1)], [.ref 0], hp S, 0, 0)) rfl ?_
    refine mv_gfR rfl rfl (sh_0) (by decide) rfl ?_
    refine mv_gfR rfl rfl (sh_1) (by decide) rfl ?_
    refine ev_bk 2 (S' := (65, [some (.ref 0), some (vI x1)], [.ref 0, vI 0, .ref 2], hp S, 0, 0)) rfl ?_
    refine mv_gfR rfl rfl (sh_0) (by decide) rfl ?_
    refine mv_gfI rfl rfl (sh_1) (by decide) rfl ?_
    obtain ⟨z6, S4, e5, F⟩ := F
    refine mv_cals (as := [.ref 2, vI 0, vI (S.1 1 1)]) (rest := []) e5 rfl rfl rfl ⟨rfl, rfl, rfl⟩ rfl rfl rfl rfl ?_
    refine mv_i2l rfl ?_
    refine ev_bk 1 (S' := (78, [some (.ref 0), some (vI x1)], [vL 4294967295, vL (w32 z6)], hp S4, 0, 0)) rfl ?_
    refine mv_landm 4294967296 32 (by decide) rfl rfl rfl ?_
    obtain ⟨rfl, rfl⟩ := F
    exact ev_ret rfl rfl
  by_cases d3 : w32 x1 < 3
  · have e := ts_eq d2 d3
    have F := F.2.2.1 e
    refine mv_tin 80 2 e rfl (by decide) rfl rfl ?_
    refine ev_bk 1 (S' := (81, [some (.ref 0), some (vI x1)], [.ref 0], hp S, 0, 0)) rfl ?_
    refine mv_gfR rfl rfl (sh_0) (by decide) rfl ?_
    refine mv_gfR rfl rfl (sh_1) (by decide) rfl ?_
    refine ev_bk 2 (S' := (89, [some (.ref 0), some (vI x1)], [.ref 0, vI 0, .ref 2], hp S, 0, 0)) rfl ?_
    refine mv_gfR rfl rfl (sh_0) (by decide) rfl ?_
    refine mv_gfI rfl rfl (sh_1) (by decide) rfl ?_
    obtain ⟨z9, S7, e8, F⟩ := F
    refine mv_cals (as := [.ref 2, vI 0, vI (S.1 1 1)]) (rest := []) e8 rfl rfl rfl ⟨rfl, rfl, rfl⟩ rfl rfl rfl rfl ?_
    refine mv_i2l rfl ?_
    refine ev_bk 1 (S' := (102, [some (.ref 0), some (vI x1)], [vL 4294967295, vL (w32 z9)], hp S7, 0, 0)) rfl ?_
    refine mv_landm 4294967296 32 (by decide) rfl rfl rfl ?_
    obtain ⟨rfl, rfl⟩ := F
    exact ev_ret rfl rfl
  by_cases d4 : w32 x1 < 4
  · have e := ts_eq d3 d4
    have F := F.2.2.2.1 e
    refine mv_tin 104 3 e rfl (by decide) rfl rfl ?_
    refine ev_bk 1 (S' := (105, [some (.ref 0), some (vI x1)], [.ref 0], hp S, 0, 0)) rfl ?_
    refine mv_gfR rfl rfl (sh_0) (by decide) rfl ?_
    refine mv_gfR rfl rfl (sh_1) (by decide) rfl ?_
    refine ev_bk 2 (S' := (113, [some (.ref 0), some (vI x1)], [.ref 0, vI 0, .ref 2], hp S, 0, 0)) rfl ?_
    refine mv_gfR rfl rfl (sh_0) (by decide) rfl ?_
    refine mv_gfI rfl rfl (sh_1) (by decide) rfl ?_
    obtain ⟨z12, S10, e11, F⟩ := F
    refine mv_cals (as := [.ref 2, vI 0, vI (S.1 1 1)]) (rest := []) e11 rfl rfl rfl ⟨rfl, rfl, rfl⟩ rfl rfl rfl rfl ?_
    refine mv_i2l rfl ?_
    refine ev_bk 1 (S' := (126, [some (.ref 0), some (vI x1)], [vL 4294967295, vL (w32 z12)], hp S10, 0, 0)) rfl ?_
    refine mv_landm 4294967296 32 (by decide) rfl rfl rfl ?_
    obtain ⟨rfl, rfl⟩ := F
    exact ev_ret rfl rfl
  have F := F.2.2.2.2 (ts_hi d4 (by decide)) (ts_hi d4 (by decide)) (ts_hi d4 (by decide)) (ts_hi d4 (by decide))
  refine mv_tout 128 (Or.inr (ts_gt (hi := 3) d4)) rfl rfl ?_
  refine ev_bk 1 (S' := (131, [some (.ref 0), some (vI x1)], [vL ((-2))], hp S, 0, 0)) rfl ?_
  obtain ⟨rfl, rfl⟩ := F
  exact ev_ret rfl rfl
theorem vc_PH_length {q : Nat × (Nat → Int32)} {S S' : ms} {r : Option Value} (x1 : Int)
    (F : ∃ (z3 : Int) (S1 : ms), EV q 34 0 [some (.ref 0), some (vI x1)] [] S (some (vI z3)) S1 ∧ ((w32 z3 = 0) → r = some (vI ((-1))) ∧ S' = S1) ∧ ((¬ w32 z3 = 0) → (0 ≤ w32 x1 ∧ w32 x1 < (13 : Nat)) ∧ ∃ (o5 no5 : Nat), sh_r (SH 3).2.2 (w32 x1).toNat = some o5 ∧ isRow o5 no5 ∧ r = some (vI (S1.1 o5 1)) ∧ S' = S1)) : EV q 33 0 [some (.ref 0), some (vI x1)] [] S r S' := by
  unfold EV
  refine ev_bk 2 (S' := (2, [some (.ref 0), some (vI x1)], [vI x1, .ref 0], hp S, 0, 0)) rfl ?_
  obtain ⟨z3, S1, e2, F⟩ := F
  refine mv_calv (as := [vI x1]) (rest := []) e2 (sh_0) rfl rfl rfl ⟨rfl, rfl⟩ rfl rfl rfl rfl rfl ?_
  refine mv_if 20 rfl rfl (fun c => ?_) (fun c => ?_)
  · have F := F.1 c
    refine ev_bk 1 (S' := (21, [some (.ref 0), some (vI x1)], [vI ((-1))], hp S1, 0, 0)) rfl ?_
    obtain ⟨rfl, rfl⟩ := F
    exact ev_ret rfl rfl
  · have F := F.2 c
    refine ev_bk 1 (S' := (9, [some (.ref 0), some (vI x1)], [.ref 0], hp S1, 0, 0)) rfl ?_
    refine mv_gfR rfl rfl (sh_0) (by decide) rfl ?_
    refine ev_bk 1 (S' := (13, [some (.ref 0), some (vI x1)], [vI x1, .ref 3], hp S1, 0, 0)) rfl ?_
    obtain ⟨b4, o5, no5, e7, h6, F⟩ := F
    refine mv_aal rfl (sh_3) (Or.inl rfl) b4 e7 ?_
    refine mv_gfI rfl rfl (h6.1) (by decide) rfl ?_
    refine mv_goto 21 rfl rfl ?_
    obtain ⟨rfl, rfl⟩ := F
    exact ev_ret rfl rfl
theorem vc_PH_isLive {q : Nat × (Nat → Int32)} {S S' : ms} {r : Option Value} (x1 : Int)
    (F : ((w32 x1 < 1) → r = some (vI 0) ∧ S' = S) ∧ ((¬ w32 x1 < 1) → ((12 < w32 x1) → r = some (vI 0) ∧ S' = S) ∧ ((¬ 12 < w32 x1) → (0 ≤ w32 x1 ∧ w32 x1 < (13 : Nat)) ∧ ((w32 (S.1 4 (w32 x1)) = 0) → r = some (vI 0) ∧ S' = S) ∧ ((¬ w32 (S.1 4 (w32 x1)) = 0) → r = some (vI 1) ∧ S' = S)))) : EV q 34 0 [some (.ref 0), some (vI x1)] [] S r S' := by
  unfold EV
  refine ev_bk 2 (S' := (2, [some (.ref 0), some (vI x1)], [vI 1, vI x1], hp S, 0, 0)) rfl ?_
  refine mv_icmp 24 rfl rfl (fun c => ?_) (fun c => ?_)
  · have F := F.1 c
    refine ev_bk 1 (S' := (25, [some (.ref 0), some (vI x1)], [vI 0], hp S, 0, 0)) rfl ?_
    obtain ⟨rfl, rfl⟩ := F
    exact ev_ret rfl rfl
  · have F := F.2 c
    refine ev_bk 2 (S' := (8, [some (.ref 0), some (vI x1)], [vI 12, vI x1], hp S, 0, 0)) rfl ?_
    refine mv_icmp 24 rfl rfl (fun c => ?_) (fun c => ?_)
    · have F := F.1 c
      refine ev_bk 1 (S' := (25, [some (.ref 0), some (vI x1)], [vI 0], hp S, 0, 0)) rfl ?_
      obtain ⟨rfl, rfl⟩ := F
      exact ev_ret rfl rfl
    · have F := F.2 c
      refine ev_bk 1 (S' := (12, [some (.ref 0), some (vI x1)], [.ref 0], hp S, 0, 0)) rfl ?_
      refine mv_gfR rfl rfl (sh_0) (by decide) rfl ?_
      refine ev_bk 1 (S' := (16, [some (.ref 0), some (vI x1)], [vI x1, .ref 4], hp S, 0, 0)) rfl ?_
      obtain ⟨b1, F⟩ := F
      refine mv_zal rfl (sh_4) b1 ?_
      refine mv_if 24 rfl rfl (fun c => ?_) (fun c => ?_)
      · have F := F.1 c
        refine ev_bk 1 (S' := (25, [some (.ref 0), some (vI x1)], [vI 0], hp S, 0, 0)) rfl ?_
        obtain ⟨rfl, rfl⟩ := F
        exact ev_ret rfl rfl
      · have F := F.2 c
        refine ev_bk 1 (S' := (21, [some (.ref 0), some (vI x1)], [vI 1], hp S, 0, 0)) rfl ?_
        refine mv_goto 25 rfl rfl ?_
        obtain ⟨rfl, rfl⟩ := F
        exact ev_ret rfl rfl
theorem vc_PH_at {q : Nat × (Nat → Int32)} {S S' : ms} {r : Option Value} (x1 x2 : Int)
    (F : ∃ (z3 : Int) (S1 : ms), EV q 34 0 [some (.ref 0), some (vI x1)] [] S (some (vI z3)) S1 ∧ ((w32 z3 = 0) → r = some (vI ((-1))) ∧ S' = S1) ∧ ((¬ w32 z3 = 0) → ((w32 x2 < 0) → r = some (vI ((-1))) ∧ S' = S1) ∧ ((¬ w32 x2 < 0) → (0 ≤ w32 x1 ∧ w32 x1 < (13 : Nat)) ∧ ∃ (o5 no5 : Nat), sh_r (SH 3).2.2 (w32 x1).toNat = some o5 ∧ isRow o5 no5 ∧ ((w32 x2 < w32 (S1.1 o5 1)) → (0 ≤ w32 x1 ∧ w32 x1 < (13 : Nat)) ∧ ∃ (o9 no9 : Nat), sh_r (SH 3).2.2 (w32 x1).toNat = some o9 ∧ isRow o9 no9 ∧ (0 ≤ w32 x2 ∧ w32 x2 < (no9 : Nat)) ∧ r = some (vI (S1.1 (o9 + 1) (w32 x2))) ∧ S' = S1) ∧ ((¬ w32 x2 < w32 (S1.1 o5 1)) → r = some (vI ((-1))) ∧ S' = S1)))) : EV q 35 0 [some (.ref 0), some (vI x1), some (vI x2)] [] S r S' := by
  unfold EV
  refine ev_bk 2 (S' := (2, [some (.ref 0), some (vI x1), some (vI x2)], [vI x1, .ref 0], hp S, 0, 0)) rfl ?_
  obtain ⟨z3, S1, e2, F⟩ := F
  refine mv_calv (as := [vI x1]) (rest := []) e2 (sh_0) rfl rfl rfl ⟨rfl, rfl⟩ rfl rfl rfl rfl rfl ?_
  refine mv_if 25 rfl rfl (fun c => ?_) (fun c => ?_)
  · have F := F.1 c
    refine ev_bk 1 (S' := (26, [some (.ref 0), some (vI x1), some (vI x2)], [vI ((-1))], hp S1, 0, 0)) rfl ?_
    obtain ⟨rfl, rfl⟩ := F
    exact ev_ret rfl rfl
  · have F := F.2 c
    refine ev_bk 1 (S' := (9, [some (.ref 0), some (vI x1), some (vI x2)], [vI x2], hp S1, 0, 0)) rfl ?_
    refine mv_if 25 rfl rfl (fun c => ?_) (fun c => ?_)
    · have F := F.1 c
      refine ev_bk 1 (S' := (26, [some (.ref 0), some (vI x1), some (vI x2)], [vI ((-1))], hp S1, 0, 0)) rfl ?_
      obtain ⟨rfl, rfl⟩ := F
      exact ev_ret rfl rfl
    · have F := F.2 c
      refine ev_bk 2 (S' := (14, [some (.ref 0), some (vI x1), some (vI x2)], [.ref 0, vI x2], hp S1, 0, 0)) rfl ?_
      refine mv_gfR rfl rfl (sh_0) (by decide) rfl ?_
      refine ev_bk 1 (S' := (18, [some (.ref 0), some (vI x1), some (vI x2)], [vI x1, .ref 3, vI x2], hp S1, 0, 0)) rfl ?_
      obtain ⟨b4, o5, no5, e7, h6, F⟩ := F
      refine mv_aal rfl (sh_3) (Or.inl rfl) b4 e7 ?_
      refine mv_gfI rfl rfl (h6.1) (by decide) rfl ?_
      refine mv_icmp 27 rfl rfl (fun c => ?_) (fun c => ?_)
      · have F := F.1 c
        refine ev_bk 1 (S' := (28, [some (.ref 0), some (vI x1), some (vI x2)], [.ref 0], hp S1, 0, 0)) rfl ?_
        refine mv_gfR rfl rfl (sh_0) (by decide) rfl ?_
        refine ev_bk 1 (S' := (32, [some (.ref 0), some (vI x1), some (vI x2)], [vI x1, .ref 3], hp S1, 0, 0)) rfl ?_
        obtain ⟨b8, o9, no9, e11, h10, F⟩ := F
        refine mv_aal rfl (sh_3) (Or.inl rfl) b8 e11 ?_
        refine mv_gfR rfl rfl (h10.1) (by decide) rfl ?_
        refine ev_bk 1 (S' := (37, [some (.ref 0), some (vI x1), some (vI x2)], [vI x2, .ref (o9 + 1)], hp S1, 0, 0)) rfl ?_
        obtain ⟨b12, F⟩ := F
        refine mv_ial rfl (h10.2) b12 ?_
        obtain ⟨rfl, rfl⟩ := F
        exact ev_ret rfl rfl
      · have F := F.2 c
        refine ev_bk 1 (S' := (26, [some (.ref 0), some (vI x1), some (vI x2)], [vI ((-1))], hp S1, 0, 0)) rfl ?_
        obtain ⟨rfl, rfl⟩ := F
        exact ev_ret rfl rfl
theorem vc_PH_load {q : Nat × (Nat → Int32)} {S S' : ms} {r : Option Value} (x1 : Int)
    (F : ∃ (z3 : Int) (S1 : ms), EV q 34 0 [some (.ref 0), some (vI x1)] [] S (some (vI z3)) S1 ∧ ((¬ w32 z3 = 0) → (0 ≤ w32 x1 ∧ w32 x1 < (13 : Nat)) ∧ ∃ (o5 no5 : Nat), sh_r (SH 3).2.2 (w32 x1).toNat = some o5 ∧ isRow o5 no5 ∧ ((w32 (S1.1 o5 1) ≤ 6000) → ∃ (S8 : ms), EV q 37 0 [some (.ref 1)] [] S1 none S8 ∧ (0 ≤ w32 x1 ∧ w32 x1 < (13 : Nat)) ∧ ∃ (o11 no11 : Nat), sh_r (SH 3).2.2 (w32 x1).toNat = some o11 ∧ isRow o11 no11 ∧ (0 ≤ w32 x1 ∧ w32 x1 < (13 : Nat)) ∧ ∃ (o15 no15 : Nat), sh_r (SH 3).2.2 (w32 x1).toNat = some o15 ∧ isRow o15 no15 ∧ ∃ (S18 : ms), EV q 38 0 [some (.ref 1), some (.ref (o11 + 1)), some (vI 0), some (vI (S8.1 o15 1)), none] [] S8 none S18 ∧ r = some (vI (S18.1 1 1)) ∧ S' = S18) ∧ ((¬ w32 (S1.1 o5 1) ≤ 6000) → r = some (vI ((-4))) ∧ S' = S1)) ∧ ((¬ (¬ w32 z3 = 0)) → r = some (vI ((-1))) ∧ S' = S1)) : EV q 36 0 [some (.ref 0), some (vI x1)] [] S r S' := by
  unfold EV
  refine ev_bk 2 (S' := (2, [some (.ref 0), some (vI x1)], [vI x1, .ref 0], hp S, 0, 0)) rfl ?_
  obtain ⟨z3, S1, e2, F⟩ := F
  refine mv_calv (as := [vI x1]) (rest := []) e2 (sh_0) rfl rfl rfl ⟨rfl, rfl⟩ rfl rfl rfl rfl rfl ?_
  refine mv_if 10 rfl rfl (fun c => ?_) (fun c => ?_)
  · have F := F.1 c
    refine ev_bk 1 (S' := (11, [some (.ref 0), some (vI x1)], [.ref 0], hp S1, 0, 0)) rfl ?_
    refine mv_gfR rfl rfl (sh_0) (by decide) rfl ?_
    refine ev_bk 1 (S' := (15, [some (.ref 0), some (vI x1)], [vI x1, .ref 3], hp S1, 0, 0)) rfl ?_
    obtain ⟨b4, o5, no5, e7, h6, F⟩ := F
    refine mv_aal rfl (sh_3) (Or.inl rfl) b4 e7 ?_
    refine mv_gfI rfl rfl (h6.1) (by decide) rfl ?_
    refine ev_bk 1 (S' := (22, [some (.ref 0), some (vI x1)], [vI 6000, vI (S1.1 o5 1)], hp S1, 0, 0)) rfl ?_
    refine mv_icmp 28 rfl rfl (fun c => ?_) (fun c => ?_)
    · have F := F.1 c
      refine ev_bk 1 (S' := (29, [some (.ref 0), some (vI x1)], [.ref 0], hp S1, 0, 0)) rfl ?_
      refine mv_gfR rfl rfl (sh_0) (by decide) rfl ?_
      obtain ⟨S8, e9, F⟩ := F
      refine mv_calv (as := []) (rest := []) e9 (sh_1) rfl rfl rfl ⟨rfl, rfl⟩ rfl rfl rfl rfl rfl ?_
      refine ev_bk 1 (S' := (36, [some (.ref 0), some (vI x1)], [.ref 0], hp S8, 0, 0)) rfl ?_
      refine mv_gfR rfl rfl (sh_0) (by decide) rfl ?_
      refine ev_bk 1 (S' := (40, [some (.ref 0), some (vI x1)], [.ref 0, .ref 1], hp S8, 0, 0)) rfl ?_
      refine mv_gfR rfl rfl (sh_0) (by decide) rfl ?_
      refine ev_bk 1 (S' := (44, [some (.ref 0), some (vI x1)], [vI x1, .ref 3, .ref 1], hp S8, 0, 0)) rfl ?_
      obtain ⟨b10, o11, no11, e13, h12, F⟩ := F
      refine mv_aal rfl (sh_3) (Or.inl rfl) b10 e13 ?_
      refine mv_gfR rfl rfl (h12.1) (by decide) rfl ?_
      refine ev_bk 2 (S' := (50, [some (.ref 0), some (vI x1)], [.ref 0, vI 0, .ref (o11 + 1), .ref 1], hp S8, 0, 0)) rfl ?_
      refine mv_gfR rfl rfl (sh_0) (by decide) rfl ?_
      refine ev_bk 1 (S' := (54, [some (.ref 0), some (vI x1)], [vI x1, .ref 3, vI 0, .ref (o11 + 1), .ref 1], hp S8, 0, 0)) rfl ?_
      obtain ⟨b14, o15, no15, e17, h16, F⟩ := F
      refine mv_aal rfl (sh_3) (Or.inl rfl) b14 e17 ?_
      refine mv_gfI rfl rfl (h16.1) (by decide) rfl ?_
      obtain ⟨S18, e19, F⟩ := F
      refine mv_calv (as := [.ref (o11 + 1), vI 0, vI (S8.1 o15 1)]) (rest := []) e19 (sh_1) rfl rfl rfl ⟨rfl, rfl⟩ rfl rfl rfl rfl rfl ?_
      refine ev_bk 1 (S' := (62, [some (.ref 0), some (vI x1)], [.ref 0], hp S18, 0, 0)) rfl ?_
      refine mv_gfR rfl rfl (sh_0) (by decide) rfl ?_
      refine mv_gfI rfl rfl (sh_1) (by decide) rfl ?_
      obtain ⟨rfl, rfl⟩ := F
      exact ev_ret rfl rfl
    · have F := F.2 c
      refine ev_bk 1 (S' := (27, [some (.ref 0), some (vI x1)], [vI ((-4))], hp S1, 0, 0)) rfl ?_
      obtain ⟨rfl, rfl⟩ := F
      exact ev_ret rfl rfl
  · have F := F.2 c
    refine ev_bk 1 (S' := (9, [some (.ref 0), some (vI x1)], [vI ((-1))], hp S1, 0, 0)) rfl ?_
    obtain ⟨rfl, rfl⟩ := F
    exact ev_ret rfl rfl
theorem vc_PH_drop {q : Nat × (Nat → Int32)} {S S' : ms} {r : Option Value} (x1 : Int)
    (F : ∃ (z3 : Int) (S1 : ms), EV q 34 0 [some (.ref 0), some (vI x1)] [] S (some (vI z3)) S1 ∧ ((¬ w32 z3 = 0) → (0 ≤ w32 x1 ∧ w32 x1 < (13 : Nat)) ∧ ∀ S5 : ms, S5 = wI S1 4 (w32 x1) (0 % 2) → (0 ≤ w32 x1 ∧ w32 x1 < (13 : Nat)) ∧ ∃ (o7 no7 : Nat), sh_r (SH 3).2.2 (w32 x1).toNat = some o7 ∧ isRow o7 no7 ∧ r = some (vI (S5.1 o7 1)) ∧ S' = S5) ∧ ((¬ (¬ w32 z3 = 0)) → r = some (vI ((-1))) ∧ S' = S1)) : EV q 40 0 [some (.ref 0), some (vI x1)] [] S r S' := by
  unfold EV
  refine ev_bk 2 (S' := (2, [some (.ref 0), some (vI x1)], [vI x1, .ref 0], hp S, 0, 0)) rfl ?_
  obtain ⟨z3, S1, e2, F⟩ := F
  refine mv_calv (as := [vI x1]) (rest := []) e2 (sh_0) rfl rfl rfl ⟨rfl, rfl⟩ rfl rfl rfl rfl rfl ?_
  refine mv_if 10 rfl rfl (fun c => ?_) (fun c => ?_)
  · have F := F.1 c
    refine ev_bk 1 (S' := (11, [some (.ref 0), some (vI x1)], [.ref 0], hp S1, 0, 0)) rfl ?_
    refine mv_gfR rfl rfl (sh_0) (by decide) rfl ?_
    refine ev_bk 2 (S' := (16, [some (.ref 0), some (vI x1)], [vI 0, vI x1, .ref 4], hp S1, 0, 0)) rfl ?_
    obtain ⟨b4, F⟩ := F
    refine mv_zas rfl (sh_4) b4 ?_
    have F := F _ rfl
    refine ev_bk 1 (S' := (18, [some (.ref 0), some (vI x1)], [.ref 0], hp (wI S1 4 (w32 x1) (0 % 2)), 0, 0)) rfl ?_
    refine mv_gfR rfl rfl (sh_0) (by decide) rfl ?_
    refine ev_bk 1 (S' := (22, [some (.ref 0), some (vI x1)], [vI x1, .ref 3], hp (wI S1 4 (w32 x1) (0 % 2)), 0, 0)) rfl ?_
    obtain ⟨b6, o7, no7, e9, h8, F⟩ := F
    refine mv_aal rfl (sh_3) (Or.inl rfl) b6 e9 ?_
    refine mv_gfI rfl rfl (h8.1) (by decide) rfl ?_
    obtain ⟨rfl, rfl⟩ := F
    exact ev_ret rfl rfl
  · have F := F.2 c
    refine ev_bk 1 (S' := (9, [some (.ref 0), some (vI x1)], [vI ((-1))], hp S1, 0, 0)) rfl ?_
    obtain ⟨rfl, rfl⟩ := F
    exact ev_ret rfl rfl
theorem vc_PH_differ {q : Nat × (Nat → Int32)} {S S' : ms} {r : Option Value} (x1 x2 : Int)
    (F : ∃ (z3 : Int) (S1 : ms), EV q 34 0 [some (.ref 0), some (vI x1)] [] S (some (vI z3)) S1 ∧ ((w32 z3 = 0) → r = some (vI ((-1))) ∧ S' = S1) ∧ ((¬ w32 z3 = 0) → ∃ (z6 : Int) (S4 : ms), EV q 34 0 [some (.ref 0), some (vI x2)] [] S1 (some (vI z6)) S4 ∧ ((¬ w32 z6 = 0) → (0 ≤ w32 x1 ∧ w32 x1 < (13 : Nat)) ∧ ∃ (o8 no8 : Nat), sh_r (SH 3).2.2 (w32 x1).toNat = some o8 ∧ isRow o8 no8 ∧ (0 ≤ w32 x2 ∧ w32 x2 < (13 : Nat)) ∧ ∃ (o12 no12 : Nat), sh_r (SH 3).2.2 (w32 x2).toNat = some o12 ∧ isRow o12 no12 ∧ EV q 41 50 [some (.ref 0), some (vI x1), some (vI x2), some (.ref o8), some (.ref o12), some (vI (min (w32 (S4.1 o8 1)) (w32 (S4.1 o12 1)))), some (vI 0)] [] S4 r S') ∧ ((¬ (¬ w32 z6 = 0)) → r = some (vI ((-1))) ∧ S' = S4))) : EV q 41 0 [some (.ref 0), some (vI x1), some (vI x2), none, none, none, none] [] S r S' := by
  unfold EV
  refine ev_bk 2 (S' := (2, [some (.ref 0), some (vI x1), some (vI x2), none, none, none, none], [vI x1, .ref 0], hp S, 0, 0)) rfl ?_
  obtain ⟨z3, S1, e2, F⟩ := F
  refine mv_calv (as := [vI x1]) (rest := []) e2 (sh_0) rfl rfl rfl ⟨rfl, rfl⟩ rfl rfl rfl rfl rfl ?_
  refine mv_if 16 rfl rfl (fun c => ?_) (fun c => ?_)
  · have F := F.1 c
    refine ev_bk 1 (S' := (17, [some (.ref 0), some (vI x1), some (vI x2), none, none, none, none], [vI ((-1))], hp S1, 0, 0)) rfl ?_
    obtain ⟨rfl, rfl⟩ := F
    exact ev_ret rfl rfl
  · have F := F.2 c
    refine ev_bk 2 (S' := (10, [some (.ref 0), some (vI x1), some (vI x2), none, none, none, none], [vI x2, .ref 0], hp S1, 0, 0)) rfl ?_
    obtain ⟨z6, S4, e5, F⟩ := F
    refine mv_calv (as := [vI x2]) (rest := []) e5 (sh_0) rfl rfl rfl ⟨rfl, rfl⟩ rfl rfl rfl rfl rfl ?_
    refine mv_if 18 rfl rfl (fun c => ?_) (fun c => ?_)
    · have F := F.1 c
      refine ev_bk 1 (S' := (19, [some (.ref 0), some (vI x1), some (vI x2), none, none, none, none], [.ref 0], hp S4, 0, 0)) rfl ?_
      refine mv_gfR rfl rfl (sh_0) (by decide) rfl ?_
      refine ev_bk 1 (S' := (23, [some (.ref 0), some (vI x1), some (vI x2), none, none, none, none], [vI x1, .ref 3], hp S4, 0, 0)) rfl ?_
      obtain ⟨b7, o8, no8, e10, h9, F⟩ := F
      refine mv_aal rfl (sh_3) (Or.inl rfl) b7 e10 ?_
      refine ev_bk 2 (S' := (26, [some (.ref 0), some (vI x1), some (vI x2), some (.ref o8), none, none, none], [.ref 0], hp S4, 0, 0)) rfl ?_
      refine mv_gfR rfl rfl (sh_0) (by decide) rfl ?_
      refine ev_bk 1 (S' := (30, [some (.ref 0), some (vI x1), some (vI x2), some (.ref o8), none, none, none], [vI x2, .ref 3], hp S4, 0, 0)) rfl ?_
      obtain ⟨b11, o12, no12, e14, h13, F⟩ := F
      refine mv_aal rfl (sh_3) (Or.inl rfl) b11 e14 ?_
      refine ev_bk 2 (S' := (34, [some (.ref 0), some (vI x1), some (vI x2), some (.ref o8), some (.ref o12), none, none], [.ref o8], hp S4, 0, 0)) rfl ?_
      refine mv_gfI rfl rfl (h9.1) (by decide) rfl ?_
      refine ev_bk 1 (S' := (39, [some (.ref 0), some (vI x1), some (vI x2), some (.ref o8), some (.ref o12), none, none], [.ref o12, vI (S4.1 o8 1)], hp S4, 0, 0)) rfl ?_
      refine mv_gfI rfl rfl (h13.1) (by decide) rfl ?_
      refine mv_min rfl rfl rfl ?_
      refine ev_bk 3 (S' := (50, [some (.ref 0), some (vI x1), some (vI x2), some (.ref o8), some (.ref o12), some (vI (min (w32 (S4.1 o8 1)) (w32 (S4.1 o12 1)))), some (vI 0)], [], hp S4, 0, 0)) rfl ?_
      exact F
    · have F := F.2 c
      refine ev_bk 1 (S' := (17, [some (.ref 0), some (vI x1), some (vI x2), none, none, none, none], [vI ((-1))], hp S4, 0, 0)) rfl ?_
      obtain ⟨rfl, rfl⟩ := F
      exact ev_ret rfl rfl
theorem vc_PH_differ_50 {q : Nat × (Nat → Int32)} {S S' : ms} {r : Option Value} (x1 x2 x5 x6 : Int) (a3 na3 : Nat) (ha3 : isRow a3 na3) (a4 na4 : Nat) (ha4 : isRow a4 na4)
    (F : ((w32 x5 ≤ w32 x6) → ((¬ w32 (S.1 a3 1) = w32 (S.1 a4 1)) → r = some (vI x5) ∧ S' = S) ∧ ((¬ (¬ w32 (S.1 a3 1) = w32 (S.1 a4 1))) → r = some (vI ((-1))) ∧ S' = S)) ∧ ((¬ w32 x5 ≤ w32 x6) → (0 ≤ w32 x6 ∧ w32 x6 < (na3 : Nat)) ∧ (0 ≤ w32 x6 ∧ w32 x6 < (na4 : Nat)) ∧ ((w32 (S.1 (a3 + 1) (w32 x6)) = w32 (S.1 (a4 + 1) (w32 x6))) → EV q 41 50 [some (.ref 0), some (vI x1), some (vI x2), some (.ref a3), some (.ref a4), some (vI x5), some (vI (x6 + 1))] [] S r S') ∧ ((¬ w32 (S.1 (a3 + 1) (w32 x6)) = w32 (S.1 (a4 + 1) (w32 x6))) → r = some (vI x6) ∧ S' = S))) : EV q 41 50 [some (.ref 0), some (vI x1), some (vI x2), some (.ref a3), some (.ref a4), some (vI x5), some (vI x6)] [] S r S' := by
  unfold EV
  refine ev_bk 2 (S' := (54, [some (.ref 0), some (vI x1), some (vI x2), some (.ref a3), some (.ref a4), some (vI x5), some (vI x6)], [vI x5, vI x6], hp S, 0, 0)) rfl ?_
  refine mv_icmp 84 rfl rfl (fun c => ?_) (fun c => ?_)
  · have F := F.1 c
    refine ev_bk 1 (S' := (85, [some (.ref 0), some (vI x1), some (vI x2), some (.ref a3), some (.ref a4), some (vI x5), some (vI x6)], [.ref a3], hp S, 0, 0)) rfl ?_
    refine mv_gfI rfl rfl (ha3.1) (by decide) rfl ?_
    refine ev_bk 1 (S' := (90, [some (.ref 0), some (vI x1), some (vI x2), some (.ref a3), some (.ref a4), some (vI x5), some (vI x6)], [.ref a4, vI (S.1 a3 1)], hp S, 0, 0)) rfl ?_
    refine mv_gfI rfl rfl (ha4.1) (by decide) rfl ?_
    refine mv_icmp 100 rfl rfl (fun c => ?_) (fun c => ?_)
    · have F := F.1 c
      refine ev_bk 1 (S' := (102, [some (.ref 0), some (vI x1), some (vI x2), some (.ref a3), some (.ref a4), some (vI x5), some (vI x6)], [vI x5], hp S, 0, 0)) rfl ?_
      obtain ⟨rfl, rfl⟩ := F
      exact ev_ret rfl rfl
    · have F := F.2 c
      refine ev_bk 1 (S' := (97, [some (.ref 0), some (vI x1), some (vI x2), some (.ref a3), some (.ref a4), some (vI x5), some (vI x6)], [vI ((-1))], hp S, 0, 0)) rfl ?_
      refine mv_goto 102 rfl rfl ?_
      obtain ⟨rfl, rfl⟩ := F
      exact ev_ret rfl rfl
  · have F := F.2 c
    refine ev_bk 1 (S' := (58, [some (.ref 0), some (vI x1), some (vI x2), some (.ref a3), some (.ref a4), some (vI x5), some (vI x6)], [.ref a3], hp S, 0, 0)) rfl ?_
    refine mv_gfR rfl rfl (ha3.1) (by decide) rfl ?_
    refine ev_bk 1 (S' := (63, [some (.ref 0), some (vI x1), some (vI x2), some (.ref a3), some (.ref a4), some (vI x5), some (vI x6)], [vI x6, .ref (a3 + 1)], hp S, 0, 0)) rfl ?_
    obtain ⟨b1, F⟩ := F
    refine mv_ial rfl (ha3.2) b1 ?_
    refine ev_bk 1 (S' := (66, [some (.ref 0), some (vI x1), some (vI x2), some (.ref a3), some (.ref a4), some (vI x5), some (vI x6)], [.ref a4, vI (S.1 (a3 + 1) (w32 x6))], hp S, 0, 0)) rfl ?_
    refine mv_gfR rfl rfl (ha4.1) (by decide) rfl ?_
    refine ev_bk 1 (S' := (71, [some (.ref 0), some (vI x1), some (vI x2), some (.ref a3), some (.ref a4), some (vI x5), some (vI x6)], [vI x6, .ref (a4 + 1), vI (S.1 (a3 + 1) (w32 x6))], hp S, 0, 0)) rfl ?_
    obtain ⟨b2, F⟩ := F
    refine mv_ial rfl (ha4.2) b2 ?_
    refine mv_icmp 78 rfl rfl (fun c => ?_) (fun c => ?_)
    · have F := F.1 c
      refine mv_inc (lv' := [some (.ref 0), some (vI x1), some (vI x2), some (.ref a3), some (.ref a4), some (vI x5), some (vI (x6 + 1))]) 6 1 rfl rfl rfl rfl ?_
      refine mv_goto 50 rfl rfl ?_
      exact F
    · have F := F.2 c
      refine ev_bk 1 (S' := (77, [some (.ref 0), some (vI x1), some (vI x2), some (.ref a3), some (.ref a4), some (vI x5), some (vI x6)], [vI x6], hp S, 0, 0)) rfl ?_
      obtain ⟨rfl, rfl⟩ := F
      exact ev_ret rfl rfl
theorem vc_PH_pack {q : Nat × (Nat → Int32)} {S S' : ms} {r : Option Value} (x1 x2 : Int)
    (F : ((w32 x1 < 3) → EV q 42 14 [some (.ref 0), some (vI x1), some (vI x2), none, none, none, none, none] [] S r S') ∧ ((¬ w32 x1 < 3) → ((5 < w32 x1) → EV q 42 14 [some (.ref 0), some (vI x1), some (vI x2), none, none, none, none, none] [] S r S') ∧ ((¬ 5 < w32 x1) → EV q 42 15 [some (.ref 0), some (vI x1), some (vI x2), none, none, none, none, none] [vI 1] S r S'))) : EV q 42 0 [some (.ref 0), some (vI x1), some (vI x2), none, none, none, none, none] [] S r S' := by
  unfold EV
  refine ev_bk 2 (S' := (2, [some (.ref 0), some (vI x1), some (vI x2), none, none, none, none, none], [vI 3, vI x1], hp S, 0, 0)) rfl ?_
  refine mv_icmp 14 rfl rfl (fun c => ?_) (fun c => ?_)
  · have F := F.1 c
    exact F
  · have F := F.2 c
    refine ev_bk 2 (S' := (7, [some (.ref 0), some (vI x1), some (vI x2), none, none, none, none, none], [vI 5, vI x1], hp S, 0, 0)) rfl ?_
    refine mv_icmp 14 rfl rfl (fun c => ?_) (fun c => ?_)
    · have F := F.1 c
      exact F
    · have F := F.2 c
      refine ev_bk 1 (S' := (11, [some (.ref 0), some (vI x1), some (vI x2), none, none, none, none, none], [vI 1], hp S, 0, 0)) rfl ?_
      refine mv_goto 15 rfl rfl ?_
      exact F
theorem vc_PH_pack_14 {q : Nat × (Nat → Int32)} {S S' : ms} {r : Option Value} (x1 x2 : Int)
    (F : EV q 42 15 [some (.ref 0), some (vI x1), some (vI x2), none, none, none, none, none] [vI 0] S r S') : EV q 42 14 [some (.ref 0), some (vI x1), some (vI x2), none, none, none, none, none] [] S r S' := by
  unfold EV
  refine ev_bk 1 (S' := (15, [some (.ref 0), some (vI x1), some (vI x2), none, none, none, none, none], [vI 0], hp S, 0, 0)) rfl ?_
  exact F
theorem vc_PH_pack_15 {q : Nat × (Nat → Int32)} {S S' : ms} {r : Option Value} (x1 x2 y0 : Int)
    (F : ((w32 x1 < 1) → r = some (vI ((-2))) ∧ S' = S) ∧ ((¬ w32 x1 < 1) → ((10 < w32 x1) → r = some (vI ((-2))) ∧ S' = S) ∧ ((¬ 10 < w32 x1) → ((w32 x2 < 0) → r = some (vI ((-2))) ∧ S' = S) ∧ ((¬ w32 x2 < 0) → ((w32 y0 = 0) → EV q 42 41 [some (.ref 0), some (vI x1), some (vI x2), some (vI y0), none, none, none, none] [vI 0, vI x2] S r S') ∧ ((¬ w32 y0 = 0) → EV q 42 41 [some (.ref 0), some (vI x1), some (vI x2), some (vI y0), none, none, none, none] [vI 4, vI x2] S r S'))))) : EV q 42 15 [some (.ref 0), some (vI x1), some (vI x2), none, none, none, none, none] [vI y0] S r S' := by
  unfold EV
  refine ev_bk 3 (S' := (18, [some (.ref 0), some (vI x1), some (vI x2), some (vI y0), none, none, none, none], [vI 1, vI x1], hp S, 0, 0)) rfl ?_
  refine mv_icmp 44 rfl rfl (fun c => ?_) (fun c => ?_)
  · have F := F.1 c
    refine ev_bk 1 (S' := (46, [some (.ref 0), some (vI x1), some (vI x2), some (vI y0), none, none, none, none], [vI ((-2))], hp S, 0, 0)) rfl ?_
    obtain ⟨rfl, rfl⟩ := F
    exact ev_ret rfl rfl
  · have F := F.2 c
    refine ev_bk 2 (S' := (24, [some (.ref 0), some (vI x1), some (vI x2), some (vI y0), none, none, none, none], [vI 10, vI x1], hp S, 0, 0)) rfl ?_
    refine mv_icmp 44 rfl rfl (fun c => ?_) (fun c => ?_)
    · have F := F.1 c
      refine ev_bk 1 (S' := (46, [some (.ref 0), some (vI x1), some (vI x2), some (vI y0), none, none, none, none], [vI ((-2))], hp S, 0, 0)) rfl ?_
      obtain ⟨rfl, rfl⟩ := F
      exact ev_ret rfl rfl
    · have F := F.2 c
      refine ev_bk 1 (S' := (28, [some (.ref 0), some (vI x1), some (vI x2), some (vI y0), none, none, none, none], [vI x2], hp S, 0, 0)) rfl ?_
      refine mv_if 44 rfl rfl (fun c => ?_) (fun c => ?_)
      · have F := F.1 c
        refine ev_bk 1 (S' := (46, [some (.ref 0), some (vI x1), some (vI x2), some (vI y0), none, none, none, none], [vI ((-2))], hp S, 0, 0)) rfl ?_
        obtain ⟨rfl, rfl⟩ := F
        exact ev_ret rfl rfl
      · have F := F.2 c
        refine ev_bk 2 (S' := (33, [some (.ref 0), some (vI x1), some (vI x2), some (vI y0), none, none, none, none], [vI y0, vI x2], hp S, 0, 0)) rfl ?_
        refine mv_if 40 rfl rfl (fun c => ?_) (fun c => ?_)
        · have F := F.1 c
          refine ev_bk 1 (S' := (41, [some (.ref 0), some (vI x1), some (vI x2), some (vI y0), none, none, none, none], [vI 0, vI x2], hp S, 0, 0)) rfl ?_
          exact F
        · have F := F.2 c
          refine ev_bk 1 (S' := (37, [some (.ref 0), some (vI x1), some (vI x2), some (vI y0), none, none, none, none], [vI 4, vI x2], hp S, 0, 0)) rfl ?_
          refine mv_goto 41 rfl rfl ?_
          exact F
theorem vc_PH_pack_41 {q : Nat × (Nat → Int32)} {S S' : ms} {r : Option Value} (x1 x2 x3 y0 y1 : Int)
    (F : ((w32 y1 ≤ w32 y0) → ∃ (z3 : Int) (S1 : ms), EV q 43 0 [some (.ref 0), none] [] S (some (vI z3)) S1 ∧ ((¬ w32 z3 = 0) → (0 ≤ w32 z3 ∧ w32 z3 < (13 : Nat)) ∧ ∃ (o5 no5 : Nat), sh_r (SH 3).2.2 (w32 z3).toNat = some o5 ∧ isRow o5 no5 ∧ ∃ (S8 : ms), EV q 37 0 [some (.ref o5)] [] S1 none S8 ∧ ∃ (S10 : ms), EV q 44 0 [some (.ref 10)] [] S8 none S10 ∧ ∃ (z14 : Int) (S12 : ms), EV q 45 0 [some (.ref 0), some (vI x1), some (vI x2), some (.ref o5), none] [] S10 (some (vI z14)) S12 ∧ ∃ (z17 : Int) (S15 : ms), EV q 112 0 [some (.ref 0), some (vI z3)] [] S12 (some (vI z17)) S15 ∧ ((w32 z17 ≤ 0) → r = some (vI z17) ∧ S' = S15) ∧ ((¬ w32 z17 ≤ 0) → ∀ S18 : ms, S18 = wI S15 0 15 z14 → ∃ (S19 : ms), EV q 113 0 [some (.ref 10)] [] S18 none S19 ∧ r = some (vI z17) ∧ S' = S19)) ∧ ((¬ (¬ w32 z3 = 0)) → r = some (vI ((-4))) ∧ S' = S1)) ∧ ((¬ w32 y1 ≤ w32 y0) → r = some (vI ((-2))) ∧ S' = S)) : EV q 42 41 [some (.ref 0), some (vI x1), some (vI x2), some (vI x3), none, none, none, none] [vI y0, vI y1] S r S' := by
  unfold EV
  refine mv_icmp 47 rfl rfl (fun c => ?_) (fun c => ?_)
  · have F := F.1 c
    refine ev_bk 1 (S' := (48, [some (.ref 0), some (vI x1), some (vI x2), some (vI x3), none, none, none, none], [.ref 0], hp S, 0, 0)) rfl ?_
    obtain ⟨z3, S1, e2, F⟩ := F
    refine mv_calv (as := []) (rest := []) e2 (sh_0) rfl rfl rfl ⟨rfl, rfl⟩ rfl rfl rfl rfl rfl ?_
    refine ev_bk 2 (S' := (55, [some (.ref 0), some (vI x1), some (vI x2), some (vI x3), some (vI z3), none, none, none], [vI z3], hp S1, 0, 0)) rfl ?_
    refine mv_if 61 rfl rfl (fun c => ?_) (fun c => ?_)
    · have F := F.1 c
      refine ev_bk 1 (S' := (62, [some (.ref 0), some (vI x1), some (vI x2), some (vI x3), some (vI z3), none, none, none], [.ref 0], hp S1, 0, 0)) rfl ?_
      refine mv_gfR rfl rfl (sh_0) (by decide) rfl ?_
      refine ev_bk 1 (S' := (67, [some (.ref 0), some (vI x1), some (vI x2), some (vI x3), some (vI z3), none, none, none], [vI z3, .ref 3], hp S1, 0, 0)) rfl ?_
      obtain ⟨b4, o5, no5, e7, h6, F⟩ := F
      refine mv_aal rfl (sh_3) (Or.inl rfl) b4 e7 ?_
      refine ev_bk 2 (S' := (72, [some (.ref 0), some (vI x1), some (vI x2), some (vI x3), some (vI z3), some (.ref o5), none, none], [.ref o5], hp S1, 0, 0)) rfl ?_
      obtain ⟨S8, e9, F⟩ := F
      refine mv_calv (as := []) (rest := []) e9 (h6.1) rfl rfl rfl ⟨rfl, rfl⟩ rfl rfl rfl rfl rfl ?_
      refine ev_bk 1 (S' := (76, [some (.ref 0), some (vI x1), some (vI x2), some (vI x3), some (vI z3), some (.ref o5), none, none], [.ref 0], hp S8, 0, 0)) rfl ?_
      refine mv_gfR rfl rfl (sh_0) (by decide) rfl ?_
      obtain ⟨S10, e11, F⟩ := F
      refine mv_calv (as := []) (rest := []) e11 (sh_10) rfl rfl rfl ⟨rfl, rfl⟩ rfl rfl rfl rfl rfl ?_
      refine ev_bk 4 (S' := (87, [some (.ref 0), some (vI x1), some (vI x2), some (vI x3), some (vI z3), some (.ref o5), none, none], [.ref o5, vI x2, vI x1, .ref 0], hp S10, 0, 0)) rfl ?_
      obtain ⟨z14, S12, e13, F⟩ := F
      refine mv_calv (as := [vI x1, vI x2, .ref o5]) (rest := []) e13 (sh_0) rfl rfl rfl ⟨rfl, rfl⟩ rfl rfl rfl rfl rfl ?_
      refine ev_bk 3 (S' := (95, [some (.ref 0), some (vI x1), some (vI x2), some (vI x3), some (vI z3), some (.ref o5), some (vI z14), none], [vI z3, .ref 0], hp S12, 0, 0)) rfl ?_
      obtain ⟨z17, S15, e16, F⟩ := F
      refine mv_calv (as := [vI z3]) (rest := []) e16 (sh_0) rfl rfl rfl ⟨rfl, rfl⟩ rfl rfl rfl rfl rfl ?_
      refine ev_bk 2 (S' := (102, [some (.ref 0), some (vI x1), some (vI x2), some (vI x3), some (vI z3), some (.ref o5), some (vI z14), some (vI z17)], [vI z17], hp S15, 0, 0)) rfl ?_
      refine mv_if 118 rfl rfl (fun c => ?_) (fun c => ?_)
      · have F := F.1 c
        refine ev_bk 1 (S' := (120, [some (.ref 0), some (vI x1), some (vI x2), some (vI x3), some (vI z3), some (.ref o5), some (vI z14), some (vI z17)], [vI z17], hp S15, 0, 0)) rfl ?_
        obtain ⟨rfl, rfl⟩ := F
        exact ev_ret rfl rfl
      · have F := F.2 c
        refine ev_bk 2 (S' := (108, [some (.ref 0), some (vI x1), some (vI x2), some (vI x3), some (vI z3), some (.ref o5), some (vI z14), some (vI z17)], [vI z14, .ref 0], hp S15, 0, 0)) rfl ?_
        refine mv_pfI rfl rfl (sh_0) (by decide) rfl rfl ?_
        have F := F _ rfl
        refine ev_bk 1 (S' := (112, [some (.ref 0), some (vI x1), some (vI x2), some (vI x3), some (vI z3), some (.ref o5), some (vI z14), some (vI z17)], [.ref 0], hp (wI S15 0 15 z14), 0, 0)) rfl ?_
        refine mv_gfR rfl rfl (sh_0) (by decide) rfl ?_
        obtain ⟨S19, e20, F⟩ := F
        refine mv_calv (as := []) (rest := []) e20 (sh_10) rfl rfl rfl ⟨rfl, rfl⟩ rfl rfl rfl rfl rfl ?_
        refine ev_bk 1 (S' := (120, [some (.ref 0), some (vI x1), some (vI x2), some (vI x3), some (vI z3), some (.ref o5), some (vI z14), some (vI z17)], [vI z17], hp S19, 0, 0)) rfl ?_
        obtain ⟨rfl, rfl⟩ := F
        exact ev_ret rfl rfl
    · have F := F.2 c
      refine ev_bk 1 (S' := (60, [some (.ref 0), some (vI x1), some (vI x2), some (vI x3), some (vI z3), none, none, none], [vI ((-4))], hp S1, 0, 0)) rfl ?_
      obtain ⟨rfl, rfl⟩ := F
      exact ev_ret rfl rfl
  · have F := F.2 c
    refine ev_bk 1 (S' := (46, [some (.ref 0), some (vI x1), some (vI x2), some (vI x3), none, none, none, none], [vI ((-2))], hp S, 0, 0)) rfl ?_
    obtain ⟨rfl, rfl⟩ := F
    exact ev_ret rfl rfl
theorem vc_PH_freeNumber {q : Nat × (Nat → Int32)} {S S' : ms} {r : Option Value}
    (F : EV q 43 2 [some (.ref 0), some (vI 1)] [] S r S') : EV q 43 0 [some (.ref 0), none] [] S r S' := by
  unfold EV
  refine ev_bk 2 (S' := (2, [some (.ref 0), some (vI 1)], [], hp S, 0, 0)) rfl ?_
  exact F
theorem vc_PH_freeNumber_2 {q : Nat × (Nat → Int32)} {S S' : ms} {r : Option Value} (x1 : Int)
    (F : ((12 < w32 x1) → r = some (vI 0) ∧ S' = S) ∧ ((¬ 12 < w32 x1) → (0 ≤ w32 x1 ∧ w32 x1 < (13 : Nat)) ∧ ((¬ w32 (S.1 4 (w32 x1)) = 0) → EV q 43 2 [some (.ref 0), some (vI (x1 + 1))] [] S r S') ∧ ((¬ (¬ w32 (S.1 4 (w32 x1)) = 0)) → r = some (vI x1) ∧ S' = S))) : EV q 43 2 [some (.ref 0), some (vI x1)] [] S r S' := by
  unfold EV
  refine ev_bk 2 (S' := (5, [some (.ref 0), some (vI x1)], [vI 12, vI x1], hp S, 0, 0)) rfl ?_
  refine mv_icmp 25 rfl rfl (fun c => ?_) (fun c => ?_)
  · have F := F.1 c
    refine ev_bk 1 (S' := (26, [some (.ref 0), some (vI x1)], [vI 0], hp S, 0, 0)) rfl ?_
    obtain ⟨rfl, rfl⟩ := F
    exact ev_ret rfl rfl
  · have F := F.2 c
    refine ev_bk 1 (S' := (9, [some (.ref 0), some (vI x1)], [.ref 0], hp S, 0, 0)) rfl ?_
    refine mv_gfR rfl rfl (sh_0) (by decide) rfl ?_
    refine ev_bk 1 (S' := (13, [some (.ref 0), some (vI x1)], [vI x1, .ref 4], hp S, 0, 0)) rfl ?_
    obtain ⟨b1, F⟩ := F
    refine mv_zal rfl (sh_4) b1 ?_
    refine mv_if 19 rfl rfl (fun c => ?_) (fun c => ?_)
    · have F := F.1 c
      refine mv_inc (lv' := [some (.ref 0), some (vI (x1 + 1))]) 1 1 rfl rfl rfl rfl ?_
      refine mv_goto 2 rfl rfl ?_
      exact F
    · have F := F.2 c
      refine ev_bk 1 (S' := (18, [some (.ref 0), some (vI x1)], [vI x1], hp S, 0, 0)) rfl ?_
      obtain ⟨rfl, rfl⟩ := F
      exact ev_ret rfl rfl
theorem vc_PH_packKind {q : Nat × (Nat → Int32)} {S S' : ms} {r : Option Value} (x1 x2 : Int) (a3 na3 : Nat) (ha3 : isRow a3 na3)
    (F : ((w32 x1 = 1) → ∃ (S3 : ms), EV q 46 0 [some (.ref 22), some (.ref 1), some (.ref a3), none, none, none, none] [] S none S3 ∧ r = some (vI 0) ∧ S' = S3) ∧ ((w32 x1 = 2) → ∃ (S5 : ms), EV q 48 0 [some (.ref 22), some (.ref 1), some (.ref a3), none, none, none, none, none, none, none] [] S none S5 ∧ r = some (vI 0) ∧ S' = S5) ∧ ((w32 x1 = 3) → ∃ (S7 : ms), EV q 54 0 [some (.ref 30), some (vI x1), some (vI x2), some (.ref a3), none] [] S none S7 ∧ ∃ (z11 : Int) (S9 : ms), EV q 55 0 [some (.ref 30), some (.ref 1), some (vI x2), some (.ref a3), none, none] [] S7 (some (vI z11)) S9 ∧ ∃ (S12 : ms), EV q 83 0 [some (.ref 30), some (vI x1), some (.ref 1), some (.ref a3)] [] S9 none S12 ∧ r = some (vI z11) ∧ S' = S12) ∧ ((w32 x1 = 4) → ∃ (S14 : ms), EV q 54 0 [some (.ref 30), some (vI x1), some (vI x2), some (.ref a3), none] [] S none S14 ∧ ∃ (z18 : Int) (S16 : ms), EV q 55 0 [some (.ref 30), some (.ref 1), some (vI x2), some (.ref a3), none, none] [] S14 (some (vI z18)) S16 ∧ ∃ (S19 : ms), EV q 83 0 [some (.ref 30), some (vI x1), some (.ref 1), some (.ref a3)] [] S16 none S19 ∧ r = some (vI z18) ∧ S' = S19) ∧ ((w32 x1 = 5) → ∃ (S21 : ms), EV q 54 0 [some (.ref 30), some (vI x1), some (vI x2), some (.ref a3), none] [] S none S21 ∧ ∃ (z25 : Int) (S23 : ms), EV q 55 0 [some (.ref 30), some (.ref 1), some (vI x2), some (.ref a3), none, none] [] S21 (some (vI z25)) S23 ∧ ∃ (S26 : ms), EV q 83 0 [some (.ref 30), some (vI x1), some (.ref 1), some (.ref a3)] [] S23 none S26 ∧ r = some (vI z25) ∧ S' = S26) ∧ ((w32 x1 = 6) → ∃ (S28 : ms), EV q 84 0 [some (.ref 29), some (.ref 1), some (.ref a3), none, none, none] [] S none S28 ∧ r = some (vI 0) ∧ S' = S28) ∧ ((w32 x1 = 7) → ∃ (S30 : ms), EV q 87 0 [some (.ref 29), some (.ref 1), some (.ref a3)] [] S none S30 ∧ r = some (vI 0) ∧ S' = S30) ∧ ((w32 x1 = 8) → ∃ (S32 : ms), EV q 88 0 [some (.ref 29), some (.ref 1), some (.ref a3), none, none] [] S none S32 ∧ r = some (vI 0) ∧ S' = S32) ∧ ((w32 x1 = 9) → ∃ (S34 : ms), EV q 92 0 [some (.ref 94), some (.ref 1), some (.ref a3), none, none, none, none] [] S none S34 ∧ r = some (vI 0) ∧ S' = S34) ∧ ((¬ w32 x1 = 1) → (¬ w32 x1 = 2) → (¬ w32 x1 = 3) → (¬ w32 x1 = 4) → (¬ w32 x1 = 5) → (¬ w32 x1 = 6) → (¬ w32 x1 = 7) → (¬ w32 x1 = 8) → (¬ w32 x1 = 9) → ∃ (S1 : ms), EV q 108 0 [some (.ref 22), some (.ref 1), some (.ref a3), none, none, none, none, none, none] [] S none S1 ∧ r = some (vI 0) ∧ S' = S1)) : EV q 45 0 [some (.ref 0), some (vI x1), some (vI x2), some (.ref a3), none] [] S r S' := by
  unfold EV
  refine ev_bk 1 (S' := (1, [some (.ref 0), some (vI x1), some (vI x2), some (.ref a3), none], [vI x1], hp S, 0, 0)) rfl ?_
  by_cases d0 : w32 x1 < 1
  · have F := F.2.2.2.2.2.2.2.2.2 (ts_lo d0 (by decide)) (ts_lo d0 (by decide)) (ts_lo d0 (by decide)) (ts_lo d0 (by decide)) (ts_lo d0 (by decide)) (ts_lo d0 (by decide)) (ts_lo d0 (by decide)) (ts_lo d0 (by decide)) (ts_lo d0 (by decide))
    refine mv_tout 177 (Or.inl d0) rfl rfl ?_
    refine ev_bk 1 (S' := (178, [some (.ref 0), some (vI x1), some (vI x2), some (.ref a3), none], [.ref 0], hp S, 0, 0)) rfl ?_
    refine mv_gfR rfl rfl (sh_0) (by decide) rfl ?_
    refine ev_bk 1 (S' := (182, [some (.ref 0), some (vI x1), some (vI x2), some (.ref a3), none], [.ref 0, .ref 22], hp S, 0, 0)) rfl ?_
    refine mv_gfR rfl rfl (sh_0) (by decide) rfl ?_
    refine ev_bk 1 (S' := (186, [some (.ref 0), some (vI x1), some (vI x2), some (.ref a3), none], [.ref a3, .ref 1, .ref 22], hp S, 0, 0)) rfl ?_
    obtain ⟨S1, e2, F⟩ := F
    refine mv_calv (as := [.ref 1, .ref a3]) (rest := []) e2 (sh_22) rfl rfl rfl ⟨rfl, rfl⟩ rfl rfl rfl rfl rfl ?_
    refine ev_bk 1 (S' := (190, [some (.ref 0), some (vI x1), some (vI x2), some (.ref a3), none], [vI 0], hp S1, 0, 0)) rfl ?_
    obtain ⟨rfl, rfl⟩ := F
    exact ev_ret rfl rfl
  by_cases d1 : w32 x1 < 2
  · have e := ts_eq d0 d1
    have F := F.1 e
    refine mv_tin 52 1 e rfl (by decide) rfl rfl ?_
    refine ev_bk 1 (S' := (53, [some (.ref 0), some (vI x1), some (vI x2), some (.ref a3), none], [.ref 0], hp S, 0, 0)) rfl ?_
    refine mv_gfR rfl rfl (sh_0) (by decide) rfl ?_
    refine ev_bk 1 (S' := (57, [some (.ref 0), some (vI x1), some (vI x2), some (.ref a3), none], [.ref 0, .ref 22], hp S, 0, 0)) rfl ?_
    refine mv_gfR rfl rfl (sh_0) (by decide) rfl ?_
    refine ev_bk 1 (S' := (61, [some (.ref 0), some (vI x1), some (vI x2), some (.ref a3), none], [.ref a3, .ref 1, .ref 22], hp S, 0, 0)) rfl ?_
    obtain ⟨S3, e4, F⟩ := F
    refine mv_calv (as := [.ref 1, .ref a3]) (rest := []) e4 (sh_22) rfl rfl rfl ⟨rfl, rfl⟩ rfl rfl rfl rfl rfl ?_
    refine ev_bk 1 (S' := (65, [some (.ref 0), some (vI x1), some (vI x2), some (.ref a3), none], [vI 0], hp S3, 0, 0)) rfl ?_
    obtain ⟨rfl, rfl⟩ := F
    exact ev_ret rfl rfl
  by_cases d2 : w32 x1 < 3
  · have e := ts_eq d1 d2
    have F := F.2.1 e
    refine mv_tin 66 2 e rfl (by decide) rfl rfl ?_
    refine ev_bk 1 (S' := (67, [some (.ref 0), some (vI x1), some (vI x2), some (.ref a3), none], [.ref 0], hp S, 0, 0)) rfl ?_
    refine mv_gfR rfl rfl (sh_0) (by decide) rfl ?_
    refine ev_bk 1 (S' := (71, [some (.ref 0), some (vI x1), some (vI x2), some (.ref a3), none], [.ref 0, .ref 22], hp S, 0, 0)) rfl ?_
    refine mv_gfR rfl rfl (sh_0) (by decide) rfl ?_
    refine ev_bk 1 (S' := (75, [some (.ref 0), some (vI x1), some (vI x2), some (.ref a3), none], [.ref a3, .ref 1, .ref 22], hp S, 0, 0)) rfl ?_
    obtain ⟨S5, e6, F⟩ := F
    refine mv_calv (as := [.ref 1, .ref a3]) (rest := []) e6 (sh_22) rfl rfl rfl ⟨rfl, rfl⟩ rfl rfl rfl rfl rfl ?_
    refine ev_bk 1 (S' := (79, [some (.ref 0), some (vI x1), some (vI x2), some (.ref a3), none], [vI 0], hp S5, 0, 0)) rfl ?_
    obtain ⟨rfl, rfl⟩ := F
    exact ev_ret rfl rfl
  by_cases d3 : w32 x1 < 4
  · have e := ts_eq d2 d3
    have F := F.2.2.1 e
    refine mv_tin 80 3 e rfl (by decide) rfl rfl ?_
    refine ev_bk 1 (S' := (81, [some (.ref 0), some (vI x1), some (vI x2), some (.ref a3), none], [.ref 0], hp S, 0, 0)) rfl ?_
    refine mv_gfR rfl rfl (sh_0) (by decide) rfl ?_
    refine ev_bk 3 (S' := (87, [some (.ref 0), some (vI x1), some (vI x2), some (.ref a3), none], [.ref a3, vI x2, vI x1, .ref 30], hp S, 0, 0)) rfl ?_
    obtain ⟨S7, e8, F⟩ := F
    refine mv_calv (as := [vI x1, vI x2, .ref a3]) (rest := []) e8 (sh_30) rfl rfl rfl ⟨rfl, rfl⟩ rfl rfl rfl rfl rfl ?_
    refine ev_bk 1 (S' := (91, [some (.ref 0), some (vI x1), some (vI x2), some (.ref a3), none], [.ref 0], hp S7, 0, 0)) rfl ?_
    refine mv_gfR rfl rfl (sh_0) (by decide) rfl ?_
    refine ev_bk 1 (S' := (95, [some (.ref 0), some (vI x1), some (vI x2), some (.ref a3), none], [.ref 0, .ref 30], hp S7, 0, 0)) rfl ?_
    refine mv_gfR rfl rfl (sh_0) (by decide) rfl ?_
    refine ev_bk 2 (S' := (100, [some (.ref 0), some (vI x1), some (vI x2), some (.ref a3), none], [.ref a3, vI x2, .ref 1, .ref 30], hp S7, 0, 0)) rfl ?_
    obtain ⟨z11, S9, e10, F⟩ := F
    refine mv_calv (as := [.ref 1, vI x2, .ref a3]) (rest := []) e10 (sh_30) rfl rfl rfl ⟨rfl, rfl⟩ rfl rfl rfl rfl rfl ?_
    refine ev_bk 2 (S' := (106, [some (.ref 0), some (vI x1), some (vI x2), some (.ref a3), some (vI z11)], [.ref 0], hp S9, 0, 0)) rfl ?_
    refine mv_gfR rfl rfl (sh_0) (by decide) rfl ?_
    refine ev_bk 2 (S' := (111, [some (.ref 0), some (vI x1), some (vI x2), some (.ref a3), some (vI z11)], [.ref 0, vI x1, .ref 30], hp S9, 0, 0)) rfl ?_
    refine mv_gfR rfl rfl (sh_0) (by decide) rfl ?_
    refine ev_bk 1 (S' := (115, [some (.ref 0), some (vI x1), some (vI x2), some (.ref a3), some (vI z11)], [.ref a3, .ref 1, vI x1, .ref 30], hp S9, 0, 0)) rfl ?_
    obtain ⟨S12, e13, F⟩ := F
    refine mv_calv (as := [vI x1, .ref 1, .ref a3]) (rest := []) e13 (sh_30) rfl rfl rfl ⟨rfl, rfl⟩ rfl rfl rfl rfl rfl ?_
    refine ev_bk 1 (S' := (120, [some (.ref 0), some (vI x1), some (vI x2), some (.ref a3), some (vI z11)], [vI z11], hp S12, 0, 0)) rfl ?_
    obtain ⟨rfl, rfl⟩ := F
    exact ev_ret rfl rfl
  by_cases d4 : w32 x1 < 5
  · have e := ts_eq d3 d4
    have F := F.2.2.2.1 e
    refine mv_tin 80 4 e rfl (by decide) rfl rfl ?_
    refine ev_bk 1 (S' := (81, [some (.ref 0), some (vI x1), some (vI x2), some (.ref a3), none], [.ref 0], hp S, 0, 0)) rfl ?_
    refine mv_gfR rfl rfl (sh_0) (by decide) rfl ?_
    refine ev_bk 3 (S' := (87, [some (.ref 0), some (vI x1), some (vI x2), some (.ref a3), none], [.ref a3, vI x2, vI x1, .ref 30], hp S, 0, 0)) rfl ?_
    obtain ⟨S14, e15, F⟩ := F
    refine mv_calv (as := [vI x1, vI x2, .ref a3]) (rest := []) e15 (sh_30) rfl rfl rfl ⟨rfl, rfl⟩ rfl rfl rfl rfl rfl ?_
    refine ev_bk 1 (S' := (91, [some (.ref 0), some (vI x1), some (vI x2), some (.ref a3), none], [.ref 0], hp S14, 0, 0)) rfl ?_
    refine mv_gfR rfl rfl (sh_0) (by decide) rfl ?_
    refine ev_bk 1 (S' := (95, [some (.ref 0), some (vI x1), some (vI x2), some (.ref a3), none], [.ref 0, .ref 30], hp S14, 0, 0)) rfl ?_
    refine mv_gfR rfl rfl (sh_0) (by decide) rfl ?_
    refine ev_bk 2 (S' := (100, [some (.ref 0), some (vI x1), some (vI x2), some (.ref a3), none], [.ref a3, vI x2, .ref 1, .ref 30], hp S14, 0, 0)) rfl ?_
    obtain ⟨z18, S16, e17, F⟩ := F
    refine mv_calv (as := [.ref 1, vI x2, .ref a3]) (rest := []) e17 (sh_30) rfl rfl rfl ⟨rfl, rfl⟩ rfl rfl rfl rfl rfl ?_
    refine ev_bk 2 (S' := (106, [some (.ref 0), some (vI x1), some (vI x2), some (.ref a3), some (vI z18)], [.ref 0], hp S16, 0, 0)) rfl ?_
    refine mv_gfR rfl rfl (sh_0) (by decide) rfl ?_
    refine ev_bk 2 (S' := (111, [some (.ref 0), some (vI x1), some (vI x2), some (.ref a3), some (vI z18)], [.ref 0, vI x1, .ref 30], hp S16, 0, 0)) rfl ?_
    refine mv_gfR rfl rfl (sh_0) (by decide) rfl ?_
    refine ev_bk 1 (S' := (115, [some (.ref 0), some (vI x1), some (vI x2), some (.ref a3), some (vI z18)], [.ref a3, .ref 1, vI x1, .ref 30], hp S16, 0, 0)) rfl ?_
    obtain ⟨S19, e20, F⟩ := F
    refine mv_calv (as := [vI x1, .ref 1, .ref a3]) (rest := []) e20 (sh_30) rfl rfl rfl ⟨rfl, rfl⟩ rfl rfl rfl rfl rfl ?_
    refine ev_bk 1 (S' := (120, [some (.ref 0), some (vI x1), some (vI x2), some (.ref a3), some (vI z18)], [vI z18], hp S19, 0, 0)) rfl ?_
    obtain ⟨rfl, rfl⟩ := F
    exact ev_ret rfl rfl
  by_cases d5 : w32 x1 < 6
  · have e := ts_eq d4 d5
    have F := F.2.2.2.2.1 e
    refine mv_tin 80 5 e rfl (by decide) rfl rfl ?_
    refine ev_bk 1 (S' := (81, [some (.ref 0), some (vI x1), some (vI x2), some (.ref a3), none], [.ref 0], hp S, 0, 0)) rfl ?_
    refine mv_gfR rfl rfl (sh_0) (by decide) rfl ?_
    refine ev_bk 3 (S' := (87, [some (.ref 0), some (vI x1), some (vI x2), some (.ref a3), none], [.ref a3, vI x2, vI x1, .ref 30], hp S, 0, 0)) rfl ?_
    obtain ⟨S21, e22, F⟩ := F
    refine mv_calv (as := [vI x1, vI x2, .ref a3]) (rest := []) e22 (sh_30) rfl rfl rfl ⟨rfl, rfl⟩ rfl rfl rfl rfl rfl ?_
    refine ev_bk 1 (S' := (91, [some (.ref 0), some (vI x1), some (vI x2), some (.ref a3), none], [.ref 0], hp S21, 0, 0)) rfl ?_
    refine mv_gfR rfl rfl (sh_0) (by decide) rfl ?_
    refine ev_bk 1 (S' := (95, [some (.ref 0), some (vI x1), some (vI x2), some (.ref a3), none], [.ref 0, .ref 30], hp S21, 0, 0)) rfl ?_
    refine mv_gfR rfl rfl (sh_0) (by decide) rfl ?_
    refine ev_bk 2 (S' := (100, [some (.ref 0), some (vI x1), some (vI x2), some (.ref a3), none], [.ref a3, vI x2, .ref 1, .ref 30], hp S21, 0, 0)) rfl ?_
    obtain ⟨z25, S23, e24, F⟩ := F
    refine mv_calv (as := [.ref 1, vI x2, .ref a3]) (rest := []) e24 (sh_30) rfl rfl rfl ⟨rfl, rfl⟩ rfl rfl rfl rfl rfl ?_
    refine ev_bk 2 (S' := (106, [some (.ref 0), some (vI x1), some (vI x2), some (.ref a3), some (vI z25)], [.ref 0], hp S23, 0, 0)) rfl ?_
    refine mv_gfR rfl rfl (sh_0) (by decide) rfl ?_
    refine ev_bk 2 (S' := (111, [some (.ref 0), some (vI x1), some (vI x2), some (.ref a3), some (vI z25)], [.ref 0, vI x1, .ref 30], hp S23, 0, 0)) rfl ?_
    refine mv_gfR rfl rfl (sh_0) (by decide) rfl ?_
    refine ev_bk 1 (S' := (115, [some (.ref 0), some (vI x1), some (vI x2), some (.ref a3), some (vI z25)], [.ref a3, .ref 1, vI x1, .ref 30], hp S23, 0, 0)) rfl ?_
    obtain ⟨S26, e27, F⟩ := F
    refine mv_calv (as := [vI x1, .ref 1, .ref a3]) (rest := []) e27 (sh_30) rfl rfl rfl ⟨rfl, rfl⟩ rfl rfl rfl rfl rfl ?_
    refine ev_bk 1 (S' := (120, [some (.ref 0), some (vI x1), some (vI x2), some (.ref a3), some (vI z25)], [vI z25], hp S26, 0, 0)) rfl ?_
    obtain ⟨rfl, rfl⟩ := F
    exact ev_ret rfl rfl
  by_cases d6 : w32 x1 < 7
  · have e := ts_eq d5 d6
    have F := F.2.2.2.2.2.1 e
    refine mv_tin 121 6 e rfl (by decide) rfl rfl ?_
    refine ev_bk 1 (S' := (122, [some (.ref 0), some (vI x1), some (vI x2), some (.ref a3), none], [.ref 0], hp S, 0, 0)) rfl ?_
    refine mv_gfR rfl rfl (sh_0) (by decide) rfl ?_
    refine ev_bk 1 (S' := (126, [some (.ref 0), some (vI x1), some (vI x2), some (.ref a3), none], [.ref 0, .ref 29], hp S, 0, 0)) rfl ?_
    refine mv_gfR rfl rfl (sh_0) (by decide) rfl ?_
    refine ev_bk 1 (S' := (130, [some (.ref 0), some (vI x1), some (vI x2), some (.ref a3), none], [.ref a3, .ref 1, .ref 29], hp S, 0, 0)) rfl ?_
    obtain ⟨S28, e29, F⟩ := F
    refine mv_calv (as := [.ref 1, .ref a3]) (rest := []) e29 (sh_29) rfl rfl rfl ⟨rfl, rfl⟩ rfl rfl rfl rfl rfl ?_
    refine ev_bk 1 (S' := (134, [some (.ref 0), some (vI x1), some (vI x2), some (.ref a3), none], [vI 0], hp S28, 0, 0)) rfl ?_
    obtain ⟨rfl, rfl⟩ := F
    exact ev_ret rfl rfl
  by_cases d7 : w32 x1 < 8
  · have e := ts_eq d6 d7
    have F := F.2.2.2.2.2.2.1 e
    refine mv_tin 135 7 e rfl (by decide) rfl rfl ?_
    refine ev_bk 1 (S' := (136, [some (.ref 0), some (vI x1), some (vI x2), some (.ref a3), none], [.ref 0], hp S, 0, 0)) rfl ?_
    refine mv_gfR rfl rfl (sh_0) (by decide) rfl ?_
    refine ev_bk 1 (S' := (140, [some (.ref 0), some (vI x1), some (vI x2), some (.ref a3), none], [.ref 0, .ref 29], hp S, 0, 0)) rfl ?_
    refine mv_gfR rfl rfl (sh_0) (by decide) rfl ?_
    refine ev_bk 1 (S' := (144, [some (.ref 0), some (vI x1), some (vI x2), some (.ref a3), none], [.ref a3, .ref 1, .ref 29], hp S, 0, 0)) rfl ?_
    obtain ⟨S30, e31, F⟩ := F
    refine mv_calv (as := [.ref 1, .ref a3]) (rest := []) e31 (sh_29) rfl rfl rfl ⟨rfl, rfl⟩ rfl rfl rfl rfl rfl ?_
    refine ev_bk 1 (S' := (148, [some (.ref 0), some (vI x1), some (vI x2), some (.ref a3), none], [vI 0], hp S30, 0, 0)) rfl ?_
    obtain ⟨rfl, rfl⟩ := F
    exact ev_ret rfl rfl
  by_cases d8 : w32 x1 < 9
  · have e := ts_eq d7 d8
    have F := F.2.2.2.2.2.2.2.1 e
    refine mv_tin 149 8 e rfl (by decide) rfl rfl ?_
    refine ev_bk 1 (S' := (150, [some (.ref 0), some (vI x1), some (vI x2), some (.ref a3), none], [.ref 0], hp S, 0, 0)) rfl ?_
    refine mv_gfR rfl rfl (sh_0) (by decide) rfl ?_
    refine ev_bk 1 (S' := (154, [some (.ref 0), some (vI x1), some (vI x2), some (.ref a3), none], [.ref 0, .ref 29], hp S, 0, 0)) rfl ?_
    refine mv_gfR rfl rfl (sh_0) (by decide) rfl ?_
    refine ev_bk 1 (S' := (158, [some (.ref 0), some (vI x1), some (vI x2), some (.ref a3), none], [.ref a3, .ref 1, .ref 29], hp S, 0, 0)) rfl ?_
    obtain ⟨S32, e33, F⟩ := F
    refine mv_calv (as := [.ref 1, .ref a3]) (rest := []) e33 (sh_29) rfl rfl rfl ⟨rfl, rfl⟩ rfl rfl rfl rfl rfl ?_
    refine ev_bk 1 (S' := (162, [some (.ref 0), some (vI x1), some (vI x2), some (.ref a3), none], [vI 0], hp S32, 0, 0)) rfl ?_
    obtain ⟨rfl, rfl⟩ := F
    exact ev_ret rfl rfl
  by_cases d9 : w32 x1 < 10
  · have e := ts_eq d8 d9
    have F := F.2.2.2.2.2.2.2.2.1 e
    refine mv_tin 163 9 e rfl (by decide) rfl rfl ?_
    refine ev_bk 1 (S' := (164, [some (.ref 0), some (vI x1), some (vI x2), some (.ref a3), none], [.ref 0], hp S, 0, 0)) rfl ?_
    refine mv_gfR rfl rfl (sh_0) (by decide) rfl ?_
    refine ev_bk 1 (S' := (168, [some (.ref 0), some (vI x1), some (vI x2), some (.ref a3), none], [.ref 0, .ref 94], hp S, 0, 0)) rfl ?_
    refine mv_gfR rfl rfl (sh_0) (by decide) rfl ?_
    refine ev_bk 1 (S' := (172, [some (.ref 0), some (vI x1), some (vI x2), some (.ref a3), none], [.ref a3, .ref 1, .ref 94], hp S, 0, 0)) rfl ?_
    obtain ⟨S34, e35, F⟩ := F
    refine mv_calv (as := [.ref 1, .ref a3]) (rest := []) e35 (sh_94) rfl rfl rfl ⟨rfl, rfl⟩ rfl rfl rfl rfl rfl ?_
    refine ev_bk 1 (S' := (176, [some (.ref 0), some (vI x1), some (vI x2), some (.ref a3), none], [vI 0], hp S34, 0, 0)) rfl ?_
    obtain ⟨rfl, rfl⟩ := F
    exact ev_ret rfl rfl
  have F := F.2.2.2.2.2.2.2.2.2 (ts_hi d9 (by decide)) (ts_hi d9 (by decide)) (ts_hi d9 (by decide)) (ts_hi d9 (by decide)) (ts_hi d9 (by decide)) (ts_hi d9 (by decide)) (ts_hi d9 (by decide)) (ts_hi d9 (by decide)) (ts_hi d9 (by decide))
  refine mv_tout 177 (Or.inr (ts_gt (hi := 9) d9)) rfl rfl ?_
  refine ev_bk 1 (S' := (178, [some (.ref 0), some (vI x1), some (vI x2), some (.ref a3), none], [.ref 0], hp S, 0, 0)) rfl ?_
  refine mv_gfR rfl rfl (sh_0) (by decide) rfl ?_
  refine ev_bk 1 (S' := (182, [some (.ref 0), some (vI x1), some (vI x2), some (.ref a3), none], [.ref 0, .ref 22], hp S, 0, 0)) rfl ?_
  refine mv_gfR rfl rfl (sh_0) (by decide) rfl ?_
  refine ev_bk 1 (S' := (186, [some (.ref 0), some (vI x1), some (vI x2), some (.ref a3), none], [.ref a3, .ref 1, .ref 22], hp S, 0, 0)) rfl ?_
  obtain ⟨S1, e2, F⟩ := F
  refine mv_calv (as := [.ref 1, .ref a3]) (rest := []) e2 (sh_22) rfl rfl rfl ⟨rfl, rfl⟩ rfl rfl rfl rfl rfl ?_
  refine ev_bk 1 (S' := (190, [some (.ref 0), some (vI x1), some (vI x2), some (.ref a3), none], [vI 0], hp S1, 0, 0)) rfl ?_
  obtain ⟨rfl, rfl⟩ := F
  exact ev_ret rfl rfl
theorem vc_PH_settle {q : Nat × (Nat → Int32)} {S S' : ms} {r : Option Value} (x1 : Int)
    (F : (0 ≤ w32 x1 ∧ w32 x1 < (13 : Nat)) ∧ ∃ (o2 no2 : Nat), sh_r (SH 3).2.2 (w32 x1).toNat = some o2 ∧ isRow o2 no2 ∧ ((w32 (S.1 o2 2) = 0) → (0 ≤ w32 x1 ∧ w32 x1 < (13 : Nat)) ∧ ∀ S6 : ms, S6 = wI S 4 (w32 x1) (1 % 2) → r = some (vI x1) ∧ S' = S6) ∧ ((¬ w32 (S.1 o2 2) = 0) → r = some (vI ((-4))) ∧ S' = S)) : EV q 112 0 [some (.ref 0), some (vI x1)] [] S r S' := by
  unfold EV
  refine ev_bk 1 (S' := (1, [some (.ref 0), some (vI x1)], [.ref 0], hp S, 0, 0)) rfl ?_
  refine mv_gfR rfl rfl (sh_0) (by decide) rfl ?_
  refine ev_bk 1 (S' := (5, [some (.ref 0), some (vI x1)], [vI x1, .ref 3], hp S, 0, 0)) rfl ?_
  obtain ⟨b1, o2, no2, e4, h3, F⟩ := F
  refine mv_aal rfl (sh_3) (Or.inl rfl) b1 e4 ?_
  refine mv_gfI rfl rfl (h3.1) (by decide) rfl ?_
  refine mv_if 15 rfl rfl (fun c => ?_) (fun c => ?_)
  · have F := F.1 c
    refine ev_bk 1 (S' := (16, [some (.ref 0), some (vI x1)], [.ref 0], hp S, 0, 0)) rfl ?_
    refine mv_gfR rfl rfl (sh_0) (by decide) rfl ?_
    refine ev_bk 2 (S' := (21, [some (.ref 0), some (vI x1)], [vI 1, vI x1, .ref 4], hp S, 0, 0)) rfl ?_
    obtain ⟨b5, F⟩ := F
    refine mv_zas rfl (sh_4) b5 ?_
    have F := F _ rfl
    refine ev_bk 1 (S' := (23, [some (.ref 0), some (vI x1)], [vI x1], hp (wI S 4 (w32 x1) (1 % 2)), 0, 0)) rfl ?_
    obtain ⟨rfl, rfl⟩ := F
    exact ev_ret rfl rfl
  · have F := F.2 c
    refine ev_bk 1 (S' := (14, [some (.ref 0), some (vI x1)], [vI ((-4))], hp S, 0, 0)) rfl ?_
    obtain ⟨rfl, rfl⟩ := F
    exact ev_ret rfl rfl
theorem vc_PH_open {q : Nat × (Nat → Int32)} {S S' : ms} {r : Option Value} (x1 : Int)
    (F : ((w32 x1 < 1) → r = some (vI ((-2))) ∧ S' = S) ∧ ((¬ w32 x1 < 1) → ((w32 x1 ≤ 10) → ∃ (z3 : Int) (S1 : ms), EV q 43 0 [some (.ref 0), none] [] S (some (vI z3)) S1 ∧ ((¬ w32 z3 = 0) → (0 ≤ w32 z3 ∧ w32 z3 < (13 : Nat)) ∧ ∃ (o5 no5 : Nat), sh_r (SH 3).2.2 (w32 z3).toNat = some o5 ∧ isRow o5 no5 ∧ ((¬ w32 x1 = 9) → EV q 114 54 [some (.ref 0), some (vI x1), some (vI z3)] [vI 0, .ref o5, vI (S1.1 1 1), .ref 9] S1 r S') ∧ ((¬ (¬ w32 x1 = 9)) → EV q 114 54 [some (.ref 0), some (vI x1), some (vI z3)] [vI 1, .ref o5, vI (S1.1 1 1), .ref 9] S1 r S')) ∧ ((¬ (¬ w32 z3 = 0)) → r = some (vI ((-4))) ∧ S' = S1)) ∧ ((¬ w32 x1 ≤ 10) → r = some (vI ((-2))) ∧ S' = S))) : EV q 114 0 [some (.ref 0), some (vI x1), none] [] S r S' := by
  unfold EV
  refine ev_bk 2 (S' := (2, [some (.ref 0), some (vI x1), none], [vI 1, vI x1], hp S, 0, 0)) rfl ?_
  refine mv_icmp 11 rfl rfl (fun c => ?_) (fun c => ?_)
  · have F := F.1 c
    refine ev_bk 1 (S' := (13, [some (.ref 0), some (vI x1), none], [vI ((-2))], hp S, 0, 0)) rfl ?_
    obtain ⟨rfl, rfl⟩ := F
    exact ev_ret rfl rfl
  · have F := F.2 c
    refine ev_bk 2 (S' := (8, [some (.ref 0), some (vI x1), none], [vI 10, vI x1], hp S, 0, 0)) rfl ?_
    refine mv_icmp 14 rfl rfl (fun c => ?_) (fun c => ?_)
    · have F := F.1 c
      refine ev_bk 1 (S' := (15, [some (.ref 0), some (vI x1), none], [.ref 0], hp S, 0, 0)) rfl ?_
      obtain ⟨z3, S1, e2, F⟩ := F
      refine mv_calv (as := []) (rest := []) e2 (sh_0) rfl rfl rfl ⟨rfl, rfl⟩ rfl rfl rfl rfl rfl ?_
      refine ev_bk 2 (S' := (20, [some (.ref 0), some (vI x1), some (vI z3)], [vI z3], hp S1, 0, 0)) rfl ?_
      refine mv_if 26 rfl rfl (fun c => ?_) (fun c => ?_)
      · have F := F.1 c
        refine ev_bk 1 (S' := (27, [some (.ref 0), some (vI x1), some (vI z3)], [.ref 0], hp S1, 0, 0)) rfl ?_
        refine mv_gfR rfl rfl (sh_0) (by decide) rfl ?_
        refine ev_bk 1 (S' := (31, [some (.ref 0), some (vI x1), some (vI z3)], [.ref 0, .ref 9], hp S1, 0, 0)) rfl ?_
        refine mv_gfR rfl rfl (sh_0) (by decide) rfl ?_
        refine mv_gfI rfl rfl (sh_1) (by decide) rfl ?_
        refine ev_bk 1 (S' := (38, [some (.ref 0), some (vI x1), some (vI z3)], [.ref 0, vI (S1.1 1 1), .ref 9], hp S1, 0, 0)) rfl ?_
        refine mv_gfR rfl rfl (sh_0) (by decide) rfl ?_
        refine ev_bk 1 (S' := (42, [some (.ref 0), some (vI x1), some (vI z3)], [vI z3, .ref 3, vI (S1.1 1 1), .ref 9], hp S1, 0, 0)) rfl ?_
        obtain ⟨b4, o5, no5, e7, h6, F⟩ := F
        refine mv_aal rfl (sh_3) (Or.inl rfl) b4 e7 ?_
        refine ev_bk 2 (S' := (46, [some (.ref 0), some (vI x1), some (vI z3)], [vI 9, vI x1, .ref o5, vI (S1.1 1 1), .ref 9], hp S1, 0, 0)) rfl ?_
        refine mv_icmp 53 rfl rfl (fun c => ?_) (fun c => ?_)
        · have F := F.1 c
          refine ev_bk 1 (S' := (54, [some (.ref 0), some (vI x1), some (vI z3)], [vI 0, .ref o5, vI (S1.1 1 1), .ref 9], hp S1, 0, 0)) rfl ?_
          exact F
        · have F := F.2 c
          refine ev_bk 1 (S' := (50, [some (.ref 0), some (vI x1), some (vI z3)], [vI 1, .ref o5, vI (S1.1 1 1), .ref 9], hp S1, 0, 0)) rfl ?_
          refine mv_goto 54 rfl rfl ?_
          exact F
      · have F := F.2 c
        refine ev_bk 1 (S' := (25, [some (.ref 0), some (vI x1), some (vI z3)], [vI ((-4))], hp S1, 0, 0)) rfl ?_
        obtain ⟨rfl, rfl⟩ := F
        exact ev_ret rfl rfl
    · have F := F.2 c
      refine ev_bk 1 (S' := (13, [some (.ref 0), some (vI x1), none], [vI ((-2))], hp S, 0, 0)) rfl ?_
      obtain ⟨rfl, rfl⟩ := F
      exact ev_ret rfl rfl
theorem vc_PH_open_54 {q : Nat × (Nat → Int32)} {S S' : ms} {r : Option Value} (x1 x2 y0 y2 : Int) (c1 nc1 : Nat) (hc1 : isRow c1 nc1)
    (F : ∃ (S1 : ms), EV q 115 0 [some (.ref 9), some (vI y2), some (.ref c1), some (vI y0)] [] S none S1 ∧ ∃ (S3 : ms), EV q 116 0 [some (.ref 0), some (vI x1)] [] S1 none S3 ∧ ∃ (z7 : Int) (S5 : ms), EV q 173 0 [some (.ref 0), some (vI x2)] [] S3 (some (vI z7)) S5 ∧ r = some (vI z7) ∧ S' = S5) : EV q 114 54 [some (.ref 0), some (vI x1), some (vI x2)] [vI y0, .ref c1, vI y2, .ref 9] S r S' := by
  unfold EV
  obtain ⟨S1, e2, F⟩ := F
  refine mv_calv (as := [vI y2, .ref c1, vI y0]) (rest := []) e2 (sh_9) rfl rfl rfl ⟨rfl, rfl⟩ rfl rfl rfl rfl rfl ?_
  refine ev_bk 2 (S' := (59, [some (.ref 0), some (vI x1), some (vI x2)], [vI x1, .ref 0], hp S1, 0, 0)) rfl ?_
  obtain ⟨S3, e4, F⟩ := F
  refine mv_calv (as := [vI x1]) (rest := []) e4 (sh_0) rfl rfl rfl ⟨rfl, rfl⟩ rfl rfl rfl rfl rfl ?_
  refine ev_bk 2 (S' := (64, [some (.ref 0), some (vI x1), some (vI x2)], [vI x2, .ref 0], hp S3, 0, 0)) rfl ?_
  obtain ⟨z7, S5, e6, F⟩ := F
  refine mv_calv (as := [vI x2]) (rest := []) e6 (sh_0) rfl rfl rfl ⟨rfl, rfl⟩ rfl rfl rfl rfl rfl ?_
  obtain ⟨rfl, rfl⟩ := F
  exact ev_ret rfl rfl
theorem vc_PH_openKind {q : Nat × (Nat → Int32)} {S S' : ms} {r : Option Value} (x1 : Int)
    (F : ((w32 x1 = 1) → ∃ (S3 : ms), EV q 117 0 [some (.ref 22), some (.ref 9), none, none] [] S none S3 ∧ r = none ∧ S' = S3) ∧ ((w32 x1 = 2) → ∃ (S5 : ms), EV q 122 0 [some (.ref 22), some (.ref 9), none, none, none, none, none] [] S none S5 ∧ r = none ∧ S' = S5) ∧ ((w32 x1 = 3) → ∃ (S7 : ms), EV q 129 0 [some (.ref 30), some (.ref 9), some (vI 32768), none, none] [] S none S7 ∧ ∃ (S9 : ms), EV q 125 0 [some (.ref 9)] [] S7 none S9 ∧ r = none ∧ S' = S9) ∧ ((w32 x1 = 4) → ∃ (S11 : ms), EV q 142 0 [some (.ref 30), some (.ref 9), none, none, none, none] [] S none S11 ∧ r = none ∧ S' = S11) ∧ ((w32 x1 = 5) → ∃ (S13 : ms), EV q 144 0 [some (.ref 30), some (.ref 9), none, none, none, none] [] S none S13 ∧ r = none ∧ S' = S13) ∧ ((w32 x1 = 6) → ∃ (S15 : ms), EV q 149 0 [some (.ref 29), some (.ref 9), some (vI 0), none, none, none, none] [] S none S15 ∧ r = none ∧ S' = S15) ∧ ((w32 x1 = 7) → ∃ (S17 : ms), EV q 151 0 [some (.ref 29), some (.ref 9), none, none, none] [] S none S17 ∧ r = none ∧ S' = S17) ∧ ((w32 x1 = 8) → ∃ (S19 : ms), EV q 157 0 [some (.ref 29), some (.ref 9), none, none, none, none] [] S none S19 ∧ r = none ∧ S' = S19) ∧ ((w32 x1 = 9) → ∃ (S21 : ms), EV q 161 0 [some (.ref 94), some (.ref 9), none, none, none, none, none] [] S none S21 ∧ r = none ∧ S' = S21) ∧ ((¬ w32 x1 = 1) → (¬ w32 x1 = 2) → (¬ w32 x1 = 3) → (¬ w32 x1 = 4) → (¬ w32 x1 = 5) → (¬ w32 x1 = 6) → (¬ w32 x1 = 7) → (¬ w32 x1 = 8) → (¬ w32 x1 = 9) → ∃ (S1 : ms), EV q 171 0 [some (.ref 22), some (.ref 9), none, none, none, none, none] [] S none S1 ∧ r = none ∧ S' = S1)) : EV q 116 0 [some (.ref 0), some (vI x1)] [] S r S' := by
  unfold EV
  refine ev_bk 1 (S' := (1, [some (.ref 0), some (vI x1)], [vI x1], hp S, 0, 0)) rfl ?_
  by_cases d0 : w32 x1 < 1
  · have F := F.2.2.2.2.2.2.2.2.2 (ts_lo d0 (by decide)) (ts_lo d0 (by decide)) (ts_lo d0 (by decide)) (ts_lo d0 (by decide)) (ts_lo d0 (by decide)) (ts_lo d0 (by decide)) (ts_lo d0 (by decide)) (ts_lo d0 (by decide)) (ts_lo d0 (by decide))
    refine mv_tout 188 (Or.inl d0) rfl rfl ?_
    refine ev_bk 1 (S' := (189, [some (.ref 0), some (vI x1)], [.ref 0], hp S, 0, 0)) rfl ?_
    refine mv_gfR rfl rfl (sh_0) (by decide) rfl ?_
    refine ev_bk 1 (S' := (193, [some (.ref 0), some (vI x1)], [.ref 0, .ref 22], hp S, 0, 0)) rfl ?_
    refine mv_gfR rfl rfl (sh_0) (by decide) rfl ?_
    obtain ⟨S1, e2, F⟩ := F
    refine mv_calv (as := [.ref 9]) (rest := []) e2 (sh_22) rfl rfl rfl ⟨rfl, rfl⟩ rfl rfl rfl rfl rfl ?_
    obtain ⟨rfl, rfl⟩ := F
    exact ev_ret rfl rfl
  by_cases d1 : w32 x1 < 2
  · have e := ts_eq d0 d1
    have F := F.1 e
    refine mv_tin 52 1 e rfl (by decide) rfl rfl ?_
    refine ev_bk 1 (S' := (53, [some (.ref 0), some (vI x1)], [.ref 0], hp S, 0, 0)) rfl ?_
    refine mv_gfR rfl rfl (sh_0) (by decide) rfl ?_
    refine ev_bk 1 (S' := (57, [some (.ref 0), some (vI x1)], [.ref 0, .ref 22], hp S, 0, 0)) rfl ?_
    refine mv_gfR rfl rfl (sh_0) (by decide) rfl ?_
    obtain ⟨S3, e4, F⟩ := F
    refine mv_calv (as := [.ref 9]) (rest := []) e4 (sh_22) rfl rfl rfl ⟨rfl, rfl⟩ rfl rfl rfl rfl rfl ?_
    refine mv_goto 199 rfl rfl ?_
    obtain ⟨rfl, rfl⟩ := F
    exact ev_ret rfl rfl
  by_cases d2 : w32 x1 < 3
  · have e := ts_eq d1 d2
    have F := F.2.1 e
    refine mv_tin 66 2 e rfl (by decide) rfl rfl ?_
    refine ev_bk 1 (S' := (67, [some (.ref 0), some (vI x1)], [.ref 0], hp S, 0, 0)) rfl ?_
    refine mv_gfR rfl rfl (sh_0) (by decide) rfl ?_
    refine ev_bk 1 (S' := (71, [some (.ref 0), some (vI x1)], [.ref 0, .ref 22], hp S, 0, 0)) rfl ?_
    refine mv_gfR rfl rfl (sh_0) (by decide) rfl ?_
    obtain ⟨S5, e6, F⟩ := F
    refine mv_calv (as := [.ref 9]) (rest := []) e6 (sh_22) rfl rfl rfl ⟨rfl, rfl⟩ rfl rfl rfl rfl rfl ?_
    refine mv_goto 199 rfl rfl ?_
    obtain ⟨rfl, rfl⟩ := F
    exact ev_ret rfl rfl
  by_cases d3 : w32 x1 < 4
  · have e := ts_eq d2 d3
    have F := F.2.2.1 e
    refine mv_tin 80 3 e rfl (by decide) rfl rfl ?_
    refine ev_bk 1 (S' := (81, [some (.ref 0), some (vI x1)], [.ref 0], hp S, 0, 0)) rfl ?_
    refine mv_gfR rfl rfl (sh_0) (by decide) rfl ?_
    refine ev_bk 1 (S' := (85, [some (.ref 0), some (vI x1)], [.ref 0, .ref 30], hp S, 0, 0)) rfl ?_
    refine mv_gfR rfl rfl (sh_0) (by decide) rfl ?_
    refine ev_bk 1 (S' := (90, [some (.ref 0), some (vI x1)], [vI 32768, .ref 9, .ref 30], hp S, 0, 0)) rfl ?_
    obtain ⟨S7, e8, F⟩ := F
    refine mv_calv (as := [.ref 9, vI 32768]) (rest := []) e8 (sh_30) rfl rfl rfl ⟨rfl, rfl⟩ rfl rfl rfl rfl rfl ?_
    refine ev_bk 1 (S' := (94, [some (.ref 0), some (vI x1)], [.ref 0], hp S7, 0, 0)) rfl ?_
    refine mv_gfR rfl rfl (sh_0) (by decide) rfl ?_
    obtain ⟨S9, e10, F⟩ := F
    refine mv_calv (as := []) (rest := []) e10 (sh_9) rfl rfl rfl ⟨rfl, rfl⟩ rfl rfl rfl rfl rfl ?_
    refine mv_goto 199 rfl rfl ?_
    obtain ⟨rfl, rfl⟩ := F
    exact ev_ret rfl rfl
  by_cases d4 : w32 x1 < 5
  · have e := ts_eq d3 d4
    have F := F.2.2.2.1 e
    refine mv_tin 103 4 e rfl (by decide) rfl rfl ?_
    refine ev_bk 1 (S' := (104, [some (.ref 0), some (vI x1)], [.ref 0], hp S, 0, 0)) rfl ?_
    refine mv_gfR rfl rfl (sh_0) (by decide) rfl ?_
    refine ev_bk 1 (S' := (108, [some (.ref 0), some (vI x1)], [.ref 0, .ref 30], hp S, 0, 0)) rfl ?_
    refine mv_gfR rfl rfl (sh_0) (by decide) rfl ?_
    obtain ⟨S11, e12, F⟩ := F
    refine mv_calv (as := [.ref 9]) (rest := []) e12 (sh_30) rfl rfl rfl ⟨rfl, rfl⟩ rfl rfl rfl rfl rfl ?_
    refine mv_goto 199 rfl rfl ?_
    obtain ⟨rfl, rfl⟩ := F
    exact ev_ret rfl rfl
  by_cases d5 : w32 x1 < 6
  · have e := ts_eq d4 d5
    have F := F.2.2.2.2.1 e
    refine mv_tin 117 5 e rfl (by decide) rfl rfl ?_
    refine ev_bk 1 (S' := (118, [some (.ref 0), some (vI x1)], [.ref 0], hp S, 0, 0)) rfl ?_
    refine mv_gfR rfl rfl (sh_0) (by decide) rfl ?_
    refine ev_bk 1 (S' := (122, [some (.ref 0), some (vI x1)], [.ref 0, .ref 30], hp S, 0, 0)) rfl ?_
    refine mv_gfR rfl rfl (sh_0) (by decide) rfl ?_
    obtain ⟨S13, e14, F⟩ := F
    refine mv_calv (as := [.ref 9]) (rest := []) e14 (sh_30) rfl rfl rfl ⟨rfl, rfl⟩ rfl rfl rfl rfl rfl ?_
    refine mv_goto 199 rfl rfl ?_
    obtain ⟨rfl, rfl⟩ := F
    exact ev_ret rfl rfl
  by_cases d6 : w32 x1 < 7
  · have e := ts_eq d5 d6
    have F := F.2.2.2.2.2.1 e
    refine mv_tin 131 6 e rfl (by decide) rfl rfl ?_
    refine ev_bk 1 (S' := (132, [some (.ref 0), some (vI x1)], [.ref 0], hp S, 0, 0)) rfl ?_
    refine mv_gfR rfl rfl (sh_0) (by decide) rfl ?_
    refine ev_bk 1 (S' := (136, [some (.ref 0), some (vI x1)], [.ref 0, .ref 29], hp S, 0, 0)) rfl ?_
    refine mv_gfR rfl rfl (sh_0) (by decide) rfl ?_
    refine ev_bk 1 (S' := (140, [some (.ref 0), some (vI x1)], [vI 0, .ref 9, .ref 29], hp S, 0, 0)) rfl ?_
    obtain ⟨S15, e16, F⟩ := F
    refine mv_calv (as := [.ref 9, vI 0]) (rest := []) e16 (sh_29) rfl rfl rfl ⟨rfl, rfl⟩ rfl rfl rfl rfl rfl ?_
    refine mv_goto 199 rfl rfl ?_
    obtain ⟨rfl, rfl⟩ := F
    exact ev_ret rfl rfl
  by_cases d7 : w32 x1 < 8
  · have e := ts_eq d6 d7
    have F := F.2.2.2.2.2.2.1 e
    refine mv_tin 146 7 e rfl (by decide) rfl rfl ?_
    refine ev_bk 1 (S' := (147, [some (.ref 0), some (vI x1)], [.ref 0], hp S, 0, 0)) rfl ?_
    refine mv_gfR rfl rfl (sh_0) (by decide) rfl ?_
    refine ev_bk 1 (S' := (151, [some (.ref 0), some (vI x1)], [.ref 0, .ref 29], hp S, 0, 0)) rfl ?_
    refine mv_gfR rfl rfl (sh_0) (by decide) rfl ?_
    obtain ⟨S17, e18, F⟩ := F
    refine mv_calv (as := [.ref 9]) (rest := []) e18 (sh_29) rfl rfl rfl ⟨rfl, rfl⟩ rfl rfl rfl rfl rfl ?_
    refine mv_goto 199 rfl rfl ?_
    obtain ⟨rfl, rfl⟩ := F
    exact ev_ret rfl rfl
  by_cases d8 : w32 x1 < 9
  · have e := ts_eq d7 d8
    have F := F.2.2.2.2.2.2.2.1 e
    refine mv_tin 160 8 e rfl (by decide) rfl rfl ?_
    refine ev_bk 1 (S' := (161, [some (.ref 0), some (vI x1)], [.ref 0], hp S, 0, 0)) rfl ?_
    refine mv_gfR rfl rfl (sh_0) (by decide) rfl ?_
    refine ev_bk 1 (S' := (165, [some (.ref 0), some (vI x1)], [.ref 0, .ref 29], hp S, 0, 0)) rfl ?_
    refine mv_gfR rfl rfl (sh_0) (by decide) rfl ?_
    obtain ⟨S19, e20, F⟩ := F
    refine mv_calv (as := [.ref 9]) (rest := []) e20 (sh_29) rfl rfl rfl ⟨rfl, rfl⟩ rfl rfl rfl rfl rfl ?_
    refine mv_goto 199 rfl rfl ?_
    obtain ⟨rfl, rfl⟩ := F
    exact ev_ret rfl rfl
  by_cases d9 : w32 x1 < 10
  · have e := ts_eq d8 d9
    have F := F.2.2.2.2.2.2.2.2.1 e
    refine mv_tin 174 9 e rfl (by decide) rfl rfl ?_
    refine ev_bk 1 (S' := (175, [some (.ref 0), some (vI x1)], [.ref 0], hp S, 0, 0)) rfl ?_
    refine mv_gfR rfl rfl (sh_0) (by decide) rfl ?_
    refine ev_bk 1 (S' := (179, [some (.ref 0), some (vI x1)], [.ref 0, .ref 94], hp S, 0, 0)) rfl ?_
    refine mv_gfR rfl rfl (sh_0) (by decide) rfl ?_
    obtain ⟨S21, e22, F⟩ := F
    refine mv_calv (as := [.ref 9]) (rest := []) e22 (sh_94) rfl rfl rfl ⟨rfl, rfl⟩ rfl rfl rfl rfl rfl ?_
    refine mv_goto 199 rfl rfl ?_
    obtain ⟨rfl, rfl⟩ := F
    exact ev_ret rfl rfl
  have F := F.2.2.2.2.2.2.2.2.2 (ts_hi d9 (by decide)) (ts_hi d9 (by decide)) (ts_hi d9 (by decide)) (ts_hi d9 (by decide)) (ts_hi d9 (by decide)) (ts_hi d9 (by decide)) (ts_hi d9 (by decide)) (ts_hi d9 (by decide)) (ts_hi d9 (by decide))
  refine mv_tout 188 (Or.inr (ts_gt (hi := 9) d9)) rfl rfl ?_
  refine ev_bk 1 (S' := (189, [some (.ref 0), some (vI x1)], [.ref 0], hp S, 0, 0)) rfl ?_
  refine mv_gfR rfl rfl (sh_0) (by decide) rfl ?_
  refine ev_bk 1 (S' := (193, [some (.ref 0), some (vI x1)], [.ref 0, .ref 22], hp S, 0, 0)) rfl ?_
  refine mv_gfR rfl rfl (sh_0) (by decide) rfl ?_
  obtain ⟨S1, e2, F⟩ := F
  refine mv_calv (as := [.ref 9]) (rest := []) e2 (sh_22) rfl rfl rfl ⟨rfl, rfl⟩ rfl rfl rfl rfl rfl ?_
  obtain ⟨rfl, rfl⟩ := F
  exact ev_ret rfl rfl
theorem vc_PH_settleOpening {q : Nat × (Nat → Int32)} {S S' : ms} {r : Option Value} (x1 : Int)
    (F : (0 ≤ w32 x1 ∧ w32 x1 < (13 : Nat)) ∧ ∃ (o2 no2 : Nat), sh_r (SH 3).2.2 (w32 x1).toNat = some o2 ∧ isRow o2 no2 ∧ ∃ (S5 : ms), EV q 174 0 [some (.ref 0), some (vI (S.1 o2 1))] [] S none S5 ∧ ((¬ w32 (S5.1 0 16) = 0) → r = some (vI (((-10)) - (S5.1 0 16))) ∧ S' = S5) ∧ ((¬ (¬ w32 (S5.1 0 16) = 0)) → ∃ (z9 : Int) (S7 : ms), EV q 112 0 [some (.ref 0), some (vI x1)] [] S5 (some (vI z9)) S7 ∧ r = some (vI z9) ∧ S' = S7)) : EV q 173 0 [some (.ref 0), some (vI x1)] [] S r S' := by
  unfold EV
  refine ev_bk 2 (S' := (2, [some (.ref 0), some (vI x1)], [.ref 0, .ref 0], hp S, 0, 0)) rfl ?_
  refine mv_gfR rfl rfl (sh_0) (by decide) rfl ?_
  refine ev_bk 1 (S' := (6, [some (.ref 0), some (vI x1)], [vI x1, .ref 3, .ref 0], hp S, 0, 0)) rfl ?_
  obtain ⟨b1, o2, no2, e4, h3, F⟩ := F
  refine mv_aal rfl (sh_3) (Or.inl rfl) b1 e4 ?_
  refine mv_gfI rfl rfl (h3.1) (by decide) rfl ?_
  obtain ⟨S5, e6, F⟩ := F
  refine mv_calv (as := [vI (S.1 o2 1)]) (rest := []) e6 (sh_0) rfl rfl rfl ⟨rfl, rfl⟩ rfl rfl rfl rfl rfl ?_
  refine ev_bk 1 (S' := (14, [some (.ref 0), some (vI x1)], [.ref 0], hp S5, 0, 0)) rfl ?_
  refine mv_gfI rfl rfl (sh_0) (by decide) rfl ?_
  refine mv_if 28 rfl rfl (fun c => ?_) (fun c => ?_)
  · have F := F.1 c
    refine ev_bk 2 (S' := (31, [some (.ref 0), some (vI x1)], [.ref 0, vI ((-10))], hp S5, 0, 0)) rfl ?_
    refine mv_gfI rfl rfl (sh_0) (by decide) rfl ?_
    refine mv_isub rfl ?_
    obtain ⟨rfl, rfl⟩ := F
    exact ev_ret rfl rfl
  · have F := F.2 c
    refine ev_bk 2 (S' := (22, [some (.ref 0), some (vI x1)], [vI x1, .ref 0], hp S5, 0, 0)) rfl ?_
    obtain ⟨z9, S7, e8, F⟩ := F
    refine mv_calv (as := [vI x1]) (rest := []) e8 (sh_0) rfl rfl rfl ⟨rfl, rfl⟩ rfl rfl rfl rfl rfl ?_
    refine mv_goto 35 rfl rfl ?_
    obtain ⟨rfl, rfl⟩ := F
    exact ev_ret rfl rfl
theorem vc_PH_tellFault {q : Nat × (Nat → Int32)} {S S' : ms} {r : Option Value} (x1 : Int)
    (F : ∀ S1 : ms, S1 = wI S 0 16 (S.1 9 5) → ∀ S2 : ms, S2 = wI S1 0 17 (S1.1 9 6) → ∀ S3 : ms, S3 = wI S2 0 18 x1 → r = none ∧ S' = S3) : EV q 174 0 [some (.ref 0), some (vI x1)] [] S r S' := by
  unfold EV
  refine ev_bk 2 (S' := (2, [some (.ref 0), some (vI x1)], [.ref 0, .ref 0], hp S, 0, 0)) rfl ?_
  refine mv_gfR rfl rfl (sh_0) (by decide) rfl ?_
  refine mv_gfI rfl rfl (sh_9) (by decide) rfl ?_
  refine mv_pfI rfl rfl (sh_0) (by decide) rfl rfl ?_
  have F := F _ rfl
  refine ev_bk 2 (S' := (13, [some (.ref 0), some (vI x1)], [.ref 0, .ref 0], hp (wI S 0 16 (S.1 9 5)), 0, 0)) rfl ?_
  refine mv_gfR rfl rfl (sh_0) (by decide) rfl ?_
  refine mv_gfI rfl rfl (sh_9) (by decide) rfl ?_
  refine mv_pfI rfl rfl (sh_0) (by decide) rfl rfl ?_
  have F := F _ rfl
  refine ev_bk 2 (S' := (24, [some (.ref 0), some (vI x1)], [vI x1, .ref 0], hp (wI (wI S 0 16 (S.1 9 5)) 0 17 ((wI S 0 16 (S.1 9 5)).1 9 6)), 0, 0)) rfl ?_
  refine mv_pfI rfl rfl (sh_0) (by decide) rfl rfl ?_
  have F := F _ rfl
  obtain ⟨rfl, rfl⟩ := F
  exact ev_ret rfl rfl
theorem vc_PH_fault {q : Nat × (Nat → Int32)} {S S' : ms} {r : Option Value} (x1 : Int)
    (F : ((w32 x1 = 0) → r = some (vI (S.1 0 16)) ∧ S' = S) ∧ ((w32 x1 = 1) → r = some (vI (S.1 0 17)) ∧ S' = S) ∧ ((w32 x1 = 2) → r = some (vI (S.1 0 18)) ∧ S' = S) ∧ ((¬ w32 x1 = 0) → (¬ w32 x1 = 1) → (¬ w32 x1 = 2) → r = some (vI ((-2))) ∧ S' = S)) : EV q 175 0 [some (.ref 0), some (vI x1)] [] S r S' := by
  unfold EV
  refine ev_bk 1 (S' := (1, [some (.ref 0), some (vI x1)], [vI x1], hp S, 0, 0)) rfl ?_
  by_cases d0 : w32 x1 < 0
  · have F := F.2.2.2 (ts_lo d0 (by decide)) (ts_lo d0 (by decide)) (ts_lo d0 (by decide))
    refine mv_tout 43 (Or.inl d0) rfl rfl ?_
    refine ev_bk 1 (S' := (45, [some (.ref 0), some (vI x1)], [vI ((-2))], hp S, 0, 0)) rfl ?_
    obtain ⟨rfl, rfl⟩ := F
    exact ev_ret rfl rfl
  by_cases d1 : w32 x1 < 1
  · have e := ts_eq d0 d1
    have F := F.1 e
    refine mv_tin 28 0 e rfl (by decide) rfl rfl ?_
    refine ev_bk 1 (S' := (29, [some (.ref 0), some (vI x1)], [.ref 0], hp S, 0, 0)) rfl ?_
    refine mv_gfI rfl rfl (sh_0) (by decide) rfl ?_
    obtain ⟨rfl, rfl⟩ := F
    exact ev_ret rfl rfl
  by_cases d2 : w32 x1 < 2
  · have e := ts_eq d1 d2
    have F := F.2.1 e
    refine mv_tin 33 1 e rfl (by decide) rfl rfl ?_
    refine ev_bk 1 (S' := (34, [some (.ref 0), some (vI x1)], [.ref 0], hp S, 0, 0)) rfl ?_
    refine mv_gfI rfl rfl (sh_0) (by decide) rfl ?_
    obtain ⟨rfl, rfl⟩ := F
    exact ev_ret rfl rfl
  by_cases d3 : w32 x1 < 3
  · have e := ts_eq d2 d3
    have F := F.2.2.1 e
    refine mv_tin 38 2 e rfl (by decide) rfl rfl ?_
    refine ev_bk 1 (S' := (39, [some (.ref 0), some (vI x1)], [.ref 0], hp S, 0, 0)) rfl ?_
    refine mv_gfI rfl rfl (sh_0) (by decide) rfl ?_
    obtain ⟨rfl, rfl⟩ := F
    exact ev_ret rfl rfl
  have F := F.2.2.2 (ts_hi d3 (by decide)) (ts_hi d3 (by decide)) (ts_hi d3 (by decide))
  refine mv_tout 43 (Or.inr (ts_gt (hi := 2) d3)) rfl rfl ?_
  refine ev_bk 1 (S' := (45, [some (.ref 0), some (vI x1)], [vI ((-2))], hp S, 0, 0)) rfl ?_
  obtain ⟨rfl, rfl⟩ := F
  exact ev_ret rfl rfl
theorem vc_PH_token {q : Nat × (Nat → Int32)} {S S' : ms} {r : Option Value} (x1 x2 : Int)
    (F : ((¬ w32 x1 = (-1)) → ((w32 x1 < 0) → r = some (vI ((-1))) ∧ S' = S) ∧ ((¬ w32 x1 < 0) → ((w32 x1 < w32 (S.1 10 12)) → ((w32 x2 = 0) → (0 ≤ w32 x1 ∧ w32 x1 < (6000 : Nat)) ∧ r = some (vI (S.1 16 (w32 x1))) ∧ S' = S) ∧ ((w32 x2 = 1) → (0 ≤ w32 x1 ∧ w32 x1 < (6000 : Nat)) ∧ r = some (vI (S.1 17 (w32 x1))) ∧ S' = S) ∧ ((w32 x2 = 2) → (0 ≤ w32 x1 ∧ w32 x1 < (6000 : Nat)) ∧ r = some (vI (S.1 18 (w32 x1))) ∧ S' = S) ∧ ((¬ w32 x2 = 0) → (¬ w32 x2 = 1) → (¬ w32 x2 = 2) → r = some (vI ((-2))) ∧ S' = S)) ∧ ((¬ w32 x1 < w32 (S.1 10 12)) → r = some (vI ((-1))) ∧ S' = S))) ∧ ((¬ (¬ w32 x1 = (-1))) → r = some (vI (S.1 10 12)) ∧ S' = S)) : EV q 176 0 [some (.ref 0), some (vI x1), some (vI x2)] [] S r S' := by
  unfold EV
  refine ev_bk 2 (S' := (2, [some (.ref 0), some (vI x1), some (vI x2)], [vI ((-1)), vI x1], hp S, 0, 0)) rfl ?_
  refine mv_icmp 13 rfl rfl (fun c => ?_) (fun c => ?_)
  · have F := F.1 c
    refine ev_bk 1 (S' := (14, [some (.ref 0), some (vI x1), some (vI x2)], [vI x1], hp S, 0, 0)) rfl ?_
    refine mv_if 28 rfl rfl (fun c => ?_) (fun c => ?_)
    · have F := F.1 c
      refine ev_bk 1 (S' := (29, [some (.ref 0), some (vI x1), some (vI x2)], [vI ((-1))], hp S, 0, 0)) rfl ?_
      obtain ⟨rfl, rfl⟩ := F
      exact ev_ret rfl rfl
    · have F := F.2 c
      refine ev_bk 2 (S' := (19, [some (.ref 0), some (vI x1), some (vI x2)], [.ref 0, vI x1], hp S, 0, 0)) rfl ?_
      refine mv_gfR rfl rfl (sh_0) (by decide) rfl ?_
      refine mv_gfI rfl rfl (sh_10) (by decide) rfl ?_
      refine mv_icmp 30 rfl rfl (fun c => ?_) (fun c => ?_)
      · have F := F.1 c
        refine ev_bk 1 (S' := (31, [some (.ref 0), some (vI x1), some (vI x2)], [vI x2], hp S, 0, 0)) rfl ?_
        by_cases d0 : w32 x2 < 0
        · have F := F.2.2.2 (ts_lo d0 (by decide)) (ts_lo d0 (by decide)) (ts_lo d0 (by decide))
          refine mv_tout 86 (Or.inl d0) rfl rfl ?_
          refine ev_bk 1 (S' := (88, [some (.ref 0), some (vI x1), some (vI x2)], [vI ((-2))], hp S, 0, 0)) rfl ?_
          obtain ⟨rfl, rfl⟩ := F
          exact ev_ret rfl rfl
        by_cases d1 : w32 x2 < 1
        · have e := ts_eq d0 d1
          have F := F.1 e
          refine mv_tin 56 0 e rfl (by decide) rfl rfl ?_
          refine ev_bk 1 (S' := (57, [some (.ref 0), some (vI x1), some (vI x2)], [.ref 0], hp S, 0, 0)) rfl ?_
          refine mv_gfR rfl rfl (sh_0) (by decide) rfl ?_
          refine mv_gfR rfl rfl (sh_10) (by decide) rfl ?_
          refine ev_bk 1 (S' := (64, [some (.ref 0), some (vI x1), some (vI x2)], [vI x1, .ref 16], hp S, 0, 0)) rfl ?_
          obtain ⟨b1, F⟩ := F
          refine mv_ial rfl (sh_16) b1 ?_
          obtain ⟨rfl, rfl⟩ := F
          exact ev_ret rfl rfl
        by_cases d2 : w32 x2 < 2
        · have e := ts_eq d1 d2
          have F := F.2.1 e
          refine mv_tin 66 1 e rfl (by decide) rfl rfl ?_
          refine ev_bk 1 (S' := (67, [some (.ref 0), some (vI x1), some (vI x2)], [.ref 0], hp S, 0, 0)) rfl ?_
          refine mv_gfR rfl rfl (sh_0) (by decide) rfl ?_
          refine mv_gfR rfl rfl (sh_10) (by decide) rfl ?_
          refine ev_bk 1 (S' := (74, [some (.ref 0), some (vI x1), some (vI x2)], [vI x1, .ref 17], hp S, 0, 0)) rfl ?_
          obtain ⟨b2, F⟩ := F
          refine mv_ial rfl (sh_17) b2 ?_
          obtain ⟨rfl, rfl⟩ := F
          exact ev_ret rfl rfl
        by_cases d3 : w32 x2 < 3
        · have e := ts_eq d2 d3
          have F := F.2.2.1 e
          refine mv_tin 76 2 e rfl (by decide) rfl rfl ?_
          refine ev_bk 1 (S' := (77, [some (.ref 0), some (vI x1), some (vI x2)], [.ref 0], hp S, 0, 0)) rfl ?_
          refine mv_gfR rfl rfl (sh_0) (by decide) rfl ?_
          refine mv_gfR rfl rfl (sh_10) (by decide) rfl ?_
          refine ev_bk 1 (S' := (84, [some (.ref 0), some (vI x1), some (vI x2)], [vI x1, .ref 18], hp S, 0, 0)) rfl ?_
          obtain ⟨b3, F⟩ := F
          refine mv_ial rfl (sh_18) b3 ?_
          obtain ⟨rfl, rfl⟩ := F
          exact ev_ret rfl rfl
        have F := F.2.2.2 (ts_hi d3 (by decide)) (ts_hi d3 (by decide)) (ts_hi d3 (by decide))
        refine mv_tout 86 (Or.inr (ts_gt (hi := 2) d3)) rfl rfl ?_
        refine ev_bk 1 (S' := (88, [some (.ref 0), some (vI x1), some (vI x2)], [vI ((-2))], hp S, 0, 0)) rfl ?_
        obtain ⟨rfl, rfl⟩ := F
        exact ev_ret rfl rfl
      · have F := F.2 c
        refine ev_bk 1 (S' := (29, [some (.ref 0), some (vI x1), some (vI x2)], [vI ((-1))], hp S, 0, 0)) rfl ?_
        obtain ⟨rfl, rfl⟩ := F
        exact ev_ret rfl rfl
  · have F := F.2 c
    refine ev_bk 1 (S' := (6, [some (.ref 0), some (vI x1), some (vI x2)], [.ref 0], hp S, 0, 0)) rfl ?_
    refine mv_gfR rfl rfl (sh_0) (by decide) rfl ?_
    refine mv_gfI rfl rfl (sh_10) (by decide) rfl ?_
    obtain ⟨rfl, rfl⟩ := F
    exact ev_ret rfl rfl
theorem vc_PH_bits {q : Nat × (Nat → Int32)} {S S' : ms} {r : Option Value}
    (F : r = some (vI (S.1 0 15)) ∧ S' = S) : EV q 177 0 [some (.ref 0)] [] S r S' := by
  unfold EV
  refine ev_bk 1 (S' := (1, [some (.ref 0)], [.ref 0], hp S, 0, 0)) rfl ?_
  refine mv_gfI rfl rfl (sh_0) (by decide) rfl ?_
  obtain ⟨rfl, rfl⟩ := F
  exact ev_ret rfl rfl
theorem vc_PH_name {q : Nat × (Nat → Int32)} {S S' : ms} {r : Option Value} (x1 x3 : Int)
    (F : ((w32 x3 < 0) → r = some (vI ((-2))) ∧ S' = S) ∧ ((¬ w32 x3 < 0) → ((w32 x3 ≤ 8) → EV q 178 16 [some (.ref 0), some (vL x1), none, some (vI x3), some (vI 0)] [] S r S') ∧ ((¬ w32 x3 ≤ 8) → r = some (vI ((-2))) ∧ S' = S))) : EV q 178 0 [some (.ref 0), some (vL x1), none, some (vI x3), none] [] S r S' := by
  unfold EV
  refine ev_bk 1 (S' := (1, [some (.ref 0), some (vL x1), none, some (vI x3), none], [vI x3], hp S, 0, 0)) rfl ?_
  refine mv_if 10 rfl rfl (fun c => ?_) (fun c => ?_)
  · have F := F.1 c
    refine ev_bk 1 (S' := (12, [some (.ref 0), some (vL x1), none, some (vI x3), none], [vI ((-2))], hp S, 0, 0)) rfl ?_
    obtain ⟨rfl, rfl⟩ := F
    exact ev_ret rfl rfl
  · have F := F.2 c
    refine ev_bk 2 (S' := (7, [some (.ref 0), some (vL x1), none, some (vI x3), none], [vI 8, vI x3], hp S, 0, 0)) rfl ?_
    refine mv_icmp 13 rfl rfl (fun c => ?_) (fun c => ?_)
    · have F := F.1 c
      refine ev_bk 2 (S' := (16, [some (.ref 0), some (vL x1), none, some (vI x3), some (vI 0)], [], hp S, 0, 0)) rfl ?_
      exact F
    · have F := F.2 c
      refine ev_bk 1 (S' := (12, [some (.ref 0), some (vL x1), none, some (vI x3), none], [vI ((-2))], hp S, 0, 0)) rfl ?_
      obtain ⟨rfl, rfl⟩ := F
      exact ev_ret rfl rfl
theorem vc_PH_name_16 {q : Nat × (Nat → Int32)} {S S' : ms} {r : Option Value} (x1 x3 x4 : Int)
    (F : ((w32 x3 ≤ w32 x4) → ((w32 x3 ≤ w32 (100 - (S.1 5 1))) → ((¬ w32 x3 = 0) → ∃ (S1 : ms), EV q 18 0 [some (.ref 5), some (vL x1), none, some (vI x3), none] [] S none S1 ∧ r = some (vI (S1.1 5 1)) ∧ S' = S1) ∧ ((¬ (¬ w32 x3 = 0)) → ∃ (S3 : ms), EV q 37 0 [some (.ref 5)] [] S none S3 ∧ r = some (vI (S3.1 5 1)) ∧ S' = S3)) ∧ ((¬ w32 x3 ≤ w32 (100 - (S.1 5 1))) → r = some (vI ((-4))) ∧ S' = S)) ∧ ((¬ w32 x3 ≤ w32 x4) → ((¬ w64 ((x1 % 18446744073709551616 / ((2 : Int) ^ ((8 * x4) % 64).toNat)) % 256) = w64 0) → EV q 178 16 [some (.ref 0), some (vL x1), none, some (vI x3), some (vI (x4 + 1))] [] S r S') ∧ ((¬ (¬ w64 ((x1 % 18446744073709551616 / ((2 : Int) ^ ((8 * x4) % 64).toNat)) % 256) = w64 0)) → r = some (vI ((-2))) ∧ S' = S))) : EV q 178 16 [some (.ref 0), some (vL x1), none, some (vI x3), some (vI x4)] [] S r S' := by
  unfold EV
  refine ev_bk 2 (S' := (19, [some (.ref 0), some (vL x1), none, some (vI x3), some (vI x4)], [vI x3, vI x4], hp S, 0, 0)) rfl ?_
  refine mv_icmp 47 rfl rfl (fun c => ?_) (fun c => ?_)
  · have F := F.1 c
    refine ev_bk 3 (S' := (51, [some (.ref 0), some (vL x1), none, some (vI x3), some (vI x4)], [.ref 0, vI 100, vI x3], hp S, 0, 0)) rfl ?_
    refine mv_gfR rfl rfl (sh_0) (by decide) rfl ?_
    refine mv_gfI rfl rfl (sh_5) (by decide) rfl ?_
    refine mv_isub rfl ?_
    refine mv_icmp 64 rfl rfl (fun c => ?_) (fun c => ?_)
    · have F := F.1 c
      refine ev_bk 1 (S' := (65, [some (.ref 0), some (vL x1), none, some (vI x3), some (vI x4)], [vI x3], hp S, 0, 0)) rfl ?_
      refine mv_if 78 rfl rfl (fun c => ?_) (fun c => ?_)
      · have F := F.1 c
        refine ev_bk 1 (S' := (79, [some (.ref 0), some (vL x1), none, some (vI x3), some (vI x4)], [.ref 0], hp S, 0, 0)) rfl ?_
        refine mv_gfR rfl rfl (sh_0) (by decide) rfl ?_
        refine ev_bk 2 (S' := (84, [some (.ref 0), some (vL x1), none, some (vI x3), some (vI x4)], [vI x3, vL x1, .ref 5], hp S, 0, 0)) rfl ?_
        obtain ⟨S1, e2, F⟩ := F
        refine mv_calv (as := [vL x1, vI x3]) (rest := []) e2 (sh_5) rfl rfl rfl ⟨rfl, rfl⟩ rfl rfl rfl rfl rfl ?_
        refine ev_bk 1 (S' := (88, [some (.ref 0), some (vL x1), none, some (vI x3), some (vI x4)], [.ref 0], hp S1, 0, 0)) rfl ?_
        refine mv_gfR rfl rfl (sh_0) (by decide) rfl ?_
        refine mv_gfI rfl rfl (sh_5) (by decide) rfl ?_
        obtain ⟨rfl, rfl⟩ := F
        exact ev_ret rfl rfl
      · have F := F.2 c
        refine ev_bk 1 (S' := (69, [some (.ref 0), some (vL x1), none, some (vI x3), some (vI x4)], [.ref 0], hp S, 0, 0)) rfl ?_
        refine mv_gfR rfl rfl (sh_0) (by decide) rfl ?_
        obtain ⟨S3, e4, F⟩ := F
        refine mv_calv (as := []) (rest := []) e4 (sh_5) rfl rfl rfl ⟨rfl, rfl⟩ rfl rfl rfl rfl rfl ?_
        refine mv_goto 87 rfl rfl ?_
        refine ev_bk 1 (S' := (88, [some (.ref 0), some (vL x1), none, some (vI x3), some (vI x4)], [.ref 0], hp S3, 0, 0)) rfl ?_
        refine mv_gfR rfl rfl (sh_0) (by decide) rfl ?_
        refine mv_gfI rfl rfl (sh_5) (by decide) rfl ?_
        obtain ⟨rfl, rfl⟩ := F
        exact ev_ret rfl rfl
    · have F := F.2 c
      refine ev_bk 1 (S' := (63, [some (.ref 0), some (vL x1), none, some (vI x3), some (vI x4)], [vI ((-4))], hp S, 0, 0)) rfl ?_
      obtain ⟨rfl, rfl⟩ := F
      exact ev_ret rfl rfl
  · have F := F.2 c
    refine ev_bk 3 (S' := (27, [some (.ref 0), some (vL x1), none, some (vI x3), some (vI x4)], [vI x4, vI 8, vL x1], hp S, 0, 0)) rfl ?_
    refine mv_imul rfl ?_
    refine mv_lushr ((2 : Int) ^ ((8 * x4) % 64).toNat) rfl rfl ?_
    refine ev_bk 1 (S' := (32, [some (.ref 0), some (vL x1), none, some (vI x3), some (vI x4)], [vL 255, vL (x1 % 18446744073709551616 / ((2 : Int) ^ ((8 * x4) % 64).toNat))], hp S, 0, 0)) rfl ?_
    refine mv_landm 256 8 (by decide) rfl rfl rfl ?_
    refine ev_bk 1 (S' := (34, [some (.ref 0), some (vL x1), none, some (vI x3), some (vI x4)], [vL 0, vL ((x1 % 18446744073709551616 / ((2 : Int) ^ ((8 * x4) % 64).toNat)) % 256)], hp S, 0, 0)) rfl ?_
    refine mv_lif 41 rfl rfl rfl (fun c => ?_) (fun c => ?_)
    · have F := F.1 c
      refine mv_inc (lv' := [some (.ref 0), some (vL x1), none, some (vI x3), some (vI (x4 + 1))]) 4 1 rfl rfl rfl rfl ?_
      refine mv_goto 16 rfl rfl ?_
      exact F
    · have F := F.2 c
      refine ev_bk 1 (S' := (40, [some (.ref 0), some (vL x1), none, some (vI x3), some (vI x4)], [vI ((-2))], hp S, 0, 0)) rfl ?_
      obtain ⟨rfl, rfl⟩ := F
      exact ev_ret rfl rfl
theorem vc_PH_entry {q : Nat × (Nat → Int32)} {S S' : ms} {r : Option Value} (x1 x2 x3 : Int)
    (F : ∃ (z3 : Int) (S1 : ms), EV q 34 0 [some (.ref 0), some (vI x1)] [] S (some (vI z3)) S1 ∧ ((¬ w32 z3 = 0) → ((w32 x2 < 0) → r = some (vI ((-2))) ∧ S' = S1) ∧ ((¬ w32 x2 < 0) → ((511 < w32 x2) → r = some (vI ((-2))) ∧ S' = S1) ∧ ((¬ 511 < w32 x2) → ((w32 x3 < 0) → r = some (vI ((-2))) ∧ S' = S1) ∧ ((¬ w32 x3 < 0) → ((¬ w32 (S1.1 5 1) = 0) → (0 ≤ w32 x1 ∧ w32 x1 < (13 : Nat)) ∧ ∃ (o5 no5 : Nat), sh_r (SH 3).2.2 (w32 x1).toNat = some o5 ∧ isRow o5 no5 ∧ ∃ (o8 : Nat), S1.2.2 0 13 = o8 ∧ isShelf o8 ∧ ((16 ≤ w32 (S1.1 o8 4)) → r = some (vI ((-4))) ∧ S' = S1) ∧ ((¬ 16 ≤ w32 (S1.1 o8 4)) → ((w32 (S1.1 o5 1) ≤ 6000) → ∃ (o11 : Nat), S1.2.2 0 13 = o11 ∧ isShelf o11 ∧ ∃ (S14 : ms), EV q 180 0 [some (.ref o11), some (.ref 5), some (vI x2), some (vI x3), some (.ref (o5 + 1)), some (vI 0), some (vI (S1.1 o5 1))] [] S1 none S14 ∧ ∃ (S16 : ms), EV q 37 0 [some (.ref 5)] [] S14 none S16 ∧ ∃ (o18 : Nat), S16.2.2 0 13 = o18 ∧ isShelf o18 ∧ r = some (vI ((S16.1 o18 4) - 1)) ∧ S' = S16) ∧ ((¬ w32 (S1.1 o5 1) ≤ 6000) → r = some (vI ((-4))) ∧ S' = S1))) ∧ ((¬ (¬ w32 (S1.1 5 1) = 0)) → r = some (vI ((-2))) ∧ S' = S1))))) ∧ ((¬ (¬ w32 z3 = 0)) → r = some (vI ((-1))) ∧ S' = S1)) : EV q 179 0 [some (.ref 0), some (vI x1), some (vI x2), some (vI x3), none] [] S r S' := by
  unfold EV
  refine ev_bk 2 (S' := (2, [some (.ref 0), some (vI x1), some (vI x2), some (vI x3), none], [vI x1, .ref 0], hp S, 0, 0)) rfl ?_
  obtain ⟨z3, S1, e2, F⟩ := F
  refine mv_calv (as := [vI x1]) (rest := []) e2 (sh_0) rfl rfl rfl ⟨rfl, rfl⟩ rfl rfl rfl rfl rfl ?_
  refine mv_if 10 rfl rfl (fun c => ?_) (fun c => ?_)
  · have F := F.1 c
    refine ev_bk 1 (S' := (11, [some (.ref 0), some (vI x1), some (vI x2), some (vI x3), none], [vI x2], hp S1, 0, 0)) rfl ?_
    refine mv_if 35 rfl rfl (fun c => ?_) (fun c => ?_)
    · have F := F.1 c
      refine ev_bk 1 (S' := (37, [some (.ref 0), some (vI x1), some (vI x2), some (vI x3), none], [vI ((-2))], hp S1, 0, 0)) rfl ?_
      obtain ⟨rfl, rfl⟩ := F
      exact ev_ret rfl rfl
    · have F := F.2 c
      refine ev_bk 2 (S' := (18, [some (.ref 0), some (vI x1), some (vI x2), some (vI x3), none], [vI 511, vI x2], hp S1, 0, 0)) rfl ?_
      refine mv_icmp 35 rfl rfl (fun c => ?_) (fun c => ?_)
      · have F := F.1 c
        refine ev_bk 1 (S' := (37, [some (.ref 0), some (vI x1), some (vI x2), some (vI x3), none], [vI ((-2))], hp S1, 0, 0)) rfl ?_
        obtain ⟨rfl, rfl⟩ := F
        exact ev_ret rfl rfl
      · have F := F.2 c
        refine ev_bk 1 (S' := (22, [some (.ref 0), some (vI x1), some (vI x2), some (vI x3), none], [vI x3], hp S1, 0, 0)) rfl ?_
        refine mv_if 35 rfl rfl (fun c => ?_) (fun c => ?_)
        · have F := F.1 c
          refine ev_bk 1 (S' := (37, [some (.ref 0), some (vI x1), some (vI x2), some (vI x3), none], [vI ((-2))], hp S1, 0, 0)) rfl ?_
          obtain ⟨rfl, rfl⟩ := F
          exact ev_ret rfl rfl
        · have F := F.2 c
          refine ev_bk 1 (S' := (26, [some (.ref 0), some (vI x1), some (vI x2), some (vI x3), none], [.ref 0], hp S1, 0, 0)) rfl ?_
          refine mv_gfR rfl rfl (sh_0) (by decide) rfl ?_
          refine mv_gfI rfl rfl (sh_5) (by decide) rfl ?_
          refine mv_if 38 rfl rfl (fun c => ?_) (fun c => ?_)
          · have F := F.1 c
            refine ev_bk 1 (S' := (39, [some (.ref 0), some (vI x1), some (vI x2), some (vI x3), none], [.ref 0], hp S1, 0, 0)) rfl ?_
            refine mv_gfR rfl rfl (sh_0) (by decide) rfl ?_
            refine ev_bk 1 (S' := (43, [some (.ref 0), some (vI x1), some (vI x2), some (vI x3), none], [vI x1, .ref 3], hp S1, 0, 0)) rfl ?_
            obtain ⟨b4, o5, no5, e7, h6, F⟩ := F
            refine mv_aal rfl (sh_3) (Or.inl rfl) b4 e7 ?_
            refine ev_bk 2 (S' := (47, [some (.ref 0), some (vI x1), some (vI x2), some (vI x3), some (.ref o5)], [.ref 0], hp S1, 0, 0)) rfl ?_
            obtain ⟨o8, e10, h9, F⟩ := F
            refine mv_gfV rfl rfl (sh_0) (by decide) rfl e10 ?_
            refine mv_gfI rfl rfl (h9.1) (by decide) rfl ?_
            refine ev_bk 1 (S' := (55, [some (.ref 0), some (vI x1), some (vI x2), some (vI x3), some (.ref o5)], [vI 16, vI (S1.1 o8 4)], hp S1, 0, 0)) rfl ?_
            refine mv_icmp 69 rfl rfl (fun c => ?_) (fun c => ?_)
            · have F := F.1 c
              refine ev_bk 1 (S' := (71, [some (.ref 0), some (vI x1), some (vI x2), some (vI x3), some (.ref o5)], [vI ((-4))], hp S1, 0, 0)) rfl ?_
              obtain ⟨rfl, rfl⟩ := F
              exact ev_ret rfl rfl
            · have F := F.2 c
              refine ev_bk 1 (S' := (60, [some (.ref 0), some (vI x1), some (vI x2), some (vI x3), some (.ref o5)], [.ref o5], hp S1, 0, 0)) rfl ?_
              refine mv_gfI rfl rfl (h6.1) (by decide) rfl ?_
              refine ev_bk 1 (S' := (66, [some (.ref 0), some (vI x1), some (vI x2), some (vI x3), some (.ref o5)], [vI 6000, vI (S1.1 o5 1)], hp S1, 0, 0)) rfl ?_
              refine mv_icmp 72 rfl rfl (fun c => ?_) (fun c => ?_)
              · have F := F.1 c
                refine ev_bk 1 (S' := (73, [some (.ref 0), some (vI x1), some (vI x2), some (vI x3), some (.ref o5)], [.ref 0], hp S1, 0, 0)) rfl ?_
                obtain ⟨o11, e13, h12, F⟩ := F
                refine mv_gfV rfl rfl (sh_0) (by decide) rfl e13 ?_
                refine ev_bk 1 (S' := (77, [some (.ref 0), some (vI x1), some (vI x2), some (vI x3), some (.ref o5)], [.ref 0, .ref o11], hp S1, 0, 0)) rfl ?_
                refine mv_gfR rfl rfl (sh_0) (by decide) rfl ?_
                refine ev_bk 3 (S' := (84, [some (.ref 0), some (vI x1), some (vI x2), some (vI x3), some (.ref o5)], [.ref o5, vI x3, vI x2, .ref 5, .ref o11], hp S1, 0, 0)) rfl ?_
                refine mv_gfR rfl rfl (h6.1) (by decide) rfl ?_
                refine ev_bk 2 (S' := (90, [some (.ref 0), some (vI x1), some (vI x2), some (vI x3), some (.ref o5)], [.ref o5, vI 0, .ref (o5 + 1), vI x3, vI x2, .ref 5, .ref o11], hp S1, 0, 0)) rfl ?_
                refine mv_gfI rfl rfl (h6.1) (by decide) rfl ?_
                obtain ⟨S14, e15, F⟩ := F
                refine mv_calv (as := [.ref 5, vI x2, vI x3, .ref (o5 + 1), vI 0, vI (S1.1 o5 1)]) (rest := []) e15 (h12.1) rfl rfl rfl ⟨rfl, rfl⟩ rfl rfl rfl rfl rfl ?_
                refine ev_bk 1 (S' := (97, [some (.ref 0), some (vI x1), some (vI x2), some (vI x3), some (.ref o5)], [.ref 0], hp S14, 0, 0)) rfl ?_
                refine mv_gfR rfl rfl (sh_0) (by decide) rfl ?_
                obtain ⟨S16, e17, F⟩ := F
                refine mv_calv (as := []) (rest := []) e17 (sh_5) rfl rfl rfl ⟨rfl, rfl⟩ rfl rfl rfl rfl rfl ?_
                refine ev_bk 1 (S' := (104, [some (.ref 0), some (vI x1), some (vI x2), some (vI x3), some (.ref o5)], [.ref 0], hp S16, 0, 0)) rfl ?_
                obtain ⟨o18, e20, h19, F⟩ := F
                refine mv_gfV rfl rfl (sh_0) (by decide) rfl e20 ?_
                refine mv_gfI rfl rfl (h19.1) (by decide) rfl ?_
                refine ev_bk 1 (S' := (111, [some (.ref 0), some (vI x1), some (vI x2), some (vI x3), some (.ref o5)], [vI 1, vI (S16.1 o18 4)], hp S16, 0, 0)) rfl ?_
                refine mv_isub rfl ?_
                obtain ⟨rfl, rfl⟩ := F
                exact ev_ret rfl rfl
              · have F := F.2 c
                refine ev_bk 1 (S' := (71, [some (.ref 0), some (vI x1), some (vI x2), some (vI x3), some (.ref o5)], [vI ((-4))], hp S1, 0, 0)) rfl ?_
                obtain ⟨rfl, rfl⟩ := F
                exact ev_ret rfl rfl
          · have F := F.2 c
            refine ev_bk 1 (S' := (37, [some (.ref 0), some (vI x1), some (vI x2), some (vI x3), none], [vI ((-2))], hp S1, 0, 0)) rfl ?_
            obtain ⟨rfl, rfl⟩ := F
            exact ev_ret rfl rfl
  · have F := F.2 c
    refine ev_bk 1 (S' := (9, [some (.ref 0), some (vI x1), some (vI x2), some (vI x3), none], [vI ((-1))], hp S1, 0, 0)) rfl ?_
    obtain ⟨rfl, rfl⟩ := F
    exact ev_ret rfl rfl
theorem vc_PH_write {q : Nat × (Nat → Int32)} {S S' : ms} {r : Option Value} (x1 x2 : Int)
    (F : ((w32 x1 < 11) → r = some (vI ((-2))) ∧ S' = S) ∧ ((¬ w32 x1 < 11) → ((13 < w32 x1) → r = some (vI ((-2))) ∧ S' = S) ∧ ((¬ 13 < w32 x1) → ((w32 x2 < 0) → r = some (vI ((-2))) ∧ S' = S) ∧ ((¬ w32 x2 < 0) → ((¬ w32 x1 = 13) → EV q 181 28 [some (.ref 0), some (vI x1), some (vI x2), none, none] [vI 0, vI x2] S r S') ∧ ((¬ (¬ w32 x1 = 13)) → EV q 181 28 [some (.ref 0), some (vI x1), some (vI x2), none, none] [vI 4, vI x2] S r S'))))) : EV q 181 0 [some (.ref 0), some (vI x1), some (vI x2), none, none] [] S r S' := by
  unfold EV
  refine ev_bk 2 (S' := (3, [some (.ref 0), some (vI x1), some (vI x2), none, none], [vI 11, vI x1], hp S, 0, 0)) rfl ?_
  refine mv_icmp 31 rfl rfl (fun c => ?_) (fun c => ?_)
  · have F := F.1 c
    refine ev_bk 1 (S' := (33, [some (.ref 0), some (vI x1), some (vI x2), none, none], [vI ((-2))], hp S, 0, 0)) rfl ?_
    obtain ⟨rfl, rfl⟩ := F
    exact ev_ret rfl rfl
  · have F := F.2 c
    refine ev_bk 2 (S' := (9, [some (.ref 0), some (vI x1), some (vI x2), none, none], [vI 13, vI x1], hp S, 0, 0)) rfl ?_
    refine mv_icmp 31 rfl rfl (fun c => ?_) (fun c => ?_)
    · have F := F.1 c
      refine ev_bk 1 (S' := (33, [some (.ref 0), some (vI x1), some (vI x2), none, none], [vI ((-2))], hp S, 0, 0)) rfl ?_
      obtain ⟨rfl, rfl⟩ := F
      exact ev_ret rfl rfl
    · have F := F.2 c
      refine ev_bk 1 (S' := (13, [some (.ref 0), some (vI x1), some (vI x2), none, none], [vI x2], hp S, 0, 0)) rfl ?_
      refine mv_if 31 rfl rfl (fun c => ?_) (fun c => ?_)
      · have F := F.1 c
        refine ev_bk 1 (S' := (33, [some (.ref 0), some (vI x1), some (vI x2), none, none], [vI ((-2))], hp S, 0, 0)) rfl ?_
        obtain ⟨rfl, rfl⟩ := F
        exact ev_ret rfl rfl
      · have F := F.2 c
        refine ev_bk 3 (S' := (20, [some (.ref 0), some (vI x1), some (vI x2), none, none], [vI 13, vI x1, vI x2], hp S, 0, 0)) rfl ?_
        refine mv_icmp 27 rfl rfl (fun c => ?_) (fun c => ?_)
        · have F := F.1 c
          refine ev_bk 1 (S' := (28, [some (.ref 0), some (vI x1), some (vI x2), none, none], [vI 0, vI x2], hp S, 0, 0)) rfl ?_
          exact F
        · have F := F.2 c
          refine ev_bk 1 (S' := (24, [some (.ref 0), some (vI x1), some (vI x2), none, none], [vI 4, vI x2], hp S, 0, 0)) rfl ?_
          refine mv_goto 28 rfl rfl ?_
          exact F
theorem vc_PH_write_28 {q : Nat × (Nat → Int32)} {S S' : ms} {r : Option Value} (x1 x2 y0 y1 : Int)
    (F : ((w32 y1 ≤ w32 y0) → ((¬ w32 x1 = 12) → EV q 181 53 [some (.ref 0), some (vI x1), some (vI x2), none, none] [] S r S') ∧ ((¬ (¬ w32 x1 = 12)) → ∃ (o1 : Nat), S.2.2 0 13 = o1 ∧ isShelf o1 ∧ ∃ (z6 : Int) (S4 : ms), EV q 182 0 [some (.ref o1), none, none, none] [] S (some (vI z6)) S4 ∧ ((¬ w32 z6 = 0) → EV q 181 53 [some (.ref 0), some (vI x1), some (vI x2), none, none] [] S4 r S') ∧ ((¬ (¬ w32 z6 = 0)) → r = some (vI ((-3))) ∧ S' = S4))) ∧ ((¬ w32 y1 ≤ w32 y0) → r = some (vI ((-2))) ∧ S' = S)) : EV q 181 28 [some (.ref 0), some (vI x1), some (vI x2), none, none] [vI y0, vI y1] S r S' := by
  unfold EV
  refine mv_icmp 34 rfl rfl (fun c => ?_) (fun c => ?_)
  · have F := F.1 c
    refine ev_bk 2 (S' := (37, [some (.ref 0), some (vI x1), some (vI x2), none, none], [vI 12, vI x1], hp S, 0, 0)) rfl ?_
    refine mv_icmp 53 rfl rfl (fun c => ?_) (fun c => ?_)
    · have F := F.1 c
      exact F
    · have F := F.2 c
      refine ev_bk 1 (S' := (41, [some (.ref 0), some (vI x1), some (vI x2), none, none], [.ref 0], hp S, 0, 0)) rfl ?_
      obtain ⟨o1, e3, h2, F⟩ := F
      refine mv_gfV rfl rfl (sh_0) (by decide) rfl e3 ?_
      obtain ⟨z6, S4, e5, F⟩ := F
      refine mv_calv (as := []) (rest := []) e5 (h2.1) rfl rfl rfl ⟨rfl, rfl⟩ rfl rfl rfl rfl rfl ?_
      refine mv_if 53 rfl rfl (fun c => ?_) (fun c => ?_)
      · have F := F.1 c
        exact F
      · have F := F.2 c
        refine ev_bk 1 (S' := (52, [some (.ref 0), some (vI x1), some (vI x2), none, none], [vI ((-3))], hp S4, 0, 0)) rfl ?_
        obtain ⟨rfl, rfl⟩ := F
        exact ev_ret rfl rfl
  · have F := F.2 c
    refine ev_bk 1 (S' := (33, [some (.ref 0), some (vI x1), some (vI x2), none, none], [vI ((-2))], hp S, 0, 0)) rfl ?_
    obtain ⟨rfl, rfl⟩ := F
    exact ev_ret rfl rfl
theorem vc_PH_write_53 {q : Nat × (Nat → Int32)} {S S' : ms} {r : Option Value} (x1 x2 : Int)
    (F : ∃ (z3 : Int) (S1 : ms), EV q 43 0 [some (.ref 0), none] [] S (some (vI z3)) S1 ∧ ((¬ w32 z3 = 0) → (0 ≤ w32 z3 ∧ w32 z3 < (13 : Nat)) ∧ ∃ (o5 no5 : Nat), sh_r (SH 3).2.2 (w32 z3).toNat = some o5 ∧ isRow o5 no5 ∧ ∃ (S8 : ms), EV q 37 0 [some (.ref o5)] [] S1 none S8 ∧ ((w32 x1 = 11) → ∃ (o10 : Nat), S8.2.2 0 13 = o10 ∧ isShelf o10 ∧ ∃ (S13 : ms), EV q 183 0 [some (.ref o10), some (.ref o5), none] [] S8 none S13 ∧ EV q 181 138 [some (.ref 0), some (vI x1), some (vI x2), some (vI z3), some (.ref o5)] [] S13 r S') ∧ ((w32 x1 = 12) → ∃ (o15 : Nat), S8.2.2 0 13 = o15 ∧ isShelf o15 ∧ ∃ (S18 : ms), EV q 188 0 [some (.ref o15), some (.ref o5), none, none] [] S8 none S18 ∧ EV q 181 138 [some (.ref 0), some (vI x1), some (vI x2), some (vI z3), some (.ref o5)] [] S18 r S') ∧ ((¬ w32 x1 = 11) → (¬ w32 x1 = 12) → ∃ (o20 : Nat), S8.2.2 0 13 = o20 ∧ isShelf o20 ∧ ∃ (S23 : ms), EV q 190 0 [some (.ref o20), some (.ref o5), some (vI x2), none, none] [] S8 none S23 ∧ EV q 181 138 [some (.ref 0), some (vI x1), some (vI x2), some (vI z3), some (.ref o5)] [] S23 r S')) ∧ ((¬ (¬ w32 z3 = 0)) → r = some (vI ((-4))) ∧ S' = S1)) : EV q 181 53 [some (.ref 0), some (vI x1), some (vI x2), none, none] [] S r S' := by
  unfold EV
  refine ev_bk 1 (S' := (54, [some (.ref 0), some (vI x1), some (vI x2), none, none], [.ref 0], hp S, 0, 0)) rfl ?_
  obtain ⟨z3, S1, e2, F⟩ := F
  refine mv_calv (as := []) (rest := []) e2 (sh_0) rfl rfl rfl ⟨rfl, rfl⟩ rfl rfl rfl rfl rfl ?_
  refine ev_bk 2 (S' := (59, [some (.ref 0), some (vI x1), some (vI x2), some (vI z3), none], [vI z3], hp S1, 0, 0)) rfl ?_
  refine mv_if 65 rfl rfl (fun c => ?_) (fun c => ?_)
  · have F := F.1 c
    refine ev_bk 1 (S' := (66, [some (.ref 0), some (vI x1), some (vI x2), some (vI z3), none], [.ref 0], hp S1, 0, 0)) rfl ?_
    refine mv_gfR rfl rfl (sh_0) (by decide) rfl ?_
    refine ev_bk 1 (S' := (70, [some (.ref 0), some (vI x1), some (vI x2), some (vI z3), none], [vI z3, .ref 3], hp S1, 0, 0)) rfl ?_
    obtain ⟨b4, o5, no5, e7, h6, F⟩ := F
    refine mv_aal rfl (sh_3) (Or.inl rfl) b4 e7 ?_
    refine ev_bk 2 (S' := (75, [some (.ref 0), some (vI x1), some (vI x2), some (vI z3), some (.ref o5)], [.ref o5], hp S1, 0, 0)) rfl ?_
    obtain ⟨S8, e9, F⟩ := F
    refine mv_calv (as := []) (rest := []) e9 (h6.1) rfl rfl rfl ⟨rfl, rfl⟩ rfl rfl rfl rfl rfl ?_
    refine ev_bk 1 (S' := (79, [some (.ref 0), some (vI x1), some (vI x2), some (vI z3), some (.ref o5)], [vI x1], hp S8, 0, 0)) rfl ?_
    by_cases e0 : w32 x1 = 11
    · have F := F.1 e0
      refine mv_look 104 rfl rfl (by rw [e0]; try rfl) rfl ?_
      refine ev_bk 1 (S' := (105, [some (.ref 0), some (vI x1), some (vI x2), some (vI z3), some (.ref o5)], [.ref 0], hp S8, 0, 0)) rfl ?_
      obtain ⟨o10, e12, h11, F⟩ := F
      refine mv_gfV rfl rfl (sh_0) (by decide) rfl e12 ?_
      refine ev_bk 1 (S' := (110, [some (.ref 0), some (vI x1), some (vI x2), some (vI z3), some (.ref o5)], [.ref o5, .ref o10], hp S8, 0, 0)) rfl ?_
      obtain ⟨S13, e14, F⟩ := F
      refine mv_calv (as := [.ref o5]) (rest := []) e14 (h11.1) rfl rfl rfl ⟨rfl, rfl⟩ rfl rfl rfl rfl rfl ?_
      refine mv_goto 138 rfl rfl ?_
      exact F
    by_cases e1 : w32 x1 = 12
    · have F := F.2.1 e1
      refine mv_look 116 rfl rfl (by rw [e1]; try rfl) rfl ?_
      refine ev_bk 1 (S' := (117, [some (.ref 0), some (vI x1), some (vI x2), some (vI z3), some (.ref o5)], [.ref 0], hp S8, 0, 0)) rfl ?_
      obtain ⟨o15, e17, h16, F⟩ := F
      refine mv_gfV rfl rfl (sh_0) (by decide) rfl e17 ?_
      refine ev_bk 1 (S' := (122, [some (.ref 0), some (vI x1), some (vI x2), some (vI z3), some (.ref o5)], [.ref o5, .ref o15], hp S8, 0, 0)) rfl ?_
      obtain ⟨S18, e19, F⟩ := F
      refine mv_calv (as := [.ref o5]) (rest := []) e19 (h16.1) rfl rfl rfl ⟨rfl, rfl⟩ rfl rfl rfl rfl rfl ?_
      refine mv_goto 138 rfl rfl ?_
      exact F
    have F := F.2.2 e0 e1
    refine mv_look 128 rfl rfl (by show (if (11 : Int) = w32 x1 then _ else if (12 : Int) = w32 x1 then _ else _) = _; rw [if_neg (fun z => e0 z.symm), if_neg (fun z => e1 z.symm)]) rfl ?_
    refine ev_bk 1 (S' := (129, [some (.ref 0), some (vI x1), some (vI x2), some (vI z3), some (.ref o5)], [.ref 0], hp S8, 0, 0)) rfl ?_
    obtain ⟨o20, e22, h21, F⟩ := F
    refine mv_gfV rfl rfl (sh_0) (by decide) rfl e22 ?_
    refine ev_bk 2 (S' := (135, [some (.ref 0), some (vI x1), some (vI x2), some (vI z3), some (.ref o5)], [vI x2, .ref o5, .ref o20], hp S8, 0, 0)) rfl ?_
    obtain ⟨S23, e24, F⟩ := F
    refine mv_calv (as := [.ref o5, vI x2]) (rest := []) e24 (h21.1) rfl rfl rfl ⟨rfl, rfl⟩ rfl rfl rfl rfl rfl ?_
    exact F
  · have F := F.2 c
    refine ev_bk 1 (S' := (64, [some (.ref 0), some (vI x1), some (vI x2), some (vI z3), none], [vI ((-4))], hp S1, 0, 0)) rfl ?_
    obtain ⟨rfl, rfl⟩ := F
    exact ev_ret rfl rfl
theorem vc_PH_write_138 {q : Nat × (Nat → Int32)} {S S' : ms} {r : Option Value} (x1 x2 x3 : Int) (a4 na4 : Nat) (ha4 : isRow a4 na4)
    (F : ∃ (z3 : Int) (S1 : ms), EV q 112 0 [some (.ref 0), some (vI x3)] [] S (some (vI z3)) S1 ∧ r = some (vI z3) ∧ S' = S1) : EV q 181 138 [some (.ref 0), some (vI x1), some (vI x2), some (vI x3), some (.ref a4)] [] S r S' := by
  unfold EV
  refine ev_bk 2 (S' := (140, [some (.ref 0), some (vI x1), some (vI x2), some (vI x3), some (.ref a4)], [vI x3, .ref 0], hp S, 0, 0)) rfl ?_
  obtain ⟨z3, S1, e2, F⟩ := F
  refine mv_calv (as := [vI x3]) (rest := []) e2 (sh_0) rfl rfl rfl ⟨rfl, rfl⟩ rfl rfl rfl rfl rfl ?_
  obtain ⟨rfl, rfl⟩ := F
  exact ev_ret rfl rfl
theorem vc_PH_read {q : Nat × (Nat → Int32)} {S S' : ms} {r : Option Value} (x1 : Int)
    (F : ((w32 x1 < 11) → r = some (vI ((-2))) ∧ S' = S) ∧ ((¬ w32 x1 < 11) → ((w32 x1 ≤ 13) → ∃ (S1 : ms), EV q 115 0 [some (.ref 9), some (vI (S.1 1 1)), some (.ref 7), some (vI 0)] [] S none S1 ∧ ∃ (o3 : Nat), S1.2.2 0 14 = o3 ∧ isShelf o3 ∧ ∀ S6 : ms, S6 = wI S1 o3 4 0 → ((w32 x1 = 11) → ∃ (o7 : Nat), S6.2.2 0 14 = o7 ∧ isShelf o7 ∧ ∃ (S10 : ms), EV q 193 0 [some (.ref o7), some (.ref 9), none, none] [] S6 none S10 ∧ EV q 192 107 [some (.ref 0), some (vI x1), none] [] S10 r S') ∧ ((w32 x1 = 12) → ∃ (o12 : Nat), S6.2.2 0 14 = o12 ∧ isShelf o12 ∧ ∃ (S15 : ms), EV q 199 0 [some (.ref o12), some (.ref 9), none, none] [] S6 none S15 ∧ EV q 192 107 [some (.ref 0), some (vI x1), none] [] S15 r S') ∧ ((¬ w32 x1 = 11) → (¬ w32 x1 = 12) → ∃ (o17 : Nat), S6.2.2 0 14 = o17 ∧ isShelf o17 ∧ ∃ (S20 : ms), EV q 203 0 [some (.ref o17), some (.ref 9), none, none, none, none, none, none] [] S6 none S20 ∧ EV q 192 107 [some (.ref 0), some (vI x1), none] [] S20 r S')) ∧ ((¬ w32 x1 ≤ 13) → r = some (vI ((-2))) ∧ S' = S))) : EV q 192 0 [some (.ref 0), some (vI x1), none] [] S r S' := by
  unfold EV
  refine ev_bk 2 (S' := (3, [some (.ref 0), some (vI x1), none], [vI 11, vI x1], hp S, 0, 0)) rfl ?_
  refine mv_icmp 12 rfl rfl (fun c => ?_) (fun c => ?_)
  · have F := F.1 c
    refine ev_bk 1 (S' := (14, [some (.ref 0), some (vI x1), none], [vI ((-2))], hp S, 0, 0)) rfl ?_
    obtain ⟨rfl, rfl⟩ := F
    exact ev_ret rfl rfl
  · have F := F.2 c
    refine ev_bk 2 (S' := (9, [some (.ref 0), some (vI x1), none], [vI 13, vI x1], hp S, 0, 0)) rfl ?_
    refine mv_icmp 15 rfl rfl (fun c => ?_) (fun c => ?_)
    · have F := F.1 c
      refine ev_bk 1 (S' := (16, [some (.ref 0), some (vI x1), none], [.ref 0], hp S, 0, 0)) rfl ?_
      refine mv_gfR rfl rfl (sh_0) (by decide) rfl ?_
      refine ev_bk 1 (S' := (20, [some (.ref 0), some (vI x1), none], [.ref 0, .ref 9], hp S, 0, 0)) rfl ?_
      refine mv_gfR rfl rfl (sh_0) (by decide) rfl ?_
      refine mv_gfI rfl rfl (sh_1) (by decide) rfl ?_
      refine ev_bk 1 (S' := (27, [some (.ref 0), some (vI x1), none], [.ref 0, vI (S.1 1 1), .ref 9], hp S, 0, 0)) rfl ?_
      refine mv_gfR rfl rfl (sh_0) (by decide) rfl ?_
      refine ev_bk 1 (S' := (31, [some (.ref 0), some (vI x1), none], [vI 0, .ref 7, vI (S.1 1 1), .ref 9], hp S, 0, 0)) rfl ?_
      obtain ⟨S1, e2, F⟩ := F
      refine mv_calv (as := [vI (S.1 1 1), .ref 7, vI 0]) (rest := []) e2 (sh_9) rfl rfl rfl ⟨rfl, rfl⟩ rfl rfl rfl rfl rfl ?_
      refine ev_bk 1 (S' := (35, [some (.ref 0), some (vI x1), none], [.ref 0], hp S1, 0, 0)) rfl ?_
      obtain ⟨o3, e5, h4, F⟩ := F
      refine mv_gfV rfl rfl (sh_0) (by decide) rfl e5 ?_
      refine ev_bk 1 (S' := (39, [some (.ref 0), some (vI x1), none], [vI 0, .ref o3], hp S1, 0, 0)) rfl ?_
      refine mv_pfI rfl rfl (h4.1) (by decide) rfl rfl ?_
      have F := F _ rfl
      refine ev_bk 1 (S' := (43, [some (.ref 0), some (vI x1), none], [vI x1], hp (wI S1 o3 4 0), 0, 0)) rfl ?_
      by_cases e0 : w32 x1 = 11
      · have F := F.1 e0
        refine mv_look 68 rfl rfl (by rw [e0]; try rfl) rfl ?_
        refine ev_bk 1 (S' := (69, [some (.ref 0), some (vI x1), none], [.ref 0], hp (wI S1 o3 4 0), 0, 0)) rfl ?_
        obtain ⟨o7, e9, h8, F⟩ := F
        refine mv_gfV rfl rfl (sh_0) (by decide) rfl e9 ?_
        refine ev_bk 1 (S' := (73, [some (.ref 0), some (vI x1), none], [.ref 0, .ref o7], hp (wI S1 o3 4 0), 0, 0)) rfl ?_
        refine mv_gfR rfl rfl (sh_0) (by decide) rfl ?_
        obtain ⟨S10, e11, F⟩ := F
        refine mv_calv (as := [.ref 9]) (rest := []) e11 (h8.1) rfl rfl rfl ⟨rfl, rfl⟩ rfl rfl rfl rfl rfl ?_
        refine mv_goto 107 rfl rfl ?_
        exact F
      by_cases e1 : w32 x1 = 12
      · have F := F.2.1 e1
        refine mv_look 82 rfl rfl (by rw [e1]; try rfl) rfl ?_
        refine ev_bk 1 (S' := (83, [some (.ref 0), some (vI x1), none], [.ref 0], hp (wI S1 o3 4 0), 0, 0)) rfl ?_
        obtain ⟨o12, e14, h13, F⟩ := F
        refine mv_gfV rfl rfl (sh_0) (by decide) rfl e14 ?_
        refine ev_bk 1 (S' := (87, [some (.ref 0), some (vI x1), none], [.ref 0, .ref o12], hp (wI S1 o3 4 0), 0, 0)) rfl ?_
        refine mv_gfR rfl rfl (sh_0) (by decide) rfl ?_
        obtain ⟨S15, e16, F⟩ := F
        refine mv_calv (as := [.ref 9]) (rest := []) e16 (h13.1) rfl rfl rfl ⟨rfl, rfl⟩ rfl rfl rfl rfl rfl ?_
        refine mv_goto 107 rfl rfl ?_
        exact F
      have F := F.2.2 e0 e1
      refine mv_look 96 rfl rfl (by show (if (11 : Int) = w32 x1 then _ else if (12 : Int) = w32 x1 then _ else _) = _; rw [if_neg (fun z => e0 z.symm), if_neg (fun z => e1 z.symm)]) rfl ?_
      refine ev_bk 1 (S' := (97, [some (.ref 0), some (vI x1), none], [.ref 0], hp (wI S1 o3 4 0), 0, 0)) rfl ?_
      obtain ⟨o17, e19, h18, F⟩ := F
      refine mv_gfV rfl rfl (sh_0) (by decide) rfl e19 ?_
      refine ev_bk 1 (S' := (101, [some (.ref 0), some (vI x1), none], [.ref 0, .ref o17], hp (wI S1 o3 4 0), 0, 0)) rfl ?_
      refine mv_gfR rfl rfl (sh_0) (by decide) rfl ?_
      obtain ⟨S20, e21, F⟩ := F
      refine mv_calv (as := [.ref 9]) (rest := []) e21 (h18.1) rfl rfl rfl ⟨rfl, rfl⟩ rfl rfl rfl rfl rfl ?_
      exact F
    · have F := F.2 c
      refine ev_bk 1 (S' := (14, [some (.ref 0), some (vI x1), none], [vI ((-2))], hp S, 0, 0)) rfl ?_
      obtain ⟨rfl, rfl⟩ := F
      exact ev_ret rfl rfl
theorem vc_PH_read_107 {q : Nat × (Nat → Int32)} {S S' : ms} {r : Option Value} (x1 : Int)
    (F : ∃ (o1 : Nat), S.2.2 0 14 = o1 ∧ isShelf o1 ∧ ∃ (S4 : ms), EV q 174 0 [some (.ref 0), some (vI (S.1 o1 4))] [] S none S4 ∧ ((w32 (S4.1 0 16) = 0) → ∃ (o6 : Nat), S4.2.2 0 13 = o6 ∧ isShelf o6 ∧ ∃ (o9 : Nat), S4.2.2 0 14 = o9 ∧ isShelf o9 ∧ ∀ S12 : ms, S12 = wR S4 0 13 o9 → ∀ S13 : ms, S13 = wR S12 0 14 o6 → ∃ (o14 : Nat), S13.2.2 0 13 = o14 ∧ isShelf o14 ∧ r = some (vI (S13.1 o14 4)) ∧ S' = S13) ∧ ((¬ w32 (S4.1 0 16) = 0) → r = some (vI (((-10)) - (S4.1 0 16))) ∧ S' = S4)) : EV q 192 107 [some (.ref 0), some (vI x1), none] [] S r S' := by
  unfold EV
  refine ev_bk 2 (S' := (109, [some (.ref 0), some (vI x1), none], [.ref 0, .ref 0], hp S, 0, 0)) rfl ?_
  obtain ⟨o1, e3, h2, F⟩ := F
  refine mv_gfV rfl rfl (sh_0) (by decide) rfl e3 ?_
  refine mv_gfI rfl rfl (h2.1) (by decide) rfl ?_
  obtain ⟨S4, e5, F⟩ := F
  refine mv_calv (as := [vI (S.1 o1 4)]) (rest := []) e5 (sh_0) rfl rfl rfl ⟨rfl, rfl⟩ rfl rfl rfl rfl rfl ?_
  refine ev_bk 1 (S' := (119, [some (.ref 0), some (vI x1), none], [.ref 0], hp S4, 0, 0)) rfl ?_
  refine mv_gfI rfl rfl (sh_0) (by decide) rfl ?_
  refine mv_if 133 rfl rfl (fun c => ?_) (fun c => ?_)
  · have F := F.1 c
    refine ev_bk 1 (S' := (134, [some (.ref 0), some (vI x1), none], [.ref 0], hp S4, 0, 0)) rfl ?_
    obtain ⟨o6, e8, h7, F⟩ := F
    refine mv_gfV rfl rfl (sh_0) (by decide) rfl e8 ?_
    refine ev_bk 3 (S' := (140, [some (.ref 0), some (vI x1), some (.ref o6)], [.ref 0, .ref 0], hp S4, 0, 0)) rfl ?_
    obtain ⟨o9, e11, h10, F⟩ := F
    refine mv_gfV rfl rfl (sh_0) (by decide) rfl e11 ?_
    refine mv_pfR rfl rfl (sh_0) (by decide) rfl rfl ?_
    have F := F _ rfl
    refine ev_bk 2 (S' := (148, [some (.ref 0), some (vI x1), some (.ref o6)], [.ref o6, .ref 0], hp (wR S4 0 13 o9), 0, 0)) rfl ?_
    refine mv_pfR rfl rfl (sh_0) (by decide) rfl rfl ?_
    have F := F _ rfl
    refine ev_bk 1 (S' := (152, [some (.ref 0), some (vI x1), some (.ref o6)], [.ref 0], hp (wR (wR S4 0 13 o9) 0 14 o6), 0, 0)) rfl ?_
    obtain ⟨o14, e16, h15, F⟩ := F
    refine mv_gfV rfl rfl (sh_0) (by decide) rfl e16 ?_
    refine mv_gfI rfl rfl (h15.1) (by decide) rfl ?_
    obtain ⟨rfl, rfl⟩ := F
    exact ev_ret rfl rfl
  · have F := F.2 c
    refine ev_bk 2 (S' := (128, [some (.ref 0), some (vI x1), none], [.ref 0, vI ((-10))], hp S4, 0, 0)) rfl ?_
    refine mv_gfI rfl rfl (sh_0) (by decide) rfl ?_
    refine mv_isub rfl ?_
    obtain ⟨rfl, rfl⟩ := F
    exact ev_ret rfl rfl
theorem vc_PH_told {q : Nat × (Nat → Int32)} {S S' : ms} {r : Option Value} (x1 x2 : Int)
    (F : ((w32 x1 < 0) → r = some (vI ((-1))) ∧ S' = S) ∧ ((¬ w32 x1 < 0) → ∃ (o1 : Nat), S.2.2 0 13 = o1 ∧ isShelf o1 ∧ ((w32 x1 < w32 (S.1 o1 4)) → ((w32 x2 = 0) → ∃ (o4 : Nat), S.2.2 0 13 = o4 ∧ isShelf o4 ∧ (0 ≤ w32 x1 ∧ w32 x1 < (16 : Nat)) ∧ ∃ (o8 no8 : Nat), sh_r (SH (o4 + 2)).2.2 (w32 x1).toNat = some o8 ∧ isRow o8 no8 ∧ r = some (vI (S.1 o8 1)) ∧ S' = S) ∧ ((w32 x2 = 1) → ∃ (o11 : Nat), S.2.2 0 13 = o11 ∧ isShelf o11 ∧ (0 ≤ w32 x1 ∧ w32 x1 < (16 : Nat)) ∧ r = some (vI (S.1 (o11 + 3) (w32 x1))) ∧ S' = S) ∧ ((w32 x2 = 2) → ∃ (o15 : Nat), S.2.2 0 13 = o15 ∧ isShelf o15 ∧ (0 ≤ w32 x1 ∧ w32 x1 < (16 : Nat)) ∧ r = some (vI (S.1 (o15 + 4) (w32 x1))) ∧ S' = S) ∧ ((w32 x2 = 3) → ∃ (o19 : Nat), S.2.2 0 13 = o19 ∧ isShelf o19 ∧ (0 ≤ w32 x1 ∧ w32 x1 < (16 : Nat)) ∧ ∃ (o23 no23 : Nat), sh_r (SH (o19 + 1)).2.2 (w32 x1).toNat = some o23 ∧ isRow o23 no23 ∧ r = some (vI (S.1 o23 1)) ∧ S' = S) ∧ ((w32 x2 = 4) → ∃ (o26 : Nat), S.2.2 0 13 = o26 ∧ isShelf o26 ∧ ∃ (z31 : Int) (S29 : ms), EV q 209 0 [some (.ref o26), some (vI x1), none, none, none, none, none, none] [] S (some (vI z31)) S29 ∧ ((w32 z31 = 0) → r = some (vI 0) ∧ S' = S29) ∧ ((¬ w32 z31 = 0) → r = some (vI 1) ∧ S' = S29)) ∧ ((¬ w32 x2 = 0) → (¬ w32 x2 = 1) → (¬ w32 x2 = 2) → (¬ w32 x2 = 3) → (¬ w32 x2 = 4) → r = some (vI ((-2))) ∧ S' = S)) ∧ ((¬ w32 x1 < w32 (S.1 o1 4)) → r = some (vI ((-1))) ∧ S' = S))) : EV q 208 0 [some (.ref 0), some (vI x1), some (vI x2)] [] S r S' := by
  unfold EV
  refine ev_bk 1 (S' := (1, [some (.ref 0), some (vI x1), some (vI x2)], [vI x1], hp S, 0, 0)) rfl ?_
  refine mv_if 15 rfl rfl (fun c => ?_) (fun c => ?_)
  · have F := F.1 c
    refine ev_bk 1 (S' := (16, [some (.ref 0), some (vI x1), some (vI x2)], [vI ((-1))], hp S, 0, 0)) rfl ?_
    obtain ⟨rfl, rfl⟩ := F
    exact ev_ret rfl rfl
  · have F := F.2 c
    refine ev_bk 2 (S' := (6, [some (.ref 0), some (vI x1), some (vI x2)], [.ref 0, vI x1], hp S, 0, 0)) rfl ?_
    obtain ⟨o1, e3, h2, F⟩ := F
    refine mv_gfV rfl rfl (sh_0) (by decide) rfl e3 ?_
    refine mv_gfI rfl rfl (h2.1) (by decide) rfl ?_
    refine mv_icmp 17 rfl rfl (fun c => ?_) (fun c => ?_)
    · have F := F.1 c
      refine ev_bk 1 (S' := (18, [some (.ref 0), some (vI x1), some (vI x2)], [vI x2], hp S, 0, 0)) rfl ?_
      by_cases d0 : w32 x2 < 0
      · have F := F.2.2.2.2.2 (ts_lo d0 (by decide)) (ts_lo d0 (by decide)) (ts_lo d0 (by decide)) (ts_lo d0 (by decide)) (ts_lo d0 (by decide))
        refine mv_tout 115 (Or.inl d0) rfl rfl ?_
        refine ev_bk 1 (S' := (117, [some (.ref 0), some (vI x1), some (vI x2)], [vI ((-2))], hp S, 0, 0)) rfl ?_
        obtain ⟨rfl, rfl⟩ := F
        exact ev_ret rfl rfl
      by_cases d1 : w32 x2 < 1
      · have e := ts_eq d0 d1
        have F := F.1 e
        refine mv_tin 52 0 e rfl (by decide) rfl rfl ?_
        refine ev_bk 1 (S' := (53, [some (.ref 0), some (vI x1), some (vI x2)], [.ref 0], hp S, 0, 0)) rfl ?_
        obtain ⟨o4, e6, h5, F⟩ := F
        refine mv_gfV rfl rfl (sh_0) (by decide) rfl e6 ?_
        refine mv_gfR rfl rfl (h5.1) (by decide) rfl ?_
        refine ev_bk 1 (S' := (60, [some (.ref 0), some (vI x1), some (vI x2)], [vI x1, .ref (o4 + 2)], hp S, 0, 0)) rfl ?_
        obtain ⟨b7, o8, no8, e10, h9, F⟩ := F
        refine mv_aaV rfl (h5.2.2.1) (Or.inl rfl) b7 e10 ?_
        refine mv_gfI rfl rfl (h9.1) (by decide) rfl ?_
        obtain ⟨rfl, rfl⟩ := F
        exact ev_ret rfl rfl
      by_cases d2 : w32 x2 < 2
      · have e := ts_eq d1 d2
        have F := F.2.1 e
        refine mv_tin 65 1 e rfl (by decide) rfl rfl ?_
        refine ev_bk 1 (S' := (66, [some (.ref 0), some (vI x1), some (vI x2)], [.ref 0], hp S, 0, 0)) rfl ?_
        obtain ⟨o11, e13, h12, F⟩ := F
        refine mv_gfV rfl rfl (sh_0) (by decide) rfl e13 ?_
        refine mv_gfR rfl rfl (h12.1) (by decide) rfl ?_
        refine ev_bk 1 (S' := (73, [some (.ref 0), some (vI x1), some (vI x2)], [vI x1, .ref (o11 + 3)], hp S, 0, 0)) rfl ?_
        obtain ⟨b14, F⟩ := F
        refine mv_ial rfl (h12.2.2.2.1) b14 ?_
        obtain ⟨rfl, rfl⟩ := F
        exact ev_ret rfl rfl
      by_cases d3 : w32 x2 < 3
      · have e := ts_eq d2 d3
        have F := F.2.2.1 e
        refine mv_tin 75 2 e rfl (by decide) rfl rfl ?_
        refine ev_bk 1 (S' := (76, [some (.ref 0), some (vI x1), some (vI x2)], [.ref 0], hp S, 0, 0)) rfl ?_
        obtain ⟨o15, e17, h16, F⟩ := F
        refine mv_gfV rfl rfl (sh_0) (by decide) rfl e17 ?_
        refine mv_gfR rfl rfl (h16.1) (by decide) rfl ?_
        refine ev_bk 1 (S' := (83, [some (.ref 0), some (vI x1), some (vI x2)], [vI x1, .ref (o15 + 4)], hp S, 0, 0)) rfl ?_
        obtain ⟨b18, F⟩ := F
        refine mv_ial rfl (h16.2.2.2.2.1) b18 ?_
        obtain ⟨rfl, rfl⟩ := F
        exact ev_ret rfl rfl
      by_cases d4 : w32 x2 < 4
      · have e := ts_eq d3 d4
        have F := F.2.2.2.1 e
        refine mv_tin 85 3 e rfl (by decide) rfl rfl ?_
        refine ev_bk 1 (S' := (86, [some (.ref 0), some (vI x1), some (vI x2)], [.ref 0], hp S, 0, 0)) rfl ?_
        obtain ⟨o19, e21, h20, F⟩ := F
        refine mv_gfV rfl rfl (sh_0) (by decide) rfl e21 ?_
        refine mv_gfR rfl rfl (h20.1) (by decide) rfl ?_
        refine ev_bk 1 (S' := (93, [some (.ref 0), some (vI x1), some (vI x2)], [vI x1, .ref (o19 + 1)], hp S, 0, 0)) rfl ?_
        obtain ⟨b22, o23, no23, e25, h24, F⟩ := F
        refine mv_aaV rfl (h20.2.1) (Or.inl rfl) b22 e25 ?_
        refine mv_gfI rfl rfl (h24.1) (by decide) rfl ?_
        obtain ⟨rfl, rfl⟩ := F
        exact ev_ret rfl rfl
      by_cases d5 : w32 x2 < 5
      · have e := ts_eq d4 d5
        have F := F.2.2.2.2.1 e
        refine mv_tin 98 4 e rfl (by decide) rfl rfl ?_
        refine ev_bk 1 (S' := (99, [some (.ref 0), some (vI x1), some (vI x2)], [.ref 0], hp S, 0, 0)) rfl ?_
        obtain ⟨o26, e28, h27, F⟩ := F
        refine mv_gfV rfl rfl (sh_0) (by decide) rfl e28 ?_
        refine ev_bk 1 (S' := (103, [some (.ref 0), some (vI x1), some (vI x2)], [vI x1, .ref o26], hp S, 0, 0)) rfl ?_
        obtain ⟨z31, S29, e30, F⟩ := F
        refine mv_calv (as := [vI x1]) (rest := []) e30 (h27.1) rfl rfl rfl ⟨rfl, rfl⟩ rfl rfl rfl rfl rfl ?_
        refine mv_if 113 rfl rfl (fun c => ?_) (fun c => ?_)
        · have F := F.1 c
          refine ev_bk 1 (S' := (114, [some (.ref 0), some (vI x1), some (vI x2)], [vI 0], hp S29, 0, 0)) rfl ?_
          obtain ⟨rfl, rfl⟩ := F
          exact ev_ret rfl rfl
        · have F := F.2 c
          refine ev_bk 1 (S' := (110, [some (.ref 0), some (vI x1), some (vI x2)], [vI 1], hp S29, 0, 0)) rfl ?_
          refine mv_goto 114 rfl rfl ?_
          obtain ⟨rfl, rfl⟩ := F
          exact ev_ret rfl rfl
      have F := F.2.2.2.2.2 (ts_hi d5 (by decide)) (ts_hi d5 (by decide)) (ts_hi d5 (by decide)) (ts_hi d5 (by decide)) (ts_hi d5 (by decide))
      refine mv_tout 115 (Or.inr (ts_gt (hi := 4) d5)) rfl rfl ?_
      refine ev_bk 1 (S' := (117, [some (.ref 0), some (vI x1), some (vI x2)], [vI ((-2))], hp S, 0, 0)) rfl ?_
      obtain ⟨rfl, rfl⟩ := F
      exact ev_ret rfl rfl
    · have F := F.2 c
      refine ev_bk 1 (S' := (16, [some (.ref 0), some (vI x1), some (vI x2)], [vI ((-1))], hp S, 0, 0)) rfl ?_
      obtain ⟨rfl, rfl⟩ := F
      exact ev_ret rfl rfl
theorem vc_PH_nameAt {q : Nat × (Nat → Int32)} {S S' : ms} {r : Option Value} (x1 x2 : Int)
    (F : ((w32 x1 < 0) → r = some (vI ((-1))) ∧ S' = S) ∧ ((¬ w32 x1 < 0) → ∃ (o1 : Nat), S.2.2 0 13 = o1 ∧ isShelf o1 ∧ ((w32 (S.1 o1 4) ≤ w32 x1) → r = some (vI ((-1))) ∧ S' = S) ∧ ((¬ w32 (S.1 o1 4) ≤ w32 x1) → ((w32 x2 < 0) → r = some (vI ((-1))) ∧ S' = S) ∧ ((¬ w32 x2 < 0) → ∃ (o4 : Nat), S.2.2 0 13 = o4 ∧ isShelf o4 ∧ (0 ≤ w32 x1 ∧ w32 x1 < (16 : Nat)) ∧ ∃ (o8 no8 : Nat), sh_r (SH (o4 + 1)).2.2 (w32 x1).toNat = some o8 ∧ isRow o8 no8 ∧ ((w32 x2 < w32 (S.1 o8 1)) → ∃ (o11 : Nat), S.2.2 0 13 = o11 ∧ isShelf o11 ∧ (0 ≤ w32 x1 ∧ w32 x1 < (16 : Nat)) ∧ ∃ (o15 no15 : Nat), sh_r (SH (o11 + 1)).2.2 (w32 x1).toNat = some o15 ∧ isRow o15 no15 ∧ (0 ≤ w32 x2 ∧ w32 x2 < (no15 : Nat)) ∧ r = some (vI (S.1 (o15 + 1) (w32 x2))) ∧ S' = S) ∧ ((¬ w32 x2 < w32 (S.1 o8 1)) → r = some (vI ((-1))) ∧ S' = S))))) : EV q 210 0 [some (.ref 0), some (vI x1), some (vI x2)] [] S r S' := by
  unfold EV
  refine ev_bk 1 (S' := (1, [some (.ref 0), some (vI x1), some (vI x2)], [vI x1], hp S, 0, 0)) rfl ?_
  refine mv_if 35 rfl rfl (fun c => ?_) (fun c => ?_)
  · have F := F.1 c
    refine ev_bk 1 (S' := (36, [some (.ref 0), some (vI x1), some (vI x2)], [vI ((-1))], hp S, 0, 0)) rfl ?_
    obtain ⟨rfl, rfl⟩ := F
    exact ev_ret rfl rfl
  · have F := F.2 c
    refine ev_bk 2 (S' := (6, [some (.ref 0), some (vI x1), some (vI x2)], [.ref 0, vI x1], hp S, 0, 0)) rfl ?_
    obtain ⟨o1, e3, h2, F⟩ := F
    refine mv_gfV rfl rfl (sh_0) (by decide) rfl e3 ?_
    refine mv_gfI rfl rfl (h2.1) (by decide) rfl ?_
    refine mv_icmp 35 rfl rfl (fun c => ?_) (fun c => ?_)
    · have F := F.1 c
      refine ev_bk 1 (S' := (36, [some (.ref 0), some (vI x1), some (vI x2)], [vI ((-1))], hp S, 0, 0)) rfl ?_
      obtain ⟨rfl, rfl⟩ := F
      exact ev_ret rfl rfl
    · have F := F.2 c
      refine ev_bk 1 (S' := (16, [some (.ref 0), some (vI x1), some (vI x2)], [vI x2], hp S, 0, 0)) rfl ?_
      refine mv_if 35 rfl rfl (fun c => ?_) (fun c => ?_)
      · have F := F.1 c
        refine ev_bk 1 (S' := (36, [some (.ref 0), some (vI x1), some (vI x2)], [vI ((-1))], hp S, 0, 0)) rfl ?_
        obtain ⟨rfl, rfl⟩ := F
        exact ev_ret rfl rfl
      · have F := F.2 c
        refine ev_bk 2 (S' := (21, [some (.ref 0), some (vI x1), some (vI x2)], [.ref 0, vI x2], hp S, 0, 0)) rfl ?_
        obtain ⟨o4, e6, h5, F⟩ := F
        refine mv_gfV rfl rfl (sh_0) (by decide) rfl e6 ?_
        refine mv_gfR rfl rfl (h5.1) (by decide) rfl ?_
        refine ev_bk 1 (S' := (28, [some (.ref 0), some (vI x1), some (vI x2)], [vI x1, .ref (o4 + 1), vI x2], hp S, 0, 0)) rfl ?_
        obtain ⟨b7, o8, no8, e10, h9, F⟩ := F
        refine mv_aaV rfl (h5.2.1) (Or.inl rfl) b7 e10 ?_
        refine mv_gfI rfl rfl (h9.1) (by decide) rfl ?_
        refine mv_icmp 37 rfl rfl (fun c => ?_) (fun c => ?_)
        · have F := F.1 c
          refine ev_bk 1 (S' := (38, [some (.ref 0), some (vI x1), some (vI x2)], [.ref 0], hp S, 0, 0)) rfl ?_
          obtain ⟨o11, e13, h12, F⟩ := F
          refine mv_gfV rfl rfl (sh_0) (by decide) rfl e13 ?_
          refine mv_gfR rfl rfl (h12.1) (by decide) rfl ?_
          refine ev_bk 1 (S' := (45, [some (.ref 0), some (vI x1), some (vI x2)], [vI x1, .ref (o11 + 1)], hp S, 0, 0)) rfl ?_
          obtain ⟨b14, o15, no15, e17, h16, F⟩ := F
          refine mv_aaV rfl (h12.2.1) (Or.inl rfl) b14 e17 ?_
          refine mv_gfR rfl rfl (h16.1) (by decide) rfl ?_
          refine ev_bk 1 (S' := (50, [some (.ref 0), some (vI x1), some (vI x2)], [vI x2, .ref (o15 + 1)], hp S, 0, 0)) rfl ?_
          obtain ⟨b18, F⟩ := F
          refine mv_ial rfl (h16.2) b18 ?_
          obtain ⟨rfl, rfl⟩ := F
          exact ev_ret rfl rfl
        · have F := F.2 c
          refine ev_bk 1 (S' := (36, [some (.ref 0), some (vI x1), some (vI x2)], [vI ((-1))], hp S, 0, 0)) rfl ?_
          obtain ⟨rfl, rfl⟩ := F
          exact ev_ret rfl rfl
theorem vc_PH_extract {q : Nat × (Nat → Int32)} {S S' : ms} {r : Option Value} (x1 : Int)
    (F : ((w32 x1 < 0) → r = some (vI ((-1))) ∧ S' = S) ∧ ((¬ w32 x1 < 0) → ∃ (o1 : Nat), S.2.2 0 13 = o1 ∧ isShelf o1 ∧ ((w32 x1 < w32 (S.1 o1 4)) → ∃ (o4 : Nat), S.2.2 0 13 = o4 ∧ isShelf o4 ∧ (0 ≤ w32 x1 ∧ w32 x1 < (16 : Nat)) ∧ ∃ (o8 no8 : Nat), sh_r (SH (o4 + 2)).2.2 (w32 x1).toNat = some o8 ∧ isRow o8 no8 ∧ ∃ (o11 : Nat), S.2.2 0 13 = o11 ∧ isShelf o11 ∧ (0 ≤ w32 x1 ∧ w32 x1 < (16 : Nat)) ∧ ∃ (o15 no15 : Nat), sh_r (SH (o11 + 2)).2.2 (w32 x1).toNat = some o15 ∧ isRow o15 no15 ∧ ∃ (z20 : Int) (S18 : ms), EV q 212 0 [some (.ref 0), some (.ref (o8 + 1)), some (vI 0), some (vI (S.1 o15 1)), none] [] S (some (vI z20)) S18 ∧ r = some (vI z20) ∧ S' = S18) ∧ ((¬ w32 x1 < w32 (S.1 o1 4)) → r = some (vI ((-1))) ∧ S' = S))) : EV q 211 0 [some (.ref 0), some (vI x1)] [] S r S' := by
  unfold EV
  refine ev_bk 1 (S' := (1, [some (.ref 0), some (vI x1)], [vI x1], hp S, 0, 0)) rfl ?_
  refine mv_if 15 rfl rfl (fun c => ?_) (fun c => ?_)
  · have F := F.1 c
    refine ev_bk 1 (S' := (16, [some (.ref 0), some (vI x1)], [vI ((-1))], hp S, 0, 0)) rfl ?_
    obtain ⟨rfl, rfl⟩ := F
    exact ev_ret rfl rfl
  · have F := F.2 c
    refine ev_bk 2 (S' := (6, [some (.ref 0), some (vI x1)], [.ref 0, vI x1], hp S, 0, 0)) rfl ?_
    obtain ⟨o1, e3, h2, F⟩ := F
    refine mv_gfV rfl rfl (sh_0) (by decide) rfl e3 ?_
    refine mv_gfI rfl rfl (h2.1) (by decide) rfl ?_
    refine mv_icmp 17 rfl rfl (fun c => ?_) (fun c => ?_)
    · have F := F.1 c
      refine ev_bk 2 (S' := (19, [some (.ref 0), some (vI x1)], [.ref 0, .ref 0], hp S, 0, 0)) rfl ?_
      obtain ⟨o4, e6, h5, F⟩ := F
      refine mv_gfV rfl rfl (sh_0) (by decide) rfl e6 ?_
      refine mv_gfR rfl rfl (h5.1) (by decide) rfl ?_
      refine ev_bk 1 (S' := (26, [some (.ref 0), some (vI x1)], [vI x1, .ref (o4 + 2), .ref 0], hp S, 0, 0)) rfl ?_
      obtain ⟨b7, o8, no8, e10, h9, F⟩ := F
      refine mv_aaV rfl (h5.2.2.1) (Or.inl rfl) b7 e10 ?_
      refine mv_gfR rfl rfl (h9.1) (by decide) rfl ?_
      refine ev_bk 2 (S' := (32, [some (.ref 0), some (vI x1)], [.ref 0, vI 0, .ref (o8 + 1), .ref 0], hp S, 0, 0)) rfl ?_
      obtain ⟨o11, e13, h12, F⟩ := F
      refine mv_gfV rfl rfl (sh_0) (by decide) rfl e13 ?_
      refine mv_gfR rfl rfl (h12.1) (by decide) rfl ?_
      refine ev_bk 1 (S' := (39, [some (.ref 0), some (vI x1)], [vI x1, .ref (o11 + 2), vI 0, .ref (o8 + 1), .ref 0], hp S, 0, 0)) rfl ?_
      obtain ⟨b14, o15, no15, e17, h16, F⟩ := F
      refine mv_aaV rfl (h12.2.2.1) (Or.inl rfl) b14 e17 ?_
      refine mv_gfI rfl rfl (h16.1) (by decide) rfl ?_
      obtain ⟨z20, S18, e19, F⟩ := F
      refine mv_calv (as := [.ref (o8 + 1), vI 0, vI (S.1 o15 1)]) (rest := []) e19 (sh_0) rfl rfl rfl ⟨rfl, rfl⟩ rfl rfl rfl rfl rfl ?_
      obtain ⟨rfl, rfl⟩ := F
      exact ev_ret rfl rfl
    · have F := F.2 c
      refine ev_bk 1 (S' := (16, [some (.ref 0), some (vI x1)], [vI ((-1))], hp S, 0, 0)) rfl ?_
      obtain ⟨rfl, rfl⟩ := F
      exact ev_ret rfl rfl
theorem vc_PH_settleSpan {q : Nat × (Nat → Int32)} {S S' : ms} {r : Option Value} (x2 x3 : Int) (a1 na1 : Nat) (ha1 : SH a1 = (0, na1, []))
    (F : ∃ (z3 : Int) (S1 : ms), EV q 43 0 [some (.ref 0), none] [] S (some (vI z3)) S1 ∧ ((¬ w32 z3 = 0) → (0 ≤ w32 z3 ∧ w32 z3 < (13 : Nat)) ∧ ∃ (o5 no5 : Nat), sh_r (SH 3).2.2 (w32 z3).toNat = some o5 ∧ isRow o5 no5 ∧ ∃ (S8 : ms), EV q 37 0 [some (.ref o5)] [] S1 none S8 ∧ (0 ≤ w32 z3 ∧ w32 z3 < (13 : Nat)) ∧ ∃ (o11 no11 : Nat), sh_r (SH 3).2.2 (w32 z3).toNat = some o11 ∧ isRow o11 no11 ∧ ∃ (S14 : ms), EV q 38 0 [some (.ref o11), some (.ref a1), some (vI x2), some (vI x3), none] [] S8 none S14 ∧ ∃ (z18 : Int) (S16 : ms), EV q 112 0 [some (.ref 0), some (vI z3)] [] S14 (some (vI z18)) S16 ∧ r = some (vI z18) ∧ S' = S16) ∧ ((¬ (¬ w32 z3 = 0)) → r = some (vI ((-4))) ∧ S' = S1)) : EV q 212 0 [some (.ref 0), some (.ref a1), some (vI x2), some (vI x3), none] [] S r S' := by
  unfold EV
  refine ev_bk 1 (S' := (1, [some (.ref 0), some (.ref a1), some (vI x2), some (vI x3), none], [.ref 0], hp S, 0, 0)) rfl ?_
  obtain ⟨z3, S1, e2, F⟩ := F
  refine mv_calv (as := []) (rest := []) e2 (sh_0) rfl rfl rfl ⟨rfl, rfl⟩ rfl rfl rfl rfl rfl ?_
  refine ev_bk 2 (S' := (8, [some (.ref 0), some (.ref a1), some (vI x2), some (vI x3), some (vI z3)], [vI z3], hp S1, 0, 0)) rfl ?_
  refine mv_if 14 rfl rfl (fun c => ?_) (fun c => ?_)
  · have F := F.1 c
    refine ev_bk 1 (S' := (15, [some (.ref 0), some (.ref a1), some (vI x2), some (vI x3), some (vI z3)], [.ref 0], hp S1, 0, 0)) rfl ?_
    refine mv_gfR rfl rfl (sh_0) (by decide) rfl ?_
    refine ev_bk 1 (S' := (20, [some (.ref 0), some (.ref a1), some (vI x2), some (vI x3), some (vI z3)], [vI z3, .ref 3], hp S1, 0, 0)) rfl ?_
    obtain ⟨b4, o5, no5, e7, h6, F⟩ := F
    refine mv_aal rfl (sh_3) (Or.inl rfl) b4 e7 ?_
    obtain ⟨S8, e9, F⟩ := F
    refine mv_calv (as := []) (rest := []) e9 (h6.1) rfl rfl rfl ⟨rfl, rfl⟩ rfl rfl rfl rfl rfl ?_
    refine ev_bk 1 (S' := (25, [some (.ref 0), some (.ref a1), some (vI x2), some (vI x3), some (vI z3)], [.ref 0], hp S8, 0, 0)) rfl ?_
    refine mv_gfR rfl rfl (sh_0) (by decide) rfl ?_
    refine ev_bk 1 (S' := (30, [some (.ref 0), some (.ref a1), some (vI x2), some (vI x3), some (vI z3)], [vI z3, .ref 3], hp S8, 0, 0)) rfl ?_
    obtain ⟨b10, o11, no11, e13, h12, F⟩ := F
    refine mv_aal rfl (sh_3) (Or.inl rfl) b10 e13 ?_
    refine ev_bk 3 (S' := (34, [some (.ref 0), some (.ref a1), some (vI x2), some (vI x3), some (vI z3)], [vI x3, vI x2, .ref a1, .ref o11], hp S8, 0, 0)) rfl ?_
    obtain ⟨S14, e15, F⟩ := F
    refine mv_calv (as := [.ref a1, vI x2, vI x3]) (rest := []) e15 (h12.1) rfl rfl rfl ⟨rfl, rfl⟩ rfl rfl rfl rfl rfl ?_
    refine ev_bk 2 (S' := (40, [some (.ref 0), some (.ref a1), some (vI x2), some (vI x3), some (vI z3)], [vI z3, .ref 0], hp S14, 0, 0)) rfl ?_
    obtain ⟨z18, S16, e17, F⟩ := F
    refine mv_calv (as := [vI z3]) (rest := []) e17 (sh_0) rfl rfl rfl ⟨rfl, rfl⟩ rfl rfl rfl rfl rfl ?_
    obtain ⟨rfl, rfl⟩ := F
    exact ev_ret rfl rfl
  · have F := F.2 c
    refine ev_bk 1 (S' := (13, [some (.ref 0), some (.ref a1), some (vI x2), some (vI x3), some (vI z3)], [vI ((-4))], hp S1, 0, 0)) rfl ?_
    obtain ⟨rfl, rfl⟩ := F
    exact ev_ret rfl rfl
theorem vc_PH_wipe {q : Nat × (Nat → Int32)} {S S' : ms} {r : Option Value}
    (F : ∃ (o1 : Nat), S.2.2 0 13 = o1 ∧ isShelf o1 ∧ ∃ (o4 : Nat), S.2.2 0 13 = o4 ∧ isShelf o4 ∧ ∀ S7 : ms, S7 = wI S o4 4 0 → r = some (vI (S.1 o1 4)) ∧ S' = S7) : EV q 213 0 [some (.ref 0), none] [] S r S' := by
  unfold EV
  refine ev_bk 1 (S' := (1, [some (.ref 0), none], [.ref 0], hp S, 0, 0)) rfl ?_
  obtain ⟨o1, e3, h2, F⟩ := F
  refine mv_gfV rfl rfl (sh_0) (by decide) rfl e3 ?_
  refine mv_gfI rfl rfl (h2.1) (by decide) rfl ?_
  refine ev_bk 2 (S' := (9, [some (.ref 0), some (vI (S.1 o1 4))], [.ref 0], hp S, 0, 0)) rfl ?_
  obtain ⟨o4, e6, h5, F⟩ := F
  refine mv_gfV rfl rfl (sh_0) (by decide) rfl e6 ?_
  refine ev_bk 1 (S' := (13, [some (.ref 0), some (vI (S.1 o1 4))], [vI 0, .ref o4], hp S, 0, 0)) rfl ?_
  refine mv_pfI rfl rfl (h5.1) (by decide) rfl rfl ?_
  have F := F _ rfl
  refine ev_bk 1 (S' := (17, [some (.ref 0), some (vI (S.1 o1 4))], [vI (S.1 o1 4)], hp (wI S o4 4 0), 0, 0)) rfl ?_
  obtain ⟨rfl, rfl⟩ := F
  exact ev_ret rfl rfl
theorem vc_PH_delta {q : Nat × (Nat → Int32)} {S S' : ms} {r : Option Value} (x1 x2 : Int)
    (F : ∃ (z3 : Int) (S1 : ms), EV q 34 0 [some (.ref 0), some (vI x1)] [] S (some (vI z3)) S1 ∧ ((w32 z3 = 0) → r = some (vI ((-1))) ∧ S' = S1) ∧ ((¬ w32 z3 = 0) → ∃ (z6 : Int) (S4 : ms), EV q 34 0 [some (.ref 0), some (vI x2)] [] S1 (some (vI z6)) S4 ∧ ((¬ w32 z6 = 0) → ∃ (z9 : Int) (S7 : ms), EV q 43 0 [some (.ref 0), none] [] S4 (some (vI z9)) S7 ∧ ((¬ w32 z9 = 0) → (0 ≤ w32 z9 ∧ w32 z9 < (13 : Nat)) ∧ ∃ (o11 no11 : Nat), sh_r (SH 3).2.2 (w32 z9).toNat = some o11 ∧ isRow o11 no11 ∧ ∃ (S14 : ms), EV q 37 0 [some (.ref o11)] [] S7 none S14 ∧ (0 ≤ w32 x1 ∧ w32 x1 < (13 : Nat)) ∧ ∃ (o17 no17 : Nat), sh_r (SH 3).2.2 (w32 x1).toNat = some o17 ∧ isRow o17 no17 ∧ (0 ≤ w32 x2 ∧ w32 x2 < (13 : Nat)) ∧ ∃ (o21 no21 : Nat), sh_r (SH 3).2.2 (w32 x2).toNat = some o21 ∧ isRow o21 no21 ∧ (0 ≤ w32 z9 ∧ w32 z9 < (13 : Nat)) ∧ ∃ (o25 no25 : Nat), sh_r (SH 3).2.2 (w32 z9).toNat = some o25 ∧ isRow o25 no25 ∧ ∃ (S28 : ms), EV q 215 0 [some (.ref 29), some (.ref o17), some (.ref o21), some (.ref o25), none, none, none, none] [] S14 none S28 ∧ ∃ (z32 : Int) (S30 : ms), EV q 112 0 [some (.ref 0), some (vI z9)] [] S28 (some (vI z32)) S30 ∧ r = some (vI z32) ∧ S' = S30) ∧ ((¬ (¬ w32 z9 = 0)) → r = some (vI ((-4))) ∧ S' = S7)) ∧ ((¬ (¬ w32 z6 = 0)) → r = some (vI ((-1))) ∧ S' = S4))) : EV q 214 0 [some (.ref 0), some (vI x1), some (vI x2), none] [] S r S' := by
  unfold EV
  refine ev_bk 2 (S' := (2, [some (.ref 0), some (vI x1), some (vI x2), none], [vI x1, .ref 0], hp S, 0, 0)) rfl ?_
  obtain ⟨z3, S1, e2, F⟩ := F
  refine mv_calv (as := [vI x1]) (rest := []) e2 (sh_0) rfl rfl rfl ⟨rfl, rfl⟩ rfl rfl rfl rfl rfl ?_
  refine mv_if 16 rfl rfl (fun c => ?_) (fun c => ?_)
  · have F := F.1 c
    refine ev_bk 1 (S' := (17, [some (.ref 0), some (vI x1), some (vI x2), none], [vI ((-1))], hp S1, 0, 0)) rfl ?_
    obtain ⟨rfl, rfl⟩ := F
    exact ev_ret rfl rfl
  · have F := F.2 c
    refine ev_bk 2 (S' := (10, [some (.ref 0), some (vI x1), some (vI x2), none], [vI x2, .ref 0], hp S1, 0, 0)) rfl ?_
    obtain ⟨z6, S4, e5, F⟩ := F
    refine mv_calv (as := [vI x2]) (rest := []) e5 (sh_0) rfl rfl rfl ⟨rfl, rfl⟩ rfl rfl rfl rfl rfl ?_
    refine mv_if 18 rfl rfl (fun c => ?_) (fun c => ?_)
    · have F := F.1 c
      refine ev_bk 1 (S' := (19, [some (.ref 0), some (vI x1), some (vI x2), none], [.ref 0], hp S4, 0, 0)) rfl ?_
      obtain ⟨z9, S7, e8, F⟩ := F
      refine mv_calv (as := []) (rest := []) e8 (sh_0) rfl rfl rfl ⟨rfl, rfl⟩ rfl rfl rfl rfl rfl ?_
      refine ev_bk 2 (S' := (24, [some (.ref 0), some (vI x1), some (vI x2), some (vI z9)], [vI z9], hp S7, 0, 0)) rfl ?_
      refine mv_if 30 rfl rfl (fun c => ?_) (fun c => ?_)
      · have F := F.1 c
        refine ev_bk 1 (S' := (31, [some (.ref 0), some (vI x1), some (vI x2), some (vI z9)], [.ref 0], hp S7, 0, 0)) rfl ?_
        refine mv_gfR rfl rfl (sh_0) (by decide) rfl ?_
        refine ev_bk 1 (S' := (35, [some (.ref 0), some (vI x1), some (vI x2), some (vI z9)], [vI z9, .ref 3], hp S7, 0, 0)) rfl ?_
        obtain ⟨b10, o11, no11, e13, h12, F⟩ := F
        refine mv_aal rfl (sh_3) (Or.inl rfl) b10 e13 ?_
        obtain ⟨S14, e15, F⟩ := F
        refine mv_calv (as := []) (rest := []) e15 (h12.1) rfl rfl rfl ⟨rfl, rfl⟩ rfl rfl rfl rfl rfl ?_
        refine ev_bk 1 (S' := (40, [some (.ref 0), some (vI x1), some (vI x2), some (vI z9)], [.ref 0], hp S14, 0, 0)) rfl ?_
        refine mv_gfR rfl rfl (sh_0) (by decide) rfl ?_
        refine ev_bk 1 (S' := (44, [some (.ref 0), some (vI x1), some (vI x2), some (vI z9)], [.ref 0, .ref 29], hp S14, 0, 0)) rfl ?_
        refine mv_gfR rfl rfl (sh_0) (by decide) rfl ?_
        refine ev_bk 1 (S' := (48, [some (.ref 0), some (vI x1), some (vI x2), some (vI z9)], [vI x1, .ref 3, .ref 29], hp S14, 0, 0)) rfl ?_
        obtain ⟨b16, o17, no17, e19, h18, F⟩ := F
        refine mv_aal rfl (sh_3) (Or.inl rfl) b16 e19 ?_
        refine ev_bk 1 (S' := (50, [some (.ref 0), some (vI x1), some (vI x2), some (vI z9)], [.ref 0, .ref o17, .ref 29], hp S14, 0, 0)) rfl ?_
        refine mv_gfR rfl rfl (sh_0) (by decide) rfl ?_
        refine ev_bk 1 (S' := (54, [some (.ref 0), some (vI x1), some (vI x2), some (vI z9)], [vI x2, .ref 3, .ref o17, .ref 29], hp S14, 0, 0)) rfl ?_
        obtain ⟨b20, o21, no21, e23, h22, F⟩ := F
        refine mv_aal rfl (sh_3) (Or.inl rfl) b20 e23 ?_
        refine ev_bk 1 (S' := (56, [some (.ref 0), some (vI x1), some (vI x2), some (vI z9)], [.ref 0, .ref o21, .ref o17, .ref 29], hp S14, 0, 0)) rfl ?_
        refine mv_gfR rfl rfl (sh_0) (by decide) rfl ?_
        refine ev_bk 1 (S' := (60, [some (.ref 0), some (vI x1), some (vI x2), some (vI z9)], [vI z9, .ref 3, .ref o21, .ref o17, .ref 29], hp S14, 0, 0)) rfl ?_
        obtain ⟨b24, o25, no25, e27, h26, F⟩ := F
        refine mv_aal rfl (sh_3) (Or.inl rfl) b24 e27 ?_
        obtain ⟨S28, e29, F⟩ := F
        refine mv_calv (as := [.ref o17, .ref o21, .ref o25]) (rest := []) e29 (sh_29) rfl rfl rfl ⟨rfl, rfl⟩ rfl rfl rfl rfl rfl ?_
        refine ev_bk 2 (S' := (66, [some (.ref 0), some (vI x1), some (vI x2), some (vI z9)], [vI z9, .ref 0], hp S28, 0, 0)) rfl ?_
        obtain ⟨z32, S30, e31, F⟩ := F
        refine mv_calv (as := [vI z9]) (rest := []) e31 (sh_0) rfl rfl rfl ⟨rfl, rfl⟩ rfl rfl rfl rfl rfl ?_
        obtain ⟨rfl, rfl⟩ := F
        exact ev_ret rfl rfl
      · have F := F.2 c
        refine ev_bk 1 (S' := (29, [some (.ref 0), some (vI x1), some (vI x2), some (vI z9)], [vI ((-4))], hp S7, 0, 0)) rfl ?_
        obtain ⟨rfl, rfl⟩ := F
        exact ev_ret rfl rfl
    · have F := F.2 c
      refine ev_bk 1 (S' := (17, [some (.ref 0), some (vI x1), some (vI x2), none], [vI ((-1))], hp S4, 0, 0)) rfl ?_
      obtain ⟨rfl, rfl⟩ := F
      exact ev_ret rfl rfl
theorem vc_PH_apply {q : Nat × (Nat → Int32)} {S S' : ms} {r : Option Value} (x1 : Int)
    (F : ∃ (z3 : Int) (S1 : ms), EV q 34 0 [some (.ref 0), some (vI x1)] [] S (some (vI z3)) S1 ∧ ((¬ w32 z3 = 0) → ∃ (z6 : Int) (S4 : ms), EV q 43 0 [some (.ref 0), none] [] S1 (some (vI z6)) S4 ∧ ((¬ w32 z6 = 0) → (0 ≤ w32 z6 ∧ w32 z6 < (13 : Nat)) ∧ ∃ (o8 no8 : Nat), sh_r (SH 3).2.2 (w32 z6).toNat = some o8 ∧ isRow o8 no8 ∧ ∃ (S11 : ms), EV q 115 0 [some (.ref 9), some (vI (S4.1 1 1)), some (.ref o8), some (vI 0)] [] S4 none S11 ∧ (0 ≤ w32 x1 ∧ w32 x1 < (13 : Nat)) ∧ ∃ (o14 no14 : Nat), sh_r (SH 3).2.2 (w32 x1).toNat = some o14 ∧ isRow o14 no14 ∧ ∃ (S17 : ms), EV q 221 0 [some (.ref 29), some (.ref 9), some (.ref o14), none, none, none, none, none, none, none, none] [] S11 none S17 ∧ ∃ (z21 : Int) (S19 : ms), EV q 173 0 [some (.ref 0), some (vI z6)] [] S17 (some (vI z21)) S19 ∧ r = some (vI z21) ∧ S' = S19) ∧ ((¬ (¬ w32 z6 = 0)) → r = some (vI ((-4))) ∧ S' = S4)) ∧ ((¬ (¬ w32 z3 = 0)) → r = some (vI ((-1))) ∧ S' = S1)) : EV q 220 0 [some (.ref 0), some (vI x1), none] [] S r S' := by
  unfold EV
  refine ev_bk 2 (S' := (2, [some (.ref 0), some (vI x1), none], [vI x1, .ref 0], hp S, 0, 0)) rfl ?_
  obtain ⟨z3, S1, e2, F⟩ := F
  refine mv_calv (as := [vI x1]) (rest := []) e2 (sh_0) rfl rfl rfl ⟨rfl, rfl⟩ rfl rfl rfl rfl rfl ?_
  refine mv_if 10 rfl rfl (fun c => ?_) (fun c => ?_)
  · have F := F.1 c
    refine ev_bk 1 (S' := (11, [some (.ref 0), some (vI x1), none], [.ref 0], hp S1, 0, 0)) rfl ?_
    obtain ⟨z6, S4, e5, F⟩ := F
    refine mv_calv (as := []) (rest := []) e5 (sh_0) rfl rfl rfl ⟨rfl, rfl⟩ rfl rfl rfl rfl rfl ?_
    refine ev_bk 2 (S' := (16, [some (.ref 0), some (vI x1), some (vI z6)], [vI z6], hp S4, 0, 0)) rfl ?_
    refine mv_if 22 rfl rfl (fun c => ?_) (fun c => ?_)
    · have F := F.1 c
      refine ev_bk 1 (S' := (23, [some (.ref 0), some (vI x1), some (vI z6)], [.ref 0], hp S4, 0, 0)) rfl ?_
      refine mv_gfR rfl rfl (sh_0) (by decide) rfl ?_
      refine ev_bk 1 (S' := (27, [some (.ref 0), some (vI x1), some (vI z6)], [.ref 0, .ref 9], hp S4, 0, 0)) rfl ?_
      refine mv_gfR rfl rfl (sh_0) (by decide) rfl ?_
      refine mv_gfI rfl rfl (sh_1) (by decide) rfl ?_
      refine ev_bk 1 (S' := (34, [some (.ref 0), some (vI x1), some (vI z6)], [.ref 0, vI (S4.1 1 1), .ref 9], hp S4, 0, 0)) rfl ?_
      refine mv_gfR rfl rfl (sh_0) (by decide) rfl ?_
      refine ev_bk 1 (S' := (38, [some (.ref 0), some (vI x1), some (vI z6)], [vI z6, .ref 3, vI (S4.1 1 1), .ref 9], hp S4, 0, 0)) rfl ?_
      obtain ⟨b7, o8, no8, e10, h9, F⟩ := F
      refine mv_aal rfl (sh_3) (Or.inl rfl) b7 e10 ?_
      refine ev_bk 1 (S' := (40, [some (.ref 0), some (vI x1), some (vI z6)], [vI 0, .ref o8, vI (S4.1 1 1), .ref 9], hp S4, 0, 0)) rfl ?_
      obtain ⟨S11, e12, F⟩ := F
      refine mv_calv (as := [vI (S4.1 1 1), .ref o8, vI 0]) (rest := []) e12 (sh_9) rfl rfl rfl ⟨rfl, rfl⟩ rfl rfl rfl rfl rfl ?_
      refine ev_bk 1 (S' := (44, [some (.ref 0), some (vI x1), some (vI z6)], [.ref 0], hp S11, 0, 0)) rfl ?_
      refine mv_gfR rfl rfl (sh_0) (by decide) rfl ?_
      refine ev_bk 1 (S' := (48, [some (.ref 0), some (vI x1), some (vI z6)], [.ref 0, .ref 29], hp S11, 0, 0)) rfl ?_
      refine mv_gfR rfl rfl (sh_0) (by decide) rfl ?_
      refine ev_bk 1 (S' := (52, [some (.ref 0), some (vI x1), some (vI z6)], [.ref 0, .ref 9, .ref 29], hp S11, 0, 0)) rfl ?_
      refine mv_gfR rfl rfl (sh_0) (by decide) rfl ?_
      refine ev_bk 1 (S' := (56, [some (.ref 0), some (vI x1), some (vI z6)], [vI x1, .ref 3, .ref 9, .ref 29], hp S11, 0, 0)) rfl ?_
      obtain ⟨b13, o14, no14, e16, h15, F⟩ := F
      refine mv_aal rfl (sh_3) (Or.inl rfl) b13 e16 ?_
      obtain ⟨S17, e18, F⟩ := F
      refine mv_calv (as := [.ref 9, .ref o14]) (rest := []) e18 (sh_29) rfl rfl rfl ⟨rfl, rfl⟩ rfl rfl rfl rfl rfl ?_
      refine ev_bk 2 (S' := (62, [some (.ref 0), some (vI x1), some (vI z6)], [vI z6, .ref 0], hp S17, 0, 0)) rfl ?_
      obtain ⟨z21, S19, e20, F⟩ := F
      refine mv_calv (as := [vI z6]) (rest := []) e20 (sh_0) rfl rfl rfl ⟨rfl, rfl⟩ rfl rfl rfl rfl rfl ?_
      obtain ⟨rfl, rfl⟩ := F
      exact ev_ret rfl rfl
    · have F := F.2 c
      refine ev_bk 1 (S' := (21, [some (.ref 0), some (vI x1), some (vI z6)], [vI ((-4))], hp S4, 0, 0)) rfl ?_
      obtain ⟨rfl, rfl⟩ := F
      exact ev_ret rfl rfl
  · have F := F.2 c
    refine ev_bk 1 (S' := (9, [some (.ref 0), some (vI x1), none], [vI ((-1))], hp S1, 0, 0)) rfl ?_
    obtain ⟨rfl, rfl⟩ := F
    exact ev_ret rfl rfl
theorem vc_PH_protect {q : Nat × (Nat → Int32)} {S S' : ms} {r : Option Value} (x1 x2 : Int)
    (F : ((w32 x1 < 1) → r = some (vI ((-2))) ∧ S' = S) ∧ ((¬ w32 x1 < 1) → ((32 < w32 x1) → r = some (vI ((-2))) ∧ S' = S) ∧ ((¬ 32 < w32 x1) → ((w32 x2 < 0) → r = some (vI ((-2))) ∧ S' = S) ∧ ((¬ w32 x2 < 0) → ((w32 x2 ≤ 16) → ∃ (S1 : ms), EV q 224 0 [some (.ref 173), some (.ref 1), some (vI x1), some (vI x2), none] [] S none S1 ∧ r = some (vI (S1.1 173 3)) ∧ S' = S1) ∧ ((¬ w32 x2 ≤ 16) → r = some (vI ((-2))) ∧ S' = S))))) : EV q 223 0 [some (.ref 0), some (vI x1), some (vI x2)] [] S r S' := by
  unfold EV
  refine ev_bk 2 (S' := (2, [some (.ref 0), some (vI x1), some (vI x2)], [vI 1, vI x1], hp S, 0, 0)) rfl ?_
  refine mv_icmp 21 rfl rfl (fun c => ?_) (fun c => ?_)
  · have F := F.1 c
    refine ev_bk 1 (S' := (23, [some (.ref 0), some (vI x1), some (vI x2)], [vI ((-2))], hp S, 0, 0)) rfl ?_
    obtain ⟨rfl, rfl⟩ := F
    exact ev_ret rfl rfl
  · have F := F.2 c
    refine ev_bk 2 (S' := (8, [some (.ref 0), some (vI x1), some (vI x2)], [vI 32, vI x1], hp S, 0, 0)) rfl ?_
    refine mv_icmp 21 rfl rfl (fun c => ?_) (fun c => ?_)
    · have F := F.1 c
      refine ev_bk 1 (S' := (23, [some (.ref 0), some (vI x1), some (vI x2)], [vI ((-2))], hp S, 0, 0)) rfl ?_
      obtain ⟨rfl, rfl⟩ := F
      exact ev_ret rfl rfl
    · have F := F.2 c
      refine ev_bk 1 (S' := (12, [some (.ref 0), some (vI x1), some (vI x2)], [vI x2], hp S, 0, 0)) rfl ?_
      refine mv_if 21 rfl rfl (fun c => ?_) (fun c => ?_)
      · have F := F.1 c
        refine ev_bk 1 (S' := (23, [some (.ref 0), some (vI x1), some (vI x2)], [vI ((-2))], hp S, 0, 0)) rfl ?_
        obtain ⟨rfl, rfl⟩ := F
        exact ev_ret rfl rfl
      · have F := F.2 c
        refine ev_bk 2 (S' := (18, [some (.ref 0), some (vI x1), some (vI x2)], [vI 16, vI x2], hp S, 0, 0)) rfl ?_
        refine mv_icmp 24 rfl rfl (fun c => ?_) (fun c => ?_)
        · have F := F.1 c
          refine ev_bk 1 (S' := (25, [some (.ref 0), some (vI x1), some (vI x2)], [.ref 0], hp S, 0, 0)) rfl ?_
          refine mv_gfR rfl rfl (sh_0) (by decide) rfl ?_
          refine ev_bk 1 (S' := (29, [some (.ref 0), some (vI x1), some (vI x2)], [.ref 0, .ref 173], hp S, 0, 0)) rfl ?_
          refine mv_gfR rfl rfl (sh_0) (by decide) rfl ?_
          refine ev_bk 2 (S' := (34, [some (.ref 0), some (vI x1), some (vI x2)], [vI x2, vI x1, .ref 1, .ref 173], hp S, 0, 0)) rfl ?_
          obtain ⟨S1, e2, F⟩ := F
          refine mv_calv (as := [.ref 1, vI x1, vI x2]) (rest := []) e2 (sh_173) rfl rfl rfl ⟨rfl, rfl⟩ rfl rfl rfl rfl rfl ?_
          refine ev_bk 1 (S' := (38, [some (.ref 0), some (vI x1), some (vI x2)], [.ref 0], hp S1, 0, 0)) rfl ?_
          refine mv_gfR rfl rfl (sh_0) (by decide) rfl ?_
          refine mv_gfI rfl rfl (sh_173) (by decide) rfl ?_
          obtain ⟨rfl, rfl⟩ := F
          exact ev_ret rfl rfl
        · have F := F.2 c
          refine ev_bk 1 (S' := (23, [some (.ref 0), some (vI x1), some (vI x2)], [vI ((-2))], hp S, 0, 0)) rfl ?_
          obtain ⟨rfl, rfl⟩ := F
          exact ev_ret rfl rfl
theorem vc_PH_part {q : Nat × (Nat → Int32)} {S S' : ms} {r : Option Value} (x1 x2 : Int)
    (F : ∃ (z3 : Int) (S1 : ms), EV q 230 0 [some (.ref 173), some (vI x1), some (vI x2)] [] S (some (vI z3)) S1 ∧ ((¬ w32 z3 = 0) → (0 ≤ w32 x1 ∧ w32 x1 < (48 : Nat)) ∧ ((w32 (S1.1 175 (w32 x1)) = 0) → (0 ≤ w32 ((x1 * (S1.1 173 3)) + x2) ∧ w32 ((x1 * (S1.1 173 3)) + x2) < (102000 : Nat)) ∧ r = some (vI (S1.1 174 (w32 ((x1 * (S1.1 173 3)) + x2)))) ∧ S' = S1) ∧ ((¬ w32 (S1.1 175 (w32 x1)) = 0) → r = some (vI 0) ∧ S' = S1)) ∧ ((¬ (¬ w32 z3 = 0)) → r = some (vI ((-1))) ∧ S' = S1)) : EV q 229 0 [some (.ref 0), some (vI x1), some (vI x2)] [] S r S' := by
  unfold EV
  refine ev_bk 1 (S' := (1, [some (.ref 0), some (vI x1), some (vI x2)], [.ref 0], hp S, 0, 0)) rfl ?_
  refine mv_gfR rfl rfl (sh_0) (by decide) rfl ?_
  refine ev_bk 2 (S' := (6, [some (.ref 0), some (vI x1), some (vI x2)], [vI x2, vI x1, .ref 173], hp S, 0, 0)) rfl ?_
  obtain ⟨z3, S1, e2, F⟩ := F
  refine mv_calv (as := [vI x1, vI x2]) (rest := []) e2 (sh_173) rfl rfl rfl ⟨rfl, rfl⟩ rfl rfl rfl rfl rfl ?_
  refine mv_if 14 rfl rfl (fun c => ?_) (fun c => ?_)
  · have F := F.1 c
    refine ev_bk 1 (S' := (15, [some (.ref 0), some (vI x1), some (vI x2)], [.ref 0], hp S1, 0, 0)) rfl ?_
    refine mv_gfR rfl rfl (sh_0) (by decide) rfl ?_
    refine mv_gfR rfl rfl (sh_173) (by decide) rfl ?_
    refine ev_bk 1 (S' := (22, [some (.ref 0), some (vI x1), some (vI x2)], [vI x1, .ref 175], hp S1, 0, 0)) rfl ?_
    obtain ⟨b4, F⟩ := F
    refine mv_zal rfl (sh_175) b4 ?_
    refine mv_if 30 rfl rfl (fun c => ?_) (fun c => ?_)
    · have F := F.1 c
      refine ev_bk 1 (S' := (31, [some (.ref 0), some (vI x1), some (vI x2)], [.ref 0], hp S1, 0, 0)) rfl ?_
      refine mv_gfR rfl rfl (sh_0) (by decide) rfl ?_
      refine mv_gfR rfl rfl (sh_173) (by decide) rfl ?_
      refine ev_bk 2 (S' := (39, [some (.ref 0), some (vI x1), some (vI x2)], [.ref 0, vI x1, .ref 174], hp S1, 0, 0)) rfl ?_
      refine mv_gfR rfl rfl (sh_0) (by decide) rfl ?_
      refine mv_gfI rfl rfl (sh_173) (by decide) rfl ?_
      refine mv_imul rfl ?_
      refine ev_bk 1 (S' := (47, [some (.ref 0), some (vI x1), some (vI x2)], [vI x2, vI (x1 * (S1.1 173 3)), .ref 174], hp S1, 0, 0)) rfl ?_
      refine mv_iadd rfl ?_
      obtain ⟨b5, F⟩ := F
      refine mv_ial rfl (sh_174) b5 ?_
      obtain ⟨rfl, rfl⟩ := F
      exact ev_ret rfl rfl
    · have F := F.2 c
      refine ev_bk 1 (S' := (27, [some (.ref 0), some (vI x1), some (vI x2)], [vI 0], hp S1, 0, 0)) rfl ?_
      refine mv_goto 49 rfl rfl ?_
      obtain ⟨rfl, rfl⟩ := F
      exact ev_ret rfl rfl
  · have F := F.2 c
    refine ev_bk 1 (S' := (13, [some (.ref 0), some (vI x1), some (vI x2)], [vI ((-1))], hp S1, 0, 0)) rfl ?_
    obtain ⟨rfl, rfl⟩ := F
    exact ev_ret rfl rfl
theorem vc_PH_lose {q : Nat × (Nat → Int32)} {S S' : ms} {r : Option Value} (x1 : Int)
    (F : ∃ (z3 : Int) (S1 : ms), EV q 230 0 [some (.ref 173), some (vI x1), some (vI 0)] [] S (some (vI z3)) S1 ∧ ((¬ w32 z3 = 0) → (0 ≤ w32 x1 ∧ w32 x1 < (48 : Nat)) ∧ (0 ≤ w32 x1 ∧ w32 x1 < (48 : Nat)) ∧ ∀ S6 : ms, S6 = wI S1 175 (w32 x1) (1 % 2) → ((w32 (S1.1 175 (w32 x1)) = 0) → r = some (vI 1) ∧ S' = S6) ∧ ((¬ w32 (S1.1 175 (w32 x1)) = 0) → r = some (vI 0) ∧ S' = S6)) ∧ ((¬ (¬ w32 z3 = 0)) → r = some (vI ((-1))) ∧ S' = S1)) : EV q 231 0 [some (.ref 0), some (vI x1), none] [] S r S' := by
  unfold EV
  refine ev_bk 1 (S' := (1, [some (.ref 0), some (vI x1), none], [.ref 0], hp S, 0, 0)) rfl ?_
  refine mv_gfR rfl rfl (sh_0) (by decide) rfl ?_
  refine ev_bk 2 (S' := (6, [some (.ref 0), some (vI x1), none], [vI 0, vI x1, .ref 173], hp S, 0, 0)) rfl ?_
  obtain ⟨z3, S1, e2, F⟩ := F
  refine mv_calv (as := [vI x1, vI 0]) (rest := []) e2 (sh_173) rfl rfl rfl ⟨rfl, rfl⟩ rfl rfl rfl rfl rfl ?_
  refine mv_if 14 rfl rfl (fun c => ?_) (fun c => ?_)
  · have F := F.1 c
    refine ev_bk 1 (S' := (15, [some (.ref 0), some (vI x1), none], [.ref 0], hp S1, 0, 0)) rfl ?_
    refine mv_gfR rfl rfl (sh_0) (by decide) rfl ?_
    refine mv_gfR rfl rfl (sh_173) (by decide) rfl ?_
    refine ev_bk 1 (S' := (22, [some (.ref 0), some (vI x1), none], [vI x1, .ref 175], hp S1, 0, 0)) rfl ?_
    obtain ⟨b4, F⟩ := F
    refine mv_zal rfl (sh_175) b4 ?_
    refine ev_bk 2 (S' := (25, [some (.ref 0), some (vI x1), some (vI (S1.1 175 (w32 x1)))], [.ref 0], hp S1, 0, 0)) rfl ?_
    refine mv_gfR rfl rfl (sh_0) (by decide) rfl ?_
    refine mv_gfR rfl rfl (sh_173) (by decide) rfl ?_
    refine ev_bk 2 (S' := (33, [some (.ref 0), some (vI x1), some (vI (S1.1 175 (w32 x1)))], [vI 1, vI x1, .ref 175], hp S1, 0, 0)) rfl ?_
    obtain ⟨b5, F⟩ := F
    refine mv_zas rfl (sh_175) b5 ?_
    have F := F _ rfl
    refine ev_bk 1 (S' := (35, [some (.ref 0), some (vI x1), some (vI (S1.1 175 (w32 x1)))], [vI (S1.1 175 (w32 x1))], hp (wI S1 175 (w32 x1) (1 % 2)), 0, 0)) rfl ?_
    refine mv_if 42 rfl rfl (fun c => ?_) (fun c => ?_)
    · have F := F.1 c
      refine ev_bk 1 (S' := (43, [some (.ref 0), some (vI x1), some (vI (S1.1 175 (w32 x1)))], [vI 1], hp (wI S1 175 (w32 x1) (1 % 2)), 0, 0)) rfl ?_
      obtain ⟨rfl, rfl⟩ := F
      exact ev_ret rfl rfl
    · have F := F.2 c
      refine ev_bk 1 (S' := (39, [some (.ref 0), some (vI x1), some (vI (S1.1 175 (w32 x1)))], [vI 0], hp (wI S1 175 (w32 x1) (1 % 2)), 0, 0)) rfl ?_
      refine mv_goto 43 rfl rfl ?_
      obtain ⟨rfl, rfl⟩ := F
      exact ev_ret rfl rfl
  · have F := F.2 c
    refine ev_bk 1 (S' := (13, [some (.ref 0), some (vI x1), none], [vI ((-1))], hp S1, 0, 0)) rfl ?_
    obtain ⟨rfl, rfl⟩ := F
    exact ev_ret rfl rfl
theorem vc_PH_spoil {q : Nat × (Nat → Int32)} {S S' : ms} {r : Option Value} (x1 x2 x3 : Int)
    (F : ∃ (z3 : Int) (S1 : ms), EV q 230 0 [some (.ref 173), some (vI x1), some (vI x2)] [] S (some (vI z3)) S1 ∧ ((¬ w32 z3 = 0) → ((w32 x3 < 0) → r = some (vI ((-2))) ∧ S' = S1) ∧ ((¬ w32 x3 < 0) → ((w32 x3 ≤ 255) → (0 ≤ w32 x1 ∧ w32 x1 < (48 : Nat)) ∧ ((w32 (S1.1 175 (w32 x1)) = 0) → (0 ≤ w32 ((x1 * (S1.1 173 3)) + x2) ∧ w32 ((x1 * (S1.1 173 3)) + x2) < (102000 : Nat)) ∧ (0 ≤ w32 ((x1 * (S1.1 173 3)) + x2) ∧ w32 ((x1 * (S1.1 173 3)) + x2) < (102000 : Nat)) ∧ ∀ S7 : ms, S7 = wI S1 174 (w32 ((x1 * (S1.1 173 3)) + x2)) (bX (S1.1 174 (w32 ((x1 * (S1.1 173 3)) + x2))) x3) → r = some (vI (S1.1 174 (w32 ((x1 * (S1.1 173 3)) + x2)))) ∧ S' = S7) ∧ ((¬ w32 (S1.1 175 (w32 x1)) = 0) → r = some (vI ((-3))) ∧ S' = S1)) ∧ ((¬ w32 x3 ≤ 255) → r = some (vI ((-2))) ∧ S' = S1))) ∧ ((¬ (¬ w32 z3 = 0)) → r = some (vI ((-1))) ∧ S' = S1)) : EV q 232 0 [some (.ref 0), some (vI x1), some (vI x2), some (vI x3), none, none] [] S r S' := by
  unfold EV
  refine ev_bk 1 (S' := (1, [some (.ref 0), some (vI x1), some (vI x2), some (vI x3), none, none], [.ref 0], hp S, 0, 0)) rfl ?_
  refine mv_gfR rfl rfl (sh_0) (by decide) rfl ?_
  refine ev_bk 2 (S' := (6, [some (.ref 0), some (vI x1), some (vI x2), some (vI x3), none, none], [vI x2, vI x1, .ref 173], hp S, 0, 0)) rfl ?_
  obtain ⟨z3, S1, e2, F⟩ := F
  refine mv_calv (as := [vI x1, vI x2]) (rest := []) e2 (sh_173) rfl rfl rfl ⟨rfl, rfl⟩ rfl rfl rfl rfl rfl ?_
  refine mv_if 14 rfl rfl (fun c => ?_) (fun c => ?_)
  · have F := F.1 c
    refine ev_bk 1 (S' := (15, [some (.ref 0), some (vI x1), some (vI x2), some (vI x3), none, none], [vI x3], hp S1, 0, 0)) rfl ?_
    refine mv_if 25 rfl rfl (fun c => ?_) (fun c => ?_)
    · have F := F.1 c
      refine ev_bk 1 (S' := (27, [some (.ref 0), some (vI x1), some (vI x2), some (vI x3), none, none], [vI ((-2))], hp S1, 0, 0)) rfl ?_
      obtain ⟨rfl, rfl⟩ := F
      exact ev_ret rfl rfl
    · have F := F.2 c
      refine ev_bk 2 (S' := (22, [some (.ref 0), some (vI x1), some (vI x2), some (vI x3), none, none], [vI 255, vI x3], hp S1, 0, 0)) rfl ?_
      refine mv_icmp 28 rfl rfl (fun c => ?_) (fun c => ?_)
      · have F := F.1 c
        refine ev_bk 1 (S' := (29, [some (.ref 0), some (vI x1), some (vI x2), some (vI x3), none, none], [.ref 0], hp S1, 0, 0)) rfl ?_
        refine mv_gfR rfl rfl (sh_0) (by decide) rfl ?_
        refine mv_gfR rfl rfl (sh_173) (by decide) rfl ?_
        refine ev_bk 1 (S' := (36, [some (.ref 0), some (vI x1), some (vI x2), some (vI x3), none, none], [vI x1, .ref 175], hp S1, 0, 0)) rfl ?_
        obtain ⟨b4, F⟩ := F
        refine mv_zal rfl (sh_175) b4 ?_
        refine mv_if 43 rfl rfl (fun c => ?_) (fun c => ?_)
        · have F := F.1 c
          refine ev_bk 2 (S' := (45, [some (.ref 0), some (vI x1), some (vI x2), some (vI x3), none, none], [.ref 0, vI x1], hp S1, 0, 0)) rfl ?_
          refine mv_gfR rfl rfl (sh_0) (by decide) rfl ?_
          refine mv_gfI rfl rfl (sh_173) (by decide) rfl ?_
          refine mv_imul rfl ?_
          refine ev_bk 1 (S' := (53, [some (.ref 0), some (vI x1), some (vI x2), some (vI x3), none, none], [vI x2, vI (x1 * (S1.1 173 3))], hp S1, 0, 0)) rfl ?_
          refine mv_iadd rfl ?_
          refine ev_bk 2 (S' := (57, [some (.ref 0), some (vI x1), some (vI x2), some (vI x3), some (vI ((x1 * (S1.1 173 3)) + x2)), none], [.ref 0], hp S1, 0, 0)) rfl ?_
          refine mv_gfR rfl rfl (sh_0) (by decide) rfl ?_
          refine mv_gfR rfl rfl (sh_173) (by decide) rfl ?_
          refine ev_bk 1 (S' := (65, [some (.ref 0), some (vI x1), some (vI x2), some (vI x3), some (vI ((x1 * (S1.1 173 3)) + x2)), none], [vI ((x1 * (S1.1 173 3)) + x2), .ref 174], hp S1, 0, 0)) rfl ?_
          obtain ⟨b5, F⟩ := F
          refine mv_ial rfl (sh_174) b5 ?_
          refine ev_bk 2 (S' := (69, [some (.ref 0), some (vI x1), some (vI x2), some (vI x3), some (vI ((x1 * (S1.1 173 3)) + x2)), some (vI (S1.1 174 (w32 ((x1 * (S1.1 173 3)) + x2))))], [.ref 0], hp S1, 0, 0)) rfl ?_
          refine mv_gfR rfl rfl (sh_0) (by decide) rfl ?_
          refine mv_gfR rfl rfl (sh_173) (by decide) rfl ?_
          refine ev_bk 3 (S' := (80, [some (.ref 0), some (vI x1), some (vI x2), some (vI x3), some (vI ((x1 * (S1.1 173 3)) + x2)), some (vI (S1.1 174 (w32 ((x1 * (S1.1 173 3)) + x2))))], [vI x3, vI (S1.1 174 (w32 ((x1 * (S1.1 173 3)) + x2))), vI ((x1 * (S1.1 173 3)) + x2), .ref 174], hp S1, 0, 0)) rfl ?_
          refine mv_ixor rfl ?_
          obtain ⟨b6, F⟩ := F
          refine mv_ias rfl (sh_174) b6 ?_
          have F := F _ rfl
          refine ev_bk 1 (S' := (84, [some (.ref 0), some (vI x1), some (vI x2), some (vI x3), some (vI ((x1 * (S1.1 173 3)) + x2)), some (vI (S1.1 174 (w32 ((x1 * (S1.1 173 3)) + x2))))], [vI (S1.1 174 (w32 ((x1 * (S1.1 173 3)) + x2)))], hp (wI S1 174 (w32 ((x1 * (S1.1 173 3)) + x2)) (bX (S1.1 174 (w32 ((x1 * (S1.1 173 3)) + x2))) x3)), 0, 0)) rfl ?_
          obtain ⟨rfl, rfl⟩ := F
          exact ev_ret rfl rfl
        · have F := F.2 c
          refine ev_bk 1 (S' := (42, [some (.ref 0), some (vI x1), some (vI x2), some (vI x3), none, none], [vI ((-3))], hp S1, 0, 0)) rfl ?_
          obtain ⟨rfl, rfl⟩ := F
          exact ev_ret rfl rfl
      · have F := F.2 c
        refine ev_bk 1 (S' := (27, [some (.ref 0), some (vI x1), some (vI x2), some (vI x3), none, none], [vI ((-2))], hp S1, 0, 0)) rfl ?_
        obtain ⟨rfl, rfl⟩ := F
        exact ev_ret rfl rfl
  · have F := F.2 c
    refine ev_bk 1 (S' := (13, [some (.ref 0), some (vI x1), some (vI x2), some (vI x3), none, none], [vI ((-1))], hp S1, 0, 0)) rfl ?_
    obtain ⟨rfl, rfl⟩ := F
    exact ev_ret rfl rfl
theorem vc_PH_repair {q : Nat × (Nat → Int32)} {S S' : ms} {r : Option Value}
    (F : ∃ (z3 : Int) (S1 : ms), EV q 230 0 [some (.ref 173), some (vI 0), some (vI 0)] [] S (some (vI z3)) S1 ∧ ((¬ w32 z3 = 0) → ∃ (z6 : Int) (S4 : ms), EV q 234 0 [some (.ref 173), none, none] [] S1 (some (vI z6)) S4 ∧ ((w32 z6 ≤ w32 (S4.1 173 2)) → ∃ (S7 : ms), EV q 235 0 [some (.ref 173), none, none] [] S4 none S7 ∧ r = some (vI z6) ∧ S' = S7) ∧ ((¬ w32 z6 ≤ w32 (S4.1 173 2)) → r = some (vI ((-3))) ∧ S' = S4)) ∧ ((¬ (¬ w32 z3 = 0)) → r = some (vI ((-1))) ∧ S' = S1)) : EV q 233 0 [some (.ref 0), none] [] S r S' := by
  unfold EV
  refine ev_bk 1 (S' := (1, [some (.ref 0), none], [.ref 0], hp S, 0, 0)) rfl ?_
  refine mv_gfR rfl rfl (sh_0) (by decide) rfl ?_
  refine ev_bk 2 (S' := (6, [some (.ref 0), none], [vI 0, vI 0, .ref 173], hp S, 0, 0)) rfl ?_
  obtain ⟨z3, S1, e2, F⟩ := F
  refine mv_calv (as := [vI 0, vI 0]) (rest := []) e2 (sh_173) rfl rfl rfl ⟨rfl, rfl⟩ rfl rfl rfl rfl rfl ?_
  refine mv_if 14 rfl rfl (fun c => ?_) (fun c => ?_)
  · have F := F.1 c
    refine ev_bk 1 (S' := (15, [some (.ref 0), none], [.ref 0], hp S1, 0, 0)) rfl ?_
    refine mv_gfR rfl rfl (sh_0) (by decide) rfl ?_
    obtain ⟨z6, S4, e5, F⟩ := F
    refine mv_calv (as := []) (rest := []) e5 (sh_173) rfl rfl rfl ⟨rfl, rfl⟩ rfl rfl rfl rfl rfl ?_
    refine ev_bk 3 (S' := (24, [some (.ref 0), some (vI z6)], [.ref 0, vI z6], hp S4, 0, 0)) rfl ?_
    refine mv_gfR rfl rfl (sh_0) (by decide) rfl ?_
    refine mv_gfI rfl rfl (sh_173) (by decide) rfl ?_
    refine mv_icmp 36 rfl rfl (fun c => ?_) (fun c => ?_)
    · have F := F.1 c
      refine ev_bk 1 (S' := (37, [some (.ref 0), some (vI z6)], [.ref 0], hp S4, 0, 0)) rfl ?_
      refine mv_gfR rfl rfl (sh_0) (by decide) rfl ?_
      obtain ⟨S7, e8, F⟩ := F
      refine mv_calv (as := []) (rest := []) e8 (sh_173) rfl rfl rfl ⟨rfl, rfl⟩ rfl rfl rfl rfl rfl ?_
      refine ev_bk 1 (S' := (44, [some (.ref 0), some (vI z6)], [vI z6], hp S7, 0, 0)) rfl ?_
      obtain ⟨rfl, rfl⟩ := F
      exact ev_ret rfl rfl
    · have F := F.2 c
      refine ev_bk 1 (S' := (35, [some (.ref 0), some (vI z6)], [vI ((-3))], hp S4, 0, 0)) rfl ?_
      obtain ⟨rfl, rfl⟩ := F
      exact ev_ret rfl rfl
  · have F := F.2 c
    refine ev_bk 1 (S' := (13, [some (.ref 0), none], [vI ((-1))], hp S1, 0, 0)) rfl ?_
    obtain ⟨rfl, rfl⟩ := F
    exact ev_ret rfl rfl
theorem vc_PH_whole {q : Nat × (Nat → Int32)} {S S' : ms} {r : Option Value}
    (F : ∃ (z3 : Int) (S1 : ms), EV q 230 0 [some (.ref 173), some (vI 0), some (vI 0)] [] S (some (vI z3)) S1 ∧ ((¬ w32 z3 = 0) → ∃ (z6 : Int) (S4 : ms), EV q 234 0 [some (.ref 173), none, none] [] S1 (some (vI z6)) S4 ∧ ((w32 (S4.1 173 5) ≤ 0) → ∃ (z9 : Int) (S7 : ms), EV q 212 0 [some (.ref 0), some (.ref 174), some (vI 0), some (vI (S4.1 173 4)), none] [] S4 (some (vI z9)) S7 ∧ r = some (vI z9) ∧ S' = S7) ∧ ((¬ w32 (S4.1 173 5) ≤ 0) → r = some (vI ((-3))) ∧ S' = S4)) ∧ ((¬ (¬ w32 z3 = 0)) → r = some (vI ((-1))) ∧ S' = S1)) : EV q 239 0 [some (.ref 0)] [] S r S' := by
  unfold EV
  refine ev_bk 1 (S' := (1, [some (.ref 0)], [.ref 0], hp S, 0, 0)) rfl ?_
  refine mv_gfR rfl rfl (sh_0) (by decide) rfl ?_
  refine ev_bk 2 (S' := (6, [some (.ref 0)], [vI 0, vI 0, .ref 173], hp S, 0, 0)) rfl ?_
  obtain ⟨z3, S1, e2, F⟩ := F
  refine mv_calv (as := [vI 0, vI 0]) (rest := []) e2 (sh_173) rfl rfl rfl ⟨rfl, rfl⟩ rfl rfl rfl rfl rfl ?_
  refine mv_if 14 rfl rfl (fun c => ?_) (fun c => ?_)
  · have F := F.1 c
    refine ev_bk 1 (S' := (15, [some (.ref 0)], [.ref 0], hp S1, 0, 0)) rfl ?_
    refine mv_gfR rfl rfl (sh_0) (by decide) rfl ?_
    obtain ⟨z6, S4, e5, F⟩ := F
    refine mv_calv (as := []) (rest := []) e5 (sh_173) rfl rfl rfl ⟨rfl, rfl⟩ rfl rfl rfl rfl rfl ?_
    refine ev_bk 2 (S' := (23, [some (.ref 0)], [.ref 0], hp S4, 0, 0)) rfl ?_
    refine mv_gfR rfl rfl (sh_0) (by decide) rfl ?_
    refine mv_gfI rfl rfl (sh_173) (by decide) rfl ?_
    refine mv_if 35 rfl rfl (fun c => ?_) (fun c => ?_)
    · have F := F.1 c
      refine ev_bk 2 (S' := (37, [some (.ref 0)], [.ref 0, .ref 0], hp S4, 0, 0)) rfl ?_
      refine mv_gfR rfl rfl (sh_0) (by decide) rfl ?_
      refine mv_gfR rfl rfl (sh_173) (by decide) rfl ?_
      refine ev_bk 2 (S' := (45, [some (.ref 0)], [.ref 0, vI 0, .ref 174, .ref 0], hp S4, 0, 0)) rfl ?_
      refine mv_gfR rfl rfl (sh_0) (by decide) rfl ?_
      refine mv_gfI rfl rfl (sh_173) (by decide) rfl ?_
      obtain ⟨z9, S7, e8, F⟩ := F
      refine mv_calv (as := [.ref 174, vI 0, vI (S4.1 173 4)]) (rest := []) e8 (sh_0) rfl rfl rfl ⟨rfl, rfl⟩ rfl rfl rfl rfl rfl ?_
      obtain ⟨rfl, rfl⟩ := F
      exact ev_ret rfl rfl
    · have F := F.2 c
      refine ev_bk 1 (S' := (34, [some (.ref 0)], [vI ((-3))], hp S4, 0, 0)) rfl ?_
      obtain ⟨rfl, rfl⟩ := F
      exact ev_ret rfl rfl
  · have F := F.2 c
    refine ev_bk 1 (S' := (13, [some (.ref 0)], [vI ((-1))], hp S1, 0, 0)) rfl ?_
    obtain ⟨rfl, rfl⟩ := F
    exact ev_ret rfl rfl
theorem vc_PH_save {q : Nat × (Nat → Int32)} {S S' : ms} {r : Option Value}
    (F : ((w32 (S.1 184 2) < 8) → ∃ (z3 : Int) (S1 : ms), EV q 241 0 [some (.ref 184), some (.ref 1), none, none, none, none, none, none] [] S (some (vI z3)) S1 ∧ ((w32 z3 = 0) → r = some (vI ((-4))) ∧ S' = S1) ∧ ((¬ w32 z3 = 0) → r = some (vI (S1.1 184 3)) ∧ S' = S1)) ∧ ((¬ w32 (S.1 184 2) < 8) → r = some (vI ((-4))) ∧ S' = S)) : EV q 240 0 [some (.ref 0)] [] S r S' := by
  unfold EV
  refine ev_bk 1 (S' := (1, [some (.ref 0)], [.ref 0], hp S, 0, 0)) rfl ?_
  refine mv_gfR rfl rfl (sh_0) (by decide) rfl ?_
  refine mv_gfI rfl rfl (sh_184) (by decide) rfl ?_
  refine ev_bk 1 (S' := (9, [some (.ref 0)], [vI 8, vI (S.1 184 2)], hp S, 0, 0)) rfl ?_
  refine mv_icmp 15 rfl rfl (fun c => ?_) (fun c => ?_)
  · have F := F.1 c
    refine ev_bk 1 (S' := (16, [some (.ref 0)], [.ref 0], hp S, 0, 0)) rfl ?_
    refine mv_gfR rfl rfl (sh_0) (by decide) rfl ?_
    refine ev_bk 1 (S' := (20, [some (.ref 0)], [.ref 0, .ref 184], hp S, 0, 0)) rfl ?_
    refine mv_gfR rfl rfl (sh_0) (by decide) rfl ?_
    obtain ⟨z3, S1, e2, F⟩ := F
    refine mv_calv (as := [.ref 1]) (rest := []) e2 (sh_184) rfl rfl rfl ⟨rfl, rfl⟩ rfl rfl rfl rfl rfl ?_
    refine mv_if 39 rfl rfl (fun c => ?_) (fun c => ?_)
    · have F := F.1 c
      refine ev_bk 1 (S' := (41, [some (.ref 0)], [vI ((-4))], hp S1, 0, 0)) rfl ?_
      obtain ⟨rfl, rfl⟩ := F
      exact ev_ret rfl rfl
    · have F := F.2 c
      refine ev_bk 1 (S' := (30, [some (.ref 0)], [.ref 0], hp S1, 0, 0)) rfl ?_
      refine mv_gfR rfl rfl (sh_0) (by decide) rfl ?_
      refine mv_gfI rfl rfl (sh_184) (by decide) rfl ?_
      refine mv_goto 41 rfl rfl ?_
      obtain ⟨rfl, rfl⟩ := F
      exact ev_ret rfl rfl
  · have F := F.2 c
    refine ev_bk 1 (S' := (14, [some (.ref 0)], [vI ((-4))], hp S, 0, 0)) rfl ?_
    obtain ⟨rfl, rfl⟩ := F
    exact ev_ret rfl rfl
theorem vc_PH_restore {q : Nat × (Nat → Int32)} {S S' : ms} {r : Option Value} (x1 : Int)
    (F : ∃ (z3 : Int) (S1 : ms), EV q 248 0 [some (.ref 184), some (vI x1), none] [] S (some (vI z3)) S1 ∧ ((0 ≤ w32 z3) → ∃ (z6 : Int) (S4 : ms), EV q 43 0 [some (.ref 0), none] [] S1 (some (vI z6)) S4 ∧ ((¬ w32 z6 = 0) → (0 ≤ w32 z6 ∧ w32 z6 < (13 : Nat)) ∧ ∃ (o8 no8 : Nat), sh_r (SH 3).2.2 (w32 z6).toNat = some o8 ∧ isRow o8 no8 ∧ ∃ (S11 : ms), EV q 37 0 [some (.ref o8)] [] S4 none S11 ∧ (0 ≤ w32 z6 ∧ w32 z6 < (13 : Nat)) ∧ ∃ (o14 no14 : Nat), sh_r (SH 3).2.2 (w32 z6).toNat = some o14 ∧ isRow o14 no14 ∧ ∃ (S17 : ms), EV q 249 0 [some (.ref 184), some (vI z3), some (.ref o14), none, none] [] S11 none S17 ∧ ∃ (z21 : Int) (S19 : ms), EV q 112 0 [some (.ref 0), some (vI z6)] [] S17 (some (vI z21)) S19 ∧ r = some (vI z21) ∧ S' = S19) ∧ ((¬ (¬ w32 z6 = 0)) → r = some (vI ((-4))) ∧ S' = S4)) ∧ ((¬ 0 ≤ w32 z3) → r = some (vI ((-1))) ∧ S' = S1)) : EV q 247 0 [some (.ref 0), some (vI x1), none, none] [] S r S' := by
  unfold EV
  refine ev_bk 1 (S' := (1, [some (.ref 0), some (vI x1), none, none], [.ref 0], hp S, 0, 0)) rfl ?_
  refine mv_gfR rfl rfl (sh_0) (by decide) rfl ?_
  refine ev_bk 1 (S' := (5, [some (.ref 0), some (vI x1), none, none], [vI x1, .ref 184], hp S, 0, 0)) rfl ?_
  obtain ⟨z3, S1, e2, F⟩ := F
  refine mv_calv (as := [vI x1]) (rest := []) e2 (sh_184) rfl rfl rfl ⟨rfl, rfl⟩ rfl rfl rfl rfl rfl ?_
  refine ev_bk 2 (S' := (10, [some (.ref 0), some (vI x1), some (vI z3), none], [vI z3], hp S1, 0, 0)) rfl ?_
  refine mv_if 15 rfl rfl (fun c => ?_) (fun c => ?_)
  · have F := F.1 c
    refine ev_bk 1 (S' := (16, [some (.ref 0), some (vI x1), some (vI z3), none], [.ref 0], hp S1, 0, 0)) rfl ?_
    obtain ⟨z6, S4, e5, F⟩ := F
    refine mv_calv (as := []) (rest := []) e5 (sh_0) rfl rfl rfl ⟨rfl, rfl⟩ rfl rfl rfl rfl rfl ?_
    refine ev_bk 2 (S' := (21, [some (.ref 0), some (vI x1), some (vI z3), some (vI z6)], [vI z6], hp S4, 0, 0)) rfl ?_
    refine mv_if 27 rfl rfl (fun c => ?_) (fun c => ?_)
    · have F := F.1 c
      refine ev_bk 1 (S' := (28, [some (.ref 0), some (vI x1), some (vI z3), some (vI z6)], [.ref 0], hp S4, 0, 0)) rfl ?_
      refine mv_gfR rfl rfl (sh_0) (by decide) rfl ?_
      refine ev_bk 1 (S' := (32, [some (.ref 0), some (vI x1), some (vI z3), some (vI z6)], [vI z6, .ref 3], hp S4, 0, 0)) rfl ?_
      obtain ⟨b7, o8, no8, e10, h9, F⟩ := F
      refine mv_aal rfl (sh_3) (Or.inl rfl) b7 e10 ?_
      obtain ⟨S11, e12, F⟩ := F
      refine mv_calv (as := []) (rest := []) e12 (h9.1) rfl rfl rfl ⟨rfl, rfl⟩ rfl rfl rfl rfl rfl ?_
      refine ev_bk 1 (S' := (37, [some (.ref 0), some (vI x1), some (vI z3), some (vI z6)], [.ref 0], hp S11, 0, 0)) rfl ?_
      refine mv_gfR rfl rfl (sh_0) (by decide) rfl ?_
      refine ev_bk 2 (S' := (42, [some (.ref 0), some (vI x1), some (vI z3), some (vI z6)], [.ref 0, vI z3, .ref 184], hp S11, 0, 0)) rfl ?_
      refine mv_gfR rfl rfl (sh_0) (by decide) rfl ?_
      refine ev_bk 1 (S' := (46, [some (.ref 0), some (vI x1), some (vI z3), some (vI z6)], [vI z6, .ref 3, vI z3, .ref 184], hp S11, 0, 0)) rfl ?_
      obtain ⟨b13, o14, no14, e16, h15, F⟩ := F
      refine mv_aal rfl (sh_3) (Or.inl rfl) b13 e16 ?_
      obtain ⟨S17, e18, F⟩ := F
      refine mv_calv (as := [vI z3, .ref o14]) (rest := []) e18 (sh_184) rfl rfl rfl ⟨rfl, rfl⟩ rfl rfl rfl rfl rfl ?_
      refine ev_bk 2 (S' := (52, [some (.ref 0), some (vI x1), some (vI z3), some (vI z6)], [vI z6, .ref 0], hp S17, 0, 0)) rfl ?_
      obtain ⟨z21, S19, e20, F⟩ := F
      refine mv_calv (as := [vI z6]) (rest := []) e20 (sh_0) rfl rfl rfl ⟨rfl, rfl⟩ rfl rfl rfl rfl rfl ?_
      obtain ⟨rfl, rfl⟩ := F
      exact ev_ret rfl rfl
    · have F := F.2 c
      refine ev_bk 1 (S' := (26, [some (.ref 0), some (vI x1), some (vI z3), some (vI z6)], [vI ((-4))], hp S4, 0, 0)) rfl ?_
      obtain ⟨rfl, rfl⟩ := F
      exact ev_ret rfl rfl
  · have F := F.2 c
    refine ev_bk 1 (S' := (14, [some (.ref 0), some (vI x1), some (vI z3), none], [vI ((-1))], hp S1, 0, 0)) rfl ?_
    obtain ⟨rfl, rfl⟩ := F
    exact ev_ret rfl rfl
theorem vc_PH_forget {q : Nat × (Nat → Int32)} {S S' : ms} {r : Option Value} (x1 : Int)
    (F : ∃ (z3 : Int) (S1 : ms), EV q 248 0 [some (.ref 184), some (vI x1), none] [] S (some (vI z3)) S1 ∧ ((0 ≤ w32 z3) → ∃ (z6 : Int) (S4 : ms), EV q 251 0 [some (.ref 184), some (vI z3), none] [] S1 (some (vI z6)) S4 ∧ r = some (vI z6) ∧ S' = S4) ∧ ((¬ 0 ≤ w32 z3) → r = some (vI ((-1))) ∧ S' = S1)) : EV q 250 0 [some (.ref 0), some (vI x1), none] [] S r S' := by
  unfold EV
  refine ev_bk 1 (S' := (1, [some (.ref 0), some (vI x1), none], [.ref 0], hp S, 0, 0)) rfl ?_
  refine mv_gfR rfl rfl (sh_0) (by decide) rfl ?_
  refine ev_bk 1 (S' := (5, [some (.ref 0), some (vI x1), none], [vI x1, .ref 184], hp S, 0, 0)) rfl ?_
  obtain ⟨z3, S1, e2, F⟩ := F
  refine mv_calv (as := [vI x1]) (rest := []) e2 (sh_184) rfl rfl rfl ⟨rfl, rfl⟩ rfl rfl rfl rfl rfl ?_
  refine ev_bk 2 (S' := (10, [some (.ref 0), some (vI x1), some (vI z3)], [vI z3], hp S1, 0, 0)) rfl ?_
  refine mv_if 17 rfl rfl (fun c => ?_) (fun c => ?_)
  · have F := F.1 c
    refine ev_bk 1 (S' := (18, [some (.ref 0), some (vI x1), some (vI z3)], [.ref 0], hp S1, 0, 0)) rfl ?_
    refine mv_gfR rfl rfl (sh_0) (by decide) rfl ?_
    refine ev_bk 1 (S' := (22, [some (.ref 0), some (vI x1), some (vI z3)], [vI z3, .ref 184], hp S1, 0, 0)) rfl ?_
    obtain ⟨z6, S4, e5, F⟩ := F
    refine mv_calv (as := [vI z3]) (rest := []) e5 (sh_184) rfl rfl rfl ⟨rfl, rfl⟩ rfl rfl rfl rfl rfl ?_
    obtain ⟨rfl, rfl⟩ := F
    exact ev_ret rfl rfl
  · have F := F.2 c
    refine ev_bk 1 (S' := (14, [some (.ref 0), some (vI x1), some (vI z3)], [vI ((-1))], hp S1, 0, 0)) rfl ?_
    refine mv_goto 25 rfl rfl ?_
    obtain ⟨rfl, rfl⟩ := F
    exact ev_ret rfl rfl
theorem vc_PH_shared {q : Nat × (Nat → Int32)} {S S' : ms} {r : Option Value} (x1 x2 : Int)
    (F : ∃ (z3 : Int) (S1 : ms), EV q 248 0 [some (.ref 184), some (vI x1), none] [] S (some (vI z3)) S1 ∧ ∃ (z6 : Int) (S4 : ms), EV q 248 0 [some (.ref 184), some (vI x2), none] [] S1 (some (vI z6)) S4 ∧ ((w32 z3 < 0) → EV q 252 28 [some (.ref 0), some (vI x1), some (vI x2), some (vI z3), some (vI z6)] [] S4 r S') ∧ ((¬ w32 z3 < 0) → ((0 ≤ w32 z6) → ∃ (z9 : Int) (S7 : ms), EV q 253 0 [some (.ref 184), some (vI z3), some (vI z6), none, none] [] S4 (some (vI z9)) S7 ∧ r = some (vI z9) ∧ S' = S7) ∧ ((¬ 0 ≤ w32 z6) → EV q 252 28 [some (.ref 0), some (vI x1), some (vI x2), some (vI z3), some (vI z6)] [] S4 r S'))) : EV q 252 0 [some (.ref 0), some (vI x1), some (vI x2), none, none] [] S r S' := by
  unfold EV
  refine ev_bk 1 (S' := (1, [some (.ref 0), some (vI x1), some (vI x2), none, none], [.ref 0], hp S, 0, 0)) rfl ?_
  refine mv_gfR rfl rfl (sh_0) (by decide) rfl ?_
  refine ev_bk 1 (S' := (5, [some (.ref 0), some (vI x1), some (vI x2), none, none], [vI x1, .ref 184], hp S, 0, 0)) rfl ?_
  obtain ⟨z3, S1, e2, F⟩ := F
  refine mv_calv (as := [vI x1]) (rest := []) e2 (sh_184) rfl rfl rfl ⟨rfl, rfl⟩ rfl rfl rfl rfl rfl ?_
  refine ev_bk 2 (S' := (10, [some (.ref 0), some (vI x1), some (vI x2), some (vI z3), none], [.ref 0], hp S1, 0, 0)) rfl ?_
  refine mv_gfR rfl rfl (sh_0) (by decide) rfl ?_
  refine ev_bk 1 (S' := (14, [some (.ref 0), some (vI x1), some (vI x2), some (vI z3), none], [vI x2, .ref 184], hp S1, 0, 0)) rfl ?_
  obtain ⟨z6, S4, e5, F⟩ := F
  refine mv_calv (as := [vI x2]) (rest := []) e5 (sh_184) rfl rfl rfl ⟨rfl, rfl⟩ rfl rfl rfl rfl rfl ?_
  refine ev_bk 2 (S' := (20, [some (.ref 0), some (vI x1), some (vI x2), some (vI z3), some (vI z6)], [vI z3], hp S4, 0, 0)) rfl ?_
  refine mv_if 28 rfl rfl (fun c => ?_) (fun c => ?_)
  · have F := F.1 c
    exact F
  · have F := F.2 c
    refine ev_bk 1 (S' := (25, [some (.ref 0), some (vI x1), some (vI x2), some (vI z3), some (vI z6)], [vI z6], hp S4, 0, 0)) rfl ?_
    refine mv_if 32 rfl rfl (fun c => ?_) (fun c => ?_)
    · have F := F.1 c
      refine ev_bk 1 (S' := (33, [some (.ref 0), some (vI x1), some (vI x2), some (vI z3), some (vI z6)], [.ref 0], hp S4, 0, 0)) rfl ?_
      refine mv_gfR rfl rfl (sh_0) (by decide) rfl ?_
      refine ev_bk 2 (S' := (39, [some (.ref 0), some (vI x1), some (vI x2), some (vI z3), some (vI z6)], [vI z6, vI z3, .ref 184], hp S4, 0, 0)) rfl ?_
      obtain ⟨z9, S7, e8, F⟩ := F
      refine mv_calv (as := [vI z3, vI z6]) (rest := []) e8 (sh_184) rfl rfl rfl ⟨rfl, rfl⟩ rfl rfl rfl rfl rfl ?_
      obtain ⟨rfl, rfl⟩ := F
      exact ev_ret rfl rfl
    · have F := F.2 c
      exact F
theorem vc_PH_shared_28 {q : Nat × (Nat → Int32)} {S S' : ms} {r : Option Value} (x1 x2 x3 x4 : Int)
    (F : r = some (vI ((-1))) ∧ S' = S) : EV q 252 28 [some (.ref 0), some (vI x1), some (vI x2), some (vI x3), some (vI x4)] [] S r S' := by
  unfold EV
  refine ev_bk 1 (S' := (29, [some (.ref 0), some (vI x1), some (vI x2), some (vI x3), some (vI x4)], [vI ((-1))], hp S, 0, 0)) rfl ?_
  refine mv_goto 42 rfl rfl ?_
  obtain ⟨rfl, rfl⟩ := F
  exact ev_ret rfl rfl
theorem vc_PH_store {q : Nat × (Nat → Int32)} {S S' : ms} {r : Option Value} (x1 : Int)
    (F : ((w32 x1 = 0) → r = some (vI (S.1 184 0)) ∧ S' = S) ∧ ((w32 x1 = 1) → r = some (vI (S.1 184 1)) ∧ S' = S) ∧ ((w32 x1 = 2) → r = some (vI (S.1 184 2)) ∧ S' = S) ∧ ((¬ w32 x1 = 0) → (¬ w32 x1 = 1) → (¬ w32 x1 = 2) → r = some (vI ((-2))) ∧ S' = S)) : EV q 254 0 [some (.ref 0), some (vI x1)] [] S r S' := by
  unfold EV
  refine ev_bk 1 (S' := (1, [some (.ref 0), some (vI x1)], [vI x1], hp S, 0, 0)) rfl ?_
  by_cases d0 : w32 x1 < 0
  · have F := F.2.2.2 (ts_lo d0 (by decide)) (ts_lo d0 (by decide)) (ts_lo d0 (by decide))
    refine mv_tout 52 (Or.inl d0) rfl rfl ?_
    refine ev_bk 1 (S' := (54, [some (.ref 0), some (vI x1)], [vI ((-2))], hp S, 0, 0)) rfl ?_
    obtain ⟨rfl, rfl⟩ := F
    exact ev_ret rfl rfl
  by_cases d1 : w32 x1 < 1
  · have e := ts_eq d0 d1
    have F := F.1 e
    refine mv_tin 28 0 e rfl (by decide) rfl rfl ?_
    refine ev_bk 1 (S' := (29, [some (.ref 0), some (vI x1)], [.ref 0], hp S, 0, 0)) rfl ?_
    refine mv_gfR rfl rfl (sh_0) (by decide) rfl ?_
    refine mv_gfI rfl rfl (sh_184) (by decide) rfl ?_
    obtain ⟨rfl, rfl⟩ := F
    exact ev_ret rfl rfl
  by_cases d2 : w32 x1 < 2
  · have e := ts_eq d1 d2
    have F := F.2.1 e
    refine mv_tin 36 1 e rfl (by decide) rfl rfl ?_
    refine ev_bk 1 (S' := (37, [some (.ref 0), some (vI x1)], [.ref 0], hp S, 0, 0)) rfl ?_
    refine mv_gfR rfl rfl (sh_0) (by decide) rfl ?_
    refine mv_gfI rfl rfl (sh_184) (by decide) rfl ?_
    obtain ⟨rfl, rfl⟩ := F
    exact ev_ret rfl rfl
  by_cases d3 : w32 x1 < 3
  · have e := ts_eq d2 d3
    have F := F.2.2.1 e
    refine mv_tin 44 2 e rfl (by decide) rfl rfl ?_
    refine ev_bk 1 (S' := (45, [some (.ref 0), some (vI x1)], [.ref 0], hp S, 0, 0)) rfl ?_
    refine mv_gfR rfl rfl (sh_0) (by decide) rfl ?_
    refine mv_gfI rfl rfl (sh_184) (by decide) rfl ?_
    obtain ⟨rfl, rfl⟩ := F
    exact ev_ret rfl rfl
  have F := F.2.2.2 (ts_hi d3 (by decide)) (ts_hi d3 (by decide)) (ts_hi d3 (by decide))
  refine mv_tout 52 (Or.inr (ts_gt (hi := 2) d3)) rfl rfl ?_
  refine ev_bk 1 (S' := (54, [some (.ref 0), some (vI x1)], [vI ((-2))], hp S, 0, 0)) rfl ?_
  obtain ⟨rfl, rfl⟩ := F
  exact ev_ret rfl rfl
