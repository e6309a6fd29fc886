/-! what is to be shown of each method, by program (wip/gen/vcall.py) -/
theorem vc_Blocks_headOut {q : Nat × (Nat → Int32)} {S S' : ms} {r : Option Value} (x1 x2 : Int) (a3 na3 : Nat) (ha3 : isRow a3 na3)
    (F : ((¬ w32 x1 = 4) → ((¬ w32 x1 = 5) → r = none ∧ S' = S) ∧ ((¬ (¬ w32 x1 = 5)) → ∃ (S1 : ms), EV q 18 0 [some (.ref a3), some (vL 529205248), none, some (vI 4), none] [] S none S1 ∧ ∃ (S3 : ms), EV q 18 0 [some (.ref a3), some (vL 255), none, some (vI 6), none] [] S1 none S3 ∧ r = none ∧ S' = S3)) ∧ ((¬ (¬ w32 x1 = 4)) → ∃ (S5 : ms), EV q 18 0 [some (.ref a3), some (vL (w32 ((30720 + ((min (w32 x2) (w32 3)) * 64)) + (Int.tmod (w32 (31 - (Int.tmod (w32 (30720 + ((min (w32 x2) (w32 3)) * 64))) (w32 31)))) (w32 31))))), none, some (vI 2), none] [] S none S5 ∧ r = none ∧ S' = S5)) : EV q 54 0 [some (.ref 30), some (vI x1), some (vI x2), some (.ref a3), none] [] S r S' := by
  unfold EV
  refine ev_bk 2 (S' := (2, [some (.ref 30), some (vI x1), some (vI x2), some (.ref a3), none], [vI 4, vI x1], hp S, 0, 0)) rfl ?_
  refine mv_icmp 42 rfl rfl (fun c => ?_) (fun c => ?_)
  · have F := F.1 c
    refine ev_bk 2 (S' := (44, [some (.ref 30), some (vI x1), some (vI x2), some (.ref a3), none], [vI 5, vI x1], hp S, 0, 0)) rfl ?_
    refine mv_icmp 64 rfl rfl (fun c => ?_) (fun c => ?_)
    · have F := F.1 c
      obtain ⟨rfl, rfl⟩ := F
      exact ev_ret rfl rfl
    · have F := F.2 c
      refine ev_bk 3 (S' := (52, [some (.ref 30), some (vI x1), some (vI x2), some (.ref a3), none], [vI 4, vL 529205248, .ref a3], hp S, 0, 0)) rfl ?_
      obtain ⟨S1, e2, F⟩ := F
      refine mv_calv (as := [vL 529205248, vI 4]) (rest := []) e2 (ha3.1) rfl rfl rfl ⟨rfl, rfl⟩ rfl rfl rfl rfl rfl ?_
      refine ev_bk 3 (S' := (61, [some (.ref 30), some (vI x1), some (vI x2), some (.ref a3), none], [vI 6, vL 255, .ref a3], hp S1, 0, 0)) rfl ?_
      obtain ⟨S3, e4, F⟩ := F
      refine mv_calv (as := [vL 255, vI 6]) (rest := []) e4 (ha3.1) rfl rfl rfl ⟨rfl, rfl⟩ rfl rfl rfl rfl rfl ?_
      obtain ⟨rfl, rfl⟩ := F
      exact ev_ret rfl rfl
  · have F := F.2 c
    refine ev_bk 3 (S' := (10, [some (.ref 30), some (vI x1), some (vI x2), some (.ref a3), none], [vI 3, vI x2, vI 30720], hp S, 0, 0)) rfl ?_
    refine mv_min rfl rfl rfl ?_
    refine ev_bk 1 (S' := (15, [some (.ref 30), some (vI x1), some (vI x2), some (.ref a3), none], [vI 64, vI (min (w32 x2) (w32 3)), vI 30720], hp S, 0, 0)) rfl ?_
    refine mv_imul rfl ?_
    refine mv_iadd rfl ?_
    refine ev_bk 6 (S' := (28, [some (.ref 30), some (vI x1), some (vI x2), some (.ref a3), some (vI (30720 + ((min (w32 x2) (w32 3)) * 64)))], [vI 31, vI (30720 + ((min (w32 x2) (w32 3)) * 64)), vI 31, vI (30720 + ((min (w32 x2) (w32 3)) * 64)), .ref a3], hp S, 0, 0)) rfl ?_
    refine mv_irem (by decide) rfl ?_
    refine mv_isub rfl ?_
    refine ev_bk 1 (S' := (32, [some (.ref 30), some (vI x1), some (vI x2), some (.ref a3), some (vI (30720 + ((min (w32 x2) (w32 3)) * 64)))], [vI 31, vI (31 - (Int.tmod (w32 (30720 + ((min (w32 x2) (w32 3)) * 64))) (w32 31))), vI (30720 + ((min (w32 x2) (w32 3)) * 64)), .ref a3], hp S, 0, 0)) rfl ?_
    refine mv_irem (by decide) rfl ?_
    refine mv_iadd rfl ?_
    refine mv_i2l rfl ?_
    refine ev_bk 1 (S' := (36, [some (.ref 30), some (vI x1), some (vI x2), some (.ref a3), some (vI (30720 + ((min (w32 x2) (w32 3)) * 64)))], [vI 2, vL (w32 ((30720 + ((min (w32 x2) (w32 3)) * 64)) + (Int.tmod (w32 (31 - (Int.tmod (w32 (30720 + ((min (w32 x2) (w32 3)) * 64))) (w32 31)))) (w32 31)))), .ref a3], hp S, 0, 0)) rfl ?_
    obtain ⟨S5, e6, F⟩ := F
    refine mv_calv (as := [vL (w32 ((30720 + ((min (w32 x2) (w32 3)) * 64)) + (Int.tmod (w32 (31 - (Int.tmod (w32 (30720 + ((min (w32 x2) (w32 3)) * 64))) (w32 31)))) (w32 31)))), vI 2]) (rest := []) e6 (ha3.1) rfl rfl rfl ⟨rfl, rfl⟩ rfl rfl rfl rfl rfl ?_
    refine mv_goto 64 rfl rfl ?_
    obtain ⟨rfl, rfl⟩ := F
    exact ev_ret rfl rfl
theorem vc_Blocks_packAll {q : Nat × (Nat → Int32)} {S S' : ms} {r : Option Value} (x2 : Int) (a1 na1 : Nat) (ha1 : isRow a1 na1) (a3 na3 : Nat) (ha3 : isRow a3 na3)
    (F : ((w32 x2 = 0) → ∃ (S5 : ms), EV q 56 0 [some (.ref a1), some (.ref a3), none, none, none, none] [] S none S5 ∧ EV q 55 132 [some (.ref 30), some (.ref a1), some (vI x2), some (.ref a3), some (vI (S.1 a3 1)), none] [] S5 r S') ∧ ((w32 x2 = 1) → ∃ (S7 : ms), EV q 58 0 [some (.ref 10), some (.ref a1), some (vI 3), some (vI 258), some (vI 0), none, none, none] [] S none S7 ∧ ∃ (S9 : ms), EV q 64 0 [some (.ref 30), some (.ref a1), some (.ref a3)] [] S7 none S9 ∧ EV q 55 132 [some (.ref 30), some (.ref a1), some (vI x2), some (.ref a3), some (vI (S.1 a3 1)), none] [] S9 r S') ∧ ((w32 x2 = 2) → ∃ (S11 : ms), EV q 67 0 [some (.ref 10), some (.ref a1), none, none, none, none, none] [] S none S11 ∧ ∃ (S13 : ms), EV q 68 0 [some (.ref 30), some (.ref a1), some (vI 0), some (vI (S11.1 10 8)), some (vI 1), some (.ref a3), none, none, none, none] [] S11 none S13 ∧ EV q 55 132 [some (.ref 30), some (.ref a1), some (vI x2), some (.ref a3), some (vI (S.1 a3 1)), none] [] S13 r S') ∧ ((w32 x2 = 3) → ∃ (S15 : ms), EV q 79 0 [some (.ref 10), some (.ref a1), some (.ref 93), none, none, none] [] S none S15 ∧ ∃ (S17 : ms), EV q 64 0 [some (.ref 30), some (.ref a1), some (.ref a3)] [] S15 none S17 ∧ EV q 55 132 [some (.ref 30), some (.ref a1), some (vI x2), some (.ref a3), some (vI (S.1 a3 1)), none] [] S17 r S') ∧ ((¬ w32 x2 = 0) → (¬ w32 x2 = 1) → (¬ w32 x2 = 2) → (¬ w32 x2 = 3) → ∃ (S1 : ms), EV q 58 0 [some (.ref 10), some (.ref a1), some (vI 3), some (vI 258), some (vI 1), none, none, none] [] S none S1 ∧ ∃ (S3 : ms), EV q 82 0 [some (.ref 30), some (.ref a1), some (.ref a3), none, none, none, none] [] S1 none S3 ∧ EV q 55 132 [some (.ref 30), some (.ref a1), some (vI x2), some (.ref a3), some (vI (S.1 a3 1)), none] [] S3 r S')) : EV q 55 0 [some (.ref 30), some (.ref a1), some (vI x2), some (.ref a3), none, none] [] S r S' := by
  unfold EV
  refine ev_bk 1 (S' := (1, [some (.ref 30), some (.ref a1), some (vI x2), some (.ref a3), none, none], [.ref a3], hp S, 0, 0)) rfl ?_
  refine mv_gfI rfl rfl (ha3.1) (by decide) rfl ?_
  refine ev_bk 2 (S' := (7, [some (.ref 30), some (.ref a1), some (vI x2), some (.ref a3), some (vI (S.1 a3 1)), none], [vI x2], hp S, 0, 0)) rfl ?_
  by_cases d0 : w32 x2 < 0
  · have F := F.2.2.2.2 (ts_lo d0 (by decide)) (ts_lo d0 (by decide)) (ts_lo d0 (by decide)) (ts_lo d0 (by decide))
    refine mv_tout 113 (Or.inl d0) rfl rfl ?_
    refine ev_bk 1 (S' := (114, [some (.ref 30), some (.ref a1), some (vI x2), some (.ref a3), some (vI (S.1 a3 1)), none], [.ref 30], hp S, 0, 0)) rfl ?_
    refine mv_gfR rfl rfl (sh_30) (by decide) rfl ?_
    refine ev_bk 4 (S' := (123, [some (.ref 30), some (.ref a1), some (vI x2), some (.ref a3), some (vI (S.1 a3 1)), none], [vI 1, vI 258, vI 3, .ref a1, .ref 10], hp S, 0, 0)) rfl ?_
    obtain ⟨S1, e2, F⟩ := F
    refine mv_calv (as := [.ref a1, vI 3, vI 258, vI 1]) (rest := []) e2 (sh_10) rfl rfl rfl ⟨rfl, rfl⟩ rfl rfl rfl rfl rfl ?_
    refine ev_bk 3 (S' := (129, [some (.ref 30), some (.ref a1), some (vI x2), some (.ref a3), some (vI (S.1 a3 1)), none], [.ref a3, .ref a1, .ref 30], hp S1, 0, 0)) rfl ?_
    obtain ⟨S3, e4, F⟩ := F
    refine mv_calv (as := [.ref a1, .ref a3]) (rest := []) e4 (sh_30) rfl rfl rfl ⟨rfl, rfl⟩ rfl rfl rfl rfl rfl ?_
    exact F
  by_cases d1 : w32 x2 < 1
  · have e := ts_eq d0 d1
    have F := F.1 e
    refine mv_tin 36 0 e rfl (by decide) rfl rfl ?_
    refine ev_bk 2 (S' := (38, [some (.ref 30), some (.ref a1), some (vI x2), some (.ref a3), some (vI (S.1 a3 1)), none], [.ref a3, .ref a1], hp S, 0, 0)) rfl ?_
    obtain ⟨S5, e6, F⟩ := F
    refine mv_cals (as := [.ref a1, .ref a3]) (rest := []) e6 rfl rfl rfl ⟨rfl, rfl, rfl⟩ rfl rfl rfl rfl ?_
    refine mv_goto 132 rfl rfl ?_
    exact F
  by_cases d2 : w32 x2 < 2
  · have e := ts_eq d1 d2
    have F := F.2.1 e
    refine mv_tin 44 1 e rfl (by decide) rfl rfl ?_
    refine ev_bk 1 (S' := (45, [some (.ref 30), some (.ref a1), some (vI x2), some (.ref a3), some (vI (S.1 a3 1)), none], [.ref 30], hp S, 0, 0)) rfl ?_
    refine mv_gfR rfl rfl (sh_30) (by decide) rfl ?_
    refine ev_bk 4 (S' := (54, [some (.ref 30), some (.ref a1), some (vI x2), some (.ref a3), some (vI (S.1 a3 1)), none], [vI 0, vI 258, vI 3, .ref a1, .ref 10], hp S, 0, 0)) rfl ?_
    obtain ⟨S7, e8, F⟩ := F
    refine mv_calv (as := [.ref a1, vI 3, vI 258, vI 0]) (rest := []) e8 (sh_10) rfl rfl rfl ⟨rfl, rfl⟩ rfl rfl rfl rfl rfl ?_
    refine ev_bk 3 (S' := (60, [some (.ref 30), some (.ref a1), some (vI x2), some (.ref a3), some (vI (S.1 a3 1)), none], [.ref a3, .ref a1, .ref 30], hp S7, 0, 0)) rfl ?_
    obtain ⟨S9, e10, F⟩ := F
    refine mv_calv (as := [.ref a1, .ref a3]) (rest := []) e10 (sh_30) rfl rfl rfl ⟨rfl, rfl⟩ rfl rfl rfl rfl rfl ?_
    refine mv_goto 132 rfl rfl ?_
    exact F
  by_cases d3 : w32 x2 < 3
  · have e := ts_eq d2 d3
    have F := F.2.2.1 e
    refine mv_tin 66 2 e rfl (by decide) rfl rfl ?_
    refine ev_bk 1 (S' := (67, [some (.ref 30), some (.ref a1), some (vI x2), some (.ref a3), some (vI (S.1 a3 1)), none], [.ref 30], hp S, 0, 0)) rfl ?_
    refine mv_gfR rfl rfl (sh_30) (by decide) rfl ?_
    refine ev_bk 1 (S' := (71, [some (.ref 30), some (.ref a1), some (vI x2), some (.ref a3), some (vI (S.1 a3 1)), none], [.ref a1, .ref 10], hp S, 0, 0)) rfl ?_
    obtain ⟨S11, e12, F⟩ := F
    refine mv_calv (as := [.ref a1]) (rest := []) e12 (sh_10) rfl rfl rfl ⟨rfl, rfl⟩ rfl rfl rfl rfl rfl ?_
    refine ev_bk 4 (S' := (78, [some (.ref 30), some (.ref a1), some (vI x2), some (.ref a3), some (vI (S.1 a3 1)), none], [.ref 30, vI 0, .ref a1, .ref 30], hp S11, 0, 0)) rfl ?_
    refine mv_gfR rfl rfl (sh_30) (by decide) rfl ?_
    refine mv_gfI rfl rfl (sh_10) (by decide) rfl ?_
    refine ev_bk 2 (S' := (86, [some (.ref 30), some (.ref a1), some (vI x2), some (.ref a3), some (vI (S.1 a3 1)), none], [.ref a3, vI 1, vI (S11.1 10 8), vI 0, .ref a1, .ref 30], hp S11, 0, 0)) rfl ?_
    obtain ⟨S13, e14, F⟩ := F
    refine mv_calv (as := [.ref a1, vI 0, vI (S11.1 10 8), vI 1, .ref a3]) (rest := []) e14 (sh_30) rfl rfl rfl ⟨rfl, rfl⟩ rfl rfl rfl rfl rfl ?_
    refine mv_goto 132 rfl rfl ?_
    exact F
  by_cases d4 : w32 x2 < 4
  · have e := ts_eq d3 d4
    have F := F.2.2.2.1 e
    refine mv_tin 92 3 e rfl (by decide) rfl rfl ?_
    refine ev_bk 1 (S' := (93, [some (.ref 30), some (.ref a1), some (vI x2), some (.ref a3), some (vI (S.1 a3 1)), none], [.ref 30], hp S, 0, 0)) rfl ?_
    refine mv_gfR rfl rfl (sh_30) (by decide) rfl ?_
    refine ev_bk 2 (S' := (98, [some (.ref 30), some (.ref a1), some (vI x2), some (.ref a3), some (vI (S.1 a3 1)), none], [.ref 30, .ref a1, .ref 10], hp S, 0, 0)) rfl ?_
    refine mv_gfR rfl rfl (sh_30) (by decide) rfl ?_
    obtain ⟨S15, e16, F⟩ := F
    refine mv_calv (as := [.ref a1, .ref 93]) (rest := []) e16 (sh_10) rfl rfl rfl ⟨rfl, rfl⟩ rfl rfl rfl rfl rfl ?_
    refine ev_bk 3 (S' := (107, [some (.ref 30), some (.ref a1), some (vI x2), some (.ref a3), some (vI (S.1 a3 1)), none], [.ref a3, .ref a1, .ref 30], hp S15, 0, 0)) rfl ?_
    obtain ⟨S17, e18, F⟩ := F
    refine mv_calv (as := [.ref a1, .ref a3]) (rest := []) e18 (sh_30) rfl rfl rfl ⟨rfl, rfl⟩ rfl rfl rfl rfl rfl ?_
    refine mv_goto 132 rfl rfl ?_
    exact F
  have F := F.2.2.2.2 (ts_hi d4 (by decide)) (ts_hi d4 (by decide)) (ts_hi d4 (by decide)) (ts_hi d4 (by decide))
  refine mv_tout 113 (Or.inr (ts_gt (hi := 3) d4)) rfl rfl ?_
  refine ev_bk 1 (S' := (114, [some (.ref 30), some (.ref a1), some (vI x2), some (.ref a3), some (vI (S.1 a3 1)), none], [.ref 30], hp S, 0, 0)) rfl ?_
  refine mv_gfR rfl rfl (sh_30) (by decide) rfl ?_
  refine ev_bk 4 (S' := (123, [some (.ref 30), some (.ref a1), some (vI x2), some (.ref a3), some (vI (S.1 a3 1)), none], [vI 1, vI 258, vI 3, .ref a1, .ref 10], hp S, 0, 0)) rfl ?_
  obtain ⟨S1, e2, F⟩ := F
  refine mv_calv (as := [.ref a1, vI 3, vI 258, vI 1]) (rest := []) e2 (sh_10) rfl rfl rfl ⟨rfl, rfl⟩ rfl rfl rfl rfl rfl ?_
  refine ev_bk 3 (S' := (129, [some (.ref 30), some (.ref a1), some (vI x2), some (.ref a3), some (vI (S.1 a3 1)), none], [.ref a3, .ref a1, .ref 30], hp S1, 0, 0)) rfl ?_
  obtain ⟨S3, e4, F⟩ := F
  refine mv_calv (as := [.ref a1, .ref a3]) (rest := []) e4 (sh_30) rfl rfl rfl ⟨rfl, rfl⟩ rfl rfl rfl rfl rfl ?_
  exact F
theorem vc_Blocks_packAll_132 {q : Nat × (Nat → Int32)} {S S' : ms} {r : Option Value} (x2 x4 : Int) (a1 na1 : Nat) (ha1 : isRow a1 na1) (a3 na3 : Nat) (ha3 : isRow a3 na3)
    (F : ∃ (S1 : ms), EV q 53 0 [some (.ref a3)] [] S none S1 ∧ r = some (vI ((((S.1 a3 1) - x4) * 8) - (S.1 a3 3))) ∧ S' = S1) : EV q 55 132 [some (.ref 30), some (.ref a1), some (vI x2), some (.ref a3), some (vI x4), none] [] S r S' := by
  unfold EV
  refine ev_bk 1 (S' := (133, [some (.ref 30), some (.ref a1), some (vI x2), some (.ref a3), some (vI x4), none], [.ref a3], hp S, 0, 0)) rfl ?_
  refine mv_gfI rfl rfl (ha3.1) (by decide) rfl ?_
  refine ev_bk 1 (S' := (138, [some (.ref 30), some (.ref a1), some (vI x2), some (.ref a3), some (vI x4), none], [vI x4, vI (S.1 a3 1)], hp S, 0, 0)) rfl ?_
  refine mv_isub rfl ?_
  refine ev_bk 1 (S' := (141, [some (.ref 30), some (.ref a1), some (vI x2), some (.ref a3), some (vI x4), none], [vI 8, vI ((S.1 a3 1) - x4)], hp S, 0, 0)) rfl ?_
  refine mv_imul rfl ?_
  refine ev_bk 1 (S' := (143, [some (.ref 30), some (.ref a1), some (vI x2), some (.ref a3), some (vI x4), none], [.ref a3, vI (((S.1 a3 1) - x4) * 8)], hp S, 0, 0)) rfl ?_
  refine mv_gfI rfl rfl (ha3.1) (by decide) rfl ?_
  refine mv_isub rfl ?_
  refine ev_bk 2 (S' := (150, [some (.ref 30), some (.ref a1), some (vI x2), some (.ref a3), some (vI x4), some (vI ((((S.1 a3 1) - x4) * 8) - (S.1 a3 3)))], [.ref a3], hp S, 0, 0)) rfl ?_
  obtain ⟨S1, e2, F⟩ := F
  refine mv_calv (as := []) (rest := []) e2 (ha3.1) rfl rfl rfl ⟨rfl, rfl⟩ rfl rfl rfl rfl rfl ?_
  refine ev_bk 1 (S' := (155, [some (.ref 30), some (.ref a1), some (vI x2), some (.ref a3), some (vI x4), some (vI ((((S.1 a3 1) - x4) * 8) - (S.1 a3 3)))], [vI ((((S.1 a3 1) - x4) * 8) - (S.1 a3 3))], hp S1, 0, 0)) rfl ?_
  obtain ⟨rfl, rfl⟩ := F
  exact ev_ret rfl rfl
theorem vc_Blocks_storedBlocks {q : Nat × (Nat → Int32)} {S S' : ms} {r : Option Value} (a0 na0 : Nat) (ha0 : isRow a0 na0) (a1 na1 : Nat) (ha1 : isRow a1 na1)
    (F : EV q 56 21 [some (.ref a0), some (.ref a1), some (vI (max (w32 1) (w32 (Int.tdiv (w32 ((S.1 a0 1 + 1000) - 1)) (w32 1000))))), some (vI 0), none, none] [] S r S') : EV q 56 0 [some (.ref a0), some (.ref a1), none, none, none, none] [] S r S' := by
  unfold EV
  refine ev_bk 2 (S' := (2, [some (.ref a0), some (.ref a1), none, none, none, none], [.ref a0, vI 1], hp S, 0, 0)) rfl ?_
  refine mv_gfI rfl rfl (ha0.1) (by decide) rfl ?_
  refine ev_bk 1 (S' := (8, [some (.ref a0), some (.ref a1), none, none, none, none], [vI 1000, vI (S.1 a0 1), vI 1], hp S, 0, 0)) rfl ?_
  refine mv_iadd rfl ?_
  refine ev_bk 1 (S' := (10, [some (.ref a0), some (.ref a1), none, none, none, none], [vI 1, vI (S.1 a0 1 + 1000), vI 1], hp S, 0, 0)) rfl ?_
  refine mv_isub rfl ?_
  refine ev_bk 1 (S' := (14, [some (.ref a0), some (.ref a1), none, none, none, none], [vI 1000, vI ((S.1 a0 1 + 1000) - 1), vI 1], hp S, 0, 0)) rfl ?_
  refine mv_idiv (by decide) rfl ?_
  refine mv_max rfl rfl rfl ?_
  refine ev_bk 3 (S' := (21, [some (.ref a0), some (.ref a1), some (vI (max (w32 1) (w32 (Int.tdiv (w32 ((S.1 a0 1 + 1000) - 1)) (w32 1000))))), some (vI 0), none, none], [], hp S, 0, 0)) rfl ?_
  exact F
theorem vc_Blocks_storedBlocks_21 {q : Nat × (Nat → Int32)} {S S' : ms} {r : Option Value} (x2 x3 : Int) (a0 na0 : Nat) (ha0 : isRow a0 na0) (a1 na1 : Nat) (ha1 : isRow a1 na1)
    (F : ((w32 x2 ≤ w32 x3) → r = none ∧ S' = S) ∧ ((¬ w32 x2 ≤ w32 x3) → ((¬ w32 x3 = w32 (x2 - 1)) → EV q 56 61 [some (.ref a0), some (.ref a1), some (vI x2), some (vI x3), some (vI (x3 * 1000)), some (vI (min (w32 (S.1 a0 1)) (w32 ((x3 * 1000) + 1000))))] [vI 0, .ref a1] S r S') ∧ ((¬ (¬ w32 x3 = w32 (x2 - 1))) → EV q 56 61 [some (.ref a0), some (.ref a1), some (vI x2), some (vI x3), some (vI (x3 * 1000)), some (vI (min (w32 (S.1 a0 1)) (w32 ((x3 * 1000) + 1000))))] [vI 1, .ref a1] S r S'))) : EV q 56 21 [some (.ref a0), some (.ref a1), some (vI x2), some (vI x3), none, none] [] S r S' := by
  unfold EV
  refine ev_bk 2 (S' := (23, [some (.ref a0), some (.ref a1), some (vI x2), some (vI x3), none, none], [vI x2, vI x3], hp S, 0, 0)) rfl ?_
  refine mv_icmp 111 rfl rfl (fun c => ?_) (fun c => ?_)
  · have F := F.1 c
    obtain ⟨rfl, rfl⟩ := F
    exact ev_ret rfl rfl
  · have F := F.2 c
    refine ev_bk 2 (S' := (30, [some (.ref a0), some (.ref a1), some (vI x2), some (vI x3), none, none], [vI 1000, vI x3], hp S, 0, 0)) rfl ?_
    refine mv_imul rfl ?_
    refine ev_bk 2 (S' := (34, [some (.ref a0), some (.ref a1), some (vI x2), some (vI x3), some (vI (x3 * 1000)), none], [.ref a0], hp S, 0, 0)) rfl ?_
    refine mv_gfI rfl rfl (ha0.1) (by decide) rfl ?_
    refine ev_bk 2 (S' := (42, [some (.ref a0), some (.ref a1), some (vI x2), some (vI x3), some (vI (x3 * 1000)), none], [vI 1000, vI (x3 * 1000), vI (S.1 a0 1)], hp S, 0, 0)) rfl ?_
    refine mv_iadd rfl ?_
    refine mv_min rfl rfl rfl ?_
    refine ev_bk 5 (S' := (52, [some (.ref a0), some (.ref a1), some (vI x2), some (vI x3), some (vI (x3 * 1000)), some (vI (min (w32 (S.1 a0 1)) (w32 ((x3 * 1000) + 1000))))], [vI 1, vI x2, vI x3, .ref a1], hp S, 0, 0)) rfl ?_
    refine mv_isub rfl ?_
    refine mv_icmp 60 rfl rfl (fun c => ?_) (fun c => ?_)
    · have F := F.1 c
      refine ev_bk 1 (S' := (61, [some (.ref a0), some (.ref a1), some (vI x2), some (vI x3), some (vI (x3 * 1000)), some (vI (min (w32 (S.1 a0 1)) (w32 ((x3 * 1000) + 1000))))], [vI 0, .ref a1], hp S, 0, 0)) rfl ?_
      exact F
    · have F := F.2 c
      refine ev_bk 1 (S' := (57, [some (.ref a0), some (.ref a1), some (vI x2), some (vI x3), some (vI (x3 * 1000)), some (vI (min (w32 (S.1 a0 1)) (w32 ((x3 * 1000) + 1000))))], [vI 1, .ref a1], hp S, 0, 0)) rfl ?_
      refine mv_goto 61 rfl rfl ?_
      exact F
theorem vc_Blocks_storedBlocks_61 {q : Nat × (Nat → Int32)} {S S' : ms} {r : Option Value} (x2 x3 x4 x5 y0 : Int) (a0 na0 : Nat) (ha0 : isRow a0 na0) (a1 na1 : Nat) (ha1 : isRow a1 na1) (c1 nc1 : Nat) (hc1 : isRow c1 nc1)
    (F : ∃ (S1 : ms), EV q 49 0 [some (.ref c1), some (vI y0), some (vI 3), none, none, none, none, none] [] S none S1 ∧ ∃ (S3 : ms), EV q 53 0 [some (.ref a1)] [] S1 none S3 ∧ ∃ (S5 : ms), EV q 57 0 [some (.ref a1), some (vL (w32 (x5 - x4))), none, some (vI 2), none] [] S3 none S5 ∧ ∃ (S7 : ms), EV q 57 0 [some (.ref a1), some (vL (w32 (-(x5 - x4) - 1))), none, some (vI 2), none] [] S5 none S7 ∧ ∃ (S9 : ms), EV q 38 0 [some (.ref a1), some (.ref (a0 + 1)), some (vI x4), some (vI x5), none] [] S7 none S9 ∧ EV q 56 21 [some (.ref a0), some (.ref a1), some (vI x2), some (vI (x3 + 1)), none, none] [] S9 r S') : EV q 56 61 [some (.ref a0), some (.ref a1), some (vI x2), some (vI x3), some (vI x4), some (vI x5)] [vI y0, .ref c1] S r S' := by
  unfold EV
  refine ev_bk 1 (S' := (62, [some (.ref a0), some (.ref a1), some (vI x2), some (vI x3), some (vI x4), some (vI x5)], [vI 3, vI y0, .ref c1], hp S, 0, 0)) rfl ?_
  obtain ⟨S1, e2, F⟩ := F
  refine mv_calv (as := [vI y0, vI 3]) (rest := []) e2 (hc1.1) rfl rfl rfl ⟨rfl, rfl⟩ rfl rfl rfl rfl rfl ?_
  refine ev_bk 1 (S' := (66, [some (.ref a0), some (.ref a1), some (vI x2), some (vI x3), some (vI x4), some (vI x5)], [.ref a1], hp S1, 0, 0)) rfl ?_
  obtain ⟨S3, e4, F⟩ := F
  refine mv_calv (as := []) (rest := []) e4 (ha1.1) rfl rfl rfl ⟨rfl, rfl⟩ rfl rfl rfl rfl rfl ?_
  refine ev_bk 3 (S' := (74, [some (.ref a0), some (.ref a1), some (vI x2), some (vI x3), some (vI x4), some (vI x5)], [vI x4, vI x5, .ref a1], hp S3, 0, 0)) rfl ?_
  refine mv_isub rfl ?_
  refine mv_i2l rfl ?_
  refine ev_bk 1 (S' := (77, [some (.ref a0), some (.ref a1), some (vI x2), some (vI x3), some (vI x4), some (vI x5)], [vI 2, vL (w32 (x5 - x4)), .ref a1], hp S3, 0, 0)) rfl ?_
  obtain ⟨S5, e6, F⟩ := F
  refine mv_calv (as := [vL (w32 (x5 - x4)), vI 2]) (rest := []) e6 (ha1.1) rfl rfl rfl ⟨rfl, rfl⟩ rfl rfl rfl rfl rfl ?_
  refine ev_bk 3 (S' := (85, [some (.ref a0), some (.ref a1), some (vI x2), some (vI x3), some (vI x4), some (vI x5)], [vI x4, vI x5, .ref a1], hp S5, 0, 0)) rfl ?_
  refine mv_isub rfl ?_
  refine ev_bk 1 (S' := (87, [some (.ref a0), some (.ref a1), some (vI x2), some (vI x3), some (vI x4), some (vI x5)], [vI ((-1)), vI (x5 - x4), .ref a1], hp S5, 0, 0)) rfl ?_
  refine mv_inot rfl ?_
  refine mv_i2l rfl ?_
  refine ev_bk 1 (S' := (90, [some (.ref a0), some (.ref a1), some (vI x2), some (vI x3), some (vI x4), some (vI x5)], [vI 2, vL (w32 (-(x5 - x4) - 1)), .ref a1], hp S5, 0, 0)) rfl ?_
  obtain ⟨S7, e8, F⟩ := F
  refine mv_calv (as := [vL (w32 (-(x5 - x4) - 1)), vI 2]) (rest := []) e8 (ha1.1) rfl rfl rfl ⟨rfl, rfl⟩ rfl rfl rfl rfl rfl ?_
  refine ev_bk 2 (S' := (95, [some (.ref a0), some (.ref a1), some (vI x2), some (vI x3), some (vI x4), some (vI x5)], [.ref a0, .ref a1], hp S7, 0, 0)) rfl ?_
  refine mv_gfR rfl rfl (ha0.1) (by decide) rfl ?_
  refine ev_bk 2 (S' := (102, [some (.ref a0), some (.ref a1), some (vI x2), some (vI x3), some (vI x4), some (vI x5)], [vI x5, vI x4, .ref (a0 + 1), .ref a1], hp S7, 0, 0)) rfl ?_
  obtain ⟨S9, e10, F⟩ := F
  refine mv_calv (as := [.ref (a0 + 1), vI x4, vI x5]) (rest := []) e10 (ha1.1) rfl rfl rfl ⟨rfl, rfl⟩ rfl rfl rfl rfl rfl ?_
  refine mv_inc (lv' := [some (.ref a0), some (.ref a1), some (vI x2), some (vI (x3 + 1)), some (vI x4), some (vI x5)]) 3 1 rfl rfl rfl rfl ?_
  refine mv_goto 21 rfl rfl ?_
  exact ev_wk (le_s (le_s (le_s (le_s (le_n (le_n le_0)))))) F
theorem vc_Blocks_fixedBlock {q : Nat × (Nat → Int32)} {S S' : ms} {r : Option Value} (a1 na1 : Nat) (ha1 : isRow a1 na1) (a2 na2 : Nat) (ha2 : isRow a2 na2)
    (F : ∃ (S1 : ms), EV q 49 0 [some (.ref a2), some (vI 1), some (vI 1), none, none, none, none, none] [] S none S1 ∧ ∃ (S3 : ms), EV q 49 0 [some (.ref a2), some (vI 1), some (vI 2), none, none, none, none, none] [] S1 none S3 ∧ ∃ (S5 : ms), EV q 65 0 [some (.ref 30), some (.ref a1), some (vI 0), some (vI (S3.1 10 8)), some (vI 0), some (.ref a2), none, none, none, none, none, none, none] [] S3 none S5 ∧ r = none ∧ S' = S5) : EV q 64 0 [some (.ref 30), some (.ref a1), some (.ref a2)] [] S r S' := by
  unfold EV
  refine ev_bk 3 (S' := (3, [some (.ref 30), some (.ref a1), some (.ref a2)], [vI 1, vI 1, .ref a2], hp S, 0, 0)) rfl ?_
  obtain ⟨S1, e2, F⟩ := F
  refine mv_calv (as := [vI 1, vI 1]) (rest := []) e2 (ha2.1) rfl rfl rfl ⟨rfl, rfl⟩ rfl rfl rfl rfl rfl ?_
  refine ev_bk 3 (S' := (9, [some (.ref 30), some (.ref a1), some (.ref a2)], [vI 2, vI 1, .ref a2], hp S1, 0, 0)) rfl ?_
  obtain ⟨S3, e4, F⟩ := F
  refine mv_calv (as := [vI 1, vI 2]) (rest := []) e4 (ha2.1) rfl rfl rfl ⟨rfl, rfl⟩ rfl rfl rfl rfl rfl ?_
  refine ev_bk 4 (S' := (16, [some (.ref 30), some (.ref a1), some (.ref a2)], [.ref 30, vI 0, .ref a1, .ref 30], hp S3, 0, 0)) rfl ?_
  refine mv_gfR rfl rfl (sh_30) (by decide) rfl ?_
  refine mv_gfI rfl rfl (sh_10) (by decide) rfl ?_
  refine ev_bk 2 (S' := (24, [some (.ref 30), some (.ref a1), some (.ref a2)], [.ref a2, vI 0, vI (S3.1 10 8), vI 0, .ref a1, .ref 30], hp S3, 0, 0)) rfl ?_
  obtain ⟨S5, e6, F⟩ := F
  refine mv_calv (as := [.ref a1, vI 0, vI (S3.1 10 8), vI 0, .ref a2]) (rest := []) e6 (sh_30) rfl rfl rfl ⟨rfl, rfl⟩ rfl rfl rfl rfl rfl ?_
  obtain ⟨rfl, rfl⟩ := F
  exact ev_ret rfl rfl
theorem vc_Blocks_tokensOut {q : Nat × (Nat → Int32)} {S S' : ms} {r : Option Value} (x2 x3 x4 : Int) (a1 na1 : Nat) (ha1 : isRow a1 na1) (a5 na5 : Nat) (ha5 : isRow a5 na5)
    (F : ((w32 x4 = 0) → EV q 65 16 [some (.ref 30), some (.ref a1), some (vI x2), some (vI x3), some (vI x4), some (.ref a5), none, none, none, none, none, none, none] [.ref 31] S r S') ∧ ((¬ w32 x4 = 0) → EV q 65 16 [some (.ref 30), some (.ref a1), some (vI x2), some (vI x3), some (vI x4), some (.ref a5), none, none, none, none, none, none, none] [.ref 53] S r S')) : EV q 65 0 [some (.ref 30), some (.ref a1), some (vI x2), some (vI x3), some (vI x4), some (.ref a5), none, none, none, none, none, none, none] [] S r S' := by
  unfold EV
  refine ev_bk 1 (S' := (2, [some (.ref 30), some (.ref a1), some (vI x2), some (vI x3), some (vI x4), some (.ref a5), none, none, none, none, none, none, none], [vI x4], hp S, 0, 0)) rfl ?_
  refine mv_if 12 rfl rfl (fun c => ?_) (fun c => ?_)
  · have F := F.1 c
    refine ev_bk 1 (S' := (13, [some (.ref 30), some (.ref a1), some (vI x2), some (vI x3), some (vI x4), some (.ref a5), none, none, none, none, none, none, none], [.ref 30], hp S, 0, 0)) rfl ?_
    refine mv_gfR rfl rfl (sh_30) (by decide) rfl ?_
    exact F
  · have F := F.2 c
    refine ev_bk 1 (S' := (6, [some (.ref 30), some (.ref a1), some (vI x2), some (vI x3), some (vI x4), some (.ref a5), none, none, none, none, none, none, none], [.ref 30], hp S, 0, 0)) rfl ?_
    refine mv_gfR rfl rfl (sh_30) (by decide) rfl ?_
    refine mv_goto 16 rfl rfl ?_
    exact F
theorem vc_Blocks_tokensOut_16 {q : Nat × (Nat → Int32)} {S S' : ms} {r : Option Value} (x2 x3 x4 : Int) (a1 na1 : Nat) (ha1 : isRow a1 na1) (a5 na5 : Nat) (ha5 : isRow a5 na5) (c0 : Nat) (hc0 : isCode c0)
    (F : ((w32 x4 = 0) → EV q 65 34 [some (.ref 30), some (.ref a1), some (vI x2), some (vI x3), some (vI x4), some (.ref a5), some (.ref c0), none, none, none, none, none, none] [.ref 42] S r S') ∧ ((¬ w32 x4 = 0) → EV q 65 34 [some (.ref 30), some (.ref a1), some (vI x2), some (vI x3), some (vI x4), some (.ref a5), some (.ref c0), none, none, none, none, none, none] [.ref 64] S r S')) : EV q 65 16 [some (.ref 30), some (.ref a1), some (vI x2), some (vI x3), some (vI x4), some (.ref a5), none, none, none, none, none, none, none] [.ref c0] S r S' := by
  unfold EV
  refine ev_bk 2 (S' := (20, [some (.ref 30), some (.ref a1), some (vI x2), some (vI x3), some (vI x4), some (.ref a5), some (.ref c0), none, none, none, none, none, none], [vI x4], hp S, 0, 0)) rfl ?_
  refine mv_if 30 rfl rfl (fun c => ?_) (fun c => ?_)
  · have F := F.1 c
    refine ev_bk 1 (S' := (31, [some (.ref 30), some (.ref a1), some (vI x2), some (vI x3), some (vI x4), some (.ref a5), some (.ref c0), none, none, none, none, none, none], [.ref 30], hp S, 0, 0)) rfl ?_
    refine mv_gfR rfl rfl (sh_30) (by decide) rfl ?_
    exact F
  · have F := F.2 c
    refine ev_bk 1 (S' := (24, [some (.ref 30), some (.ref a1), some (vI x2), some (vI x3), some (vI x4), some (.ref a5), some (.ref c0), none, none, none, none, none, none], [.ref 30], hp S, 0, 0)) rfl ?_
    refine mv_gfR rfl rfl (sh_30) (by decide) rfl ?_
    refine mv_goto 34 rfl rfl ?_
    exact F
theorem vc_Blocks_tokensOut_34 {q : Nat × (Nat → Int32)} {S S' : ms} {r : Option Value} (x2 x3 x4 : Int) (a1 na1 : Nat) (ha1 : isRow a1 na1) (a5 na5 : Nat) (ha5 : isRow a5 na5) (a6 : Nat) (ha6 : isCode a6) (c0 : Nat) (hc0 : isCode c0)
    (F : EV q 65 39 [some (.ref 30), some (.ref a1), some (vI x2), some (vI x3), some (vI x4), some (.ref a5), some (.ref a6), some (.ref c0), some (vI x2), none, none, none, none] [] S r S') : EV q 65 34 [some (.ref 30), some (.ref a1), some (vI x2), some (vI x3), some (vI x4), some (.ref a5), some (.ref a6), none, none, none, none, none, none] [.ref c0] S r S' := by
  unfold EV
  refine ev_bk 3 (S' := (39, [some (.ref 30), some (.ref a1), some (vI x2), some (vI x3), some (vI x4), some (.ref a5), some (.ref a6), some (.ref c0), some (vI x2), none, none, none, none], [], hp S, 0, 0)) rfl ?_
  exact F
theorem vc_Blocks_tokensOut_39 {q : Nat × (Nat → Int32)} {S S' : ms} {r : Option Value} (x2 x3 x4 x8 : Int) (a1 na1 : Nat) (ha1 : isRow a1 na1) (a5 na5 : Nat) (ha5 : isRow a5 na5) (a6 : Nat) (ha6 : isCode a6) (a7 : Nat) (ha7 : isCode a7)
    (F : ((w32 x3 ≤ w32 x8) → (0 ≤ w32 256 ∧ w32 256 < (288 : Nat)) ∧ (0 ≤ w32 256 ∧ w32 256 < (288 : Nat)) ∧ ∃ (S3 : ms), EV q 49 0 [some (.ref a5), some (vI (S.1 (a6 + 3) (w32 256))), some (vI (S.1 (a6 + 1) (w32 256))), none, none, none, none, none] [] S none S3 ∧ r = none ∧ S' = S3) ∧ ((¬ w32 x3 ≤ w32 x8) → (0 ≤ w32 x8 ∧ w32 x8 < (6000 : Nat)) ∧ (0 ≤ w32 x8 ∧ w32 x8 < (6000 : Nat)) ∧ ((¬ w32 (S.1 14 (w32 x8)) = 0) → (0 ≤ w32 (S.1 13 (w32 x8)) ∧ w32 (S.1 13 (w32 x8)) < (259 : Nat)) ∧ EV q 65 99 [some (.ref 30), some (.ref a1), some (vI x2), some (vI x3), some (vI x4), some (.ref a5), some (.ref a6), some (.ref a7), some (vI x8), some (vI (S.1 13 (w32 x8))), some (vI (S.1 14 (w32 x8))), none, none] [vI (S.1 92 (w32 (S.1 13 (w32 x8))))] S r S') ∧ ((¬ (¬ w32 (S.1 14 (w32 x8)) = 0)) → (0 ≤ w32 x8 ∧ w32 x8 < (6000 : Nat)) ∧ (0 ≤ w32 (S.1 15 (w32 x8)) ∧ w32 (S.1 15 (w32 x8)) < (na1 : Nat)) ∧ EV q 65 99 [some (.ref 30), some (.ref a1), some (vI x2), some (vI x3), some (vI x4), some (.ref a5), some (.ref a6), some (.ref a7), some (vI x8), some (vI (S.1 13 (w32 x8))), some (vI (S.1 14 (w32 x8))), none, none] [vI (S.1 (a1 + 1) (w32 (S.1 15 (w32 x8))))] S r S'))) : EV q 65 39 [some (.ref 30), some (.ref a1), some (vI x2), some (vI x3), some (vI x4), some (.ref a5), some (.ref a6), some (.ref a7), some (vI x8), none, none, none, none] [] S r S' := by
  unfold EV
  refine ev_bk 2 (S' := (42, [some (.ref 30), some (.ref a1), some (vI x2), some (vI x3), some (vI x4), some (.ref a5), some (.ref a6), some (.ref a7), some (vI x8), none, none, none, none], [vI x3, vI x8], hp S, 0, 0)) rfl ?_
  refine mv_icmp 209 rfl rfl (fun c => ?_) (fun c => ?_)
  · have F := F.1 c
    refine ev_bk 2 (S' := (213, [some (.ref 30), some (.ref a1), some (vI x2), some (vI x3), some (vI x4), some (.ref a5), some (.ref a6), some (.ref a7), some (vI x8), none, none, none, none], [.ref a6, .ref a5], hp S, 0, 0)) rfl ?_
    refine mv_gfR rfl rfl (ha6.1) (by decide) rfl ?_
    refine ev_bk 1 (S' := (219, [some (.ref 30), some (.ref a1), some (vI x2), some (vI x3), some (vI x4), some (.ref a5), some (.ref a6), some (.ref a7), some (vI x8), none, none, none, none], [vI 256, .ref (a6 + 3), .ref a5], hp S, 0, 0)) rfl ?_
    obtain ⟨b1, F⟩ := F
    refine mv_ial rfl (ha6.2.2.2.1) b1 ?_
    refine ev_bk 1 (S' := (222, [some (.ref 30), some (.ref a1), some (vI x2), some (vI x3), some (vI x4), some (.ref a5), some (.ref a6), some (.ref a7), some (vI x8), none, none, none, none], [.ref a6, vI (S.1 (a6 + 3) (w32 256)), .ref a5], hp S, 0, 0)) rfl ?_
    refine mv_gfR rfl rfl (ha6.1) (by decide) rfl ?_
    refine ev_bk 1 (S' := (228, [some (.ref 30), some (.ref a1), some (vI x2), some (vI x3), some (vI x4), some (.ref a5), some (.ref a6), some (.ref a7), some (vI x8), none, none, none, none], [vI 256, .ref (a6 + 1), vI (S.1 (a6 + 3) (w32 256)), .ref a5], hp S, 0, 0)) rfl ?_
    obtain ⟨b2, F⟩ := F
    refine mv_ial rfl (ha6.2.1) b2 ?_
    obtain ⟨S3, e4, F⟩ := F
    refine mv_calv (as := [vI (S.1 (a6 + 3) (w32 256)), vI (S.1 (a6 + 1) (w32 256))]) (rest := []) e4 (ha5.1) rfl rfl rfl ⟨rfl, rfl⟩ rfl rfl rfl rfl rfl ?_
    obtain ⟨rfl, rfl⟩ := F
    exact ev_ret rfl rfl
  · have F := F.2 c
    refine ev_bk 1 (S' := (46, [some (.ref 30), some (.ref a1), some (vI x2), some (vI x3), some (vI x4), some (.ref a5), some (.ref a6), some (.ref a7), some (vI x8), none, none, none, none], [.ref 30], hp S, 0, 0)) rfl ?_
    refine mv_gfR rfl rfl (sh_30) (by decide) rfl ?_
    refine mv_gfR rfl rfl (sh_10) (by decide) rfl ?_
    refine ev_bk 1 (S' := (54, [some (.ref 30), some (.ref a1), some (vI x2), some (vI x3), some (vI x4), some (.ref a5), some (.ref a6), some (.ref a7), some (vI x8), none, none, none, none], [vI x8, .ref 13], hp S, 0, 0)) rfl ?_
    obtain ⟨b5, F⟩ := F
    refine mv_ial rfl (sh_13) b5 ?_
    refine ev_bk 2 (S' := (58, [some (.ref 30), some (.ref a1), some (vI x2), some (vI x3), some (vI x4), some (.ref a5), some (.ref a6), some (.ref a7), some (vI x8), some (vI (S.1 13 (w32 x8))), none, none, none], [.ref 30], hp S, 0, 0)) rfl ?_
    refine mv_gfR rfl rfl (sh_30) (by decide) rfl ?_
    refine mv_gfR rfl rfl (sh_10) (by decide) rfl ?_
    refine ev_bk 1 (S' := (66, [some (.ref 30), some (.ref a1), some (vI x2), some (vI x3), some (vI x4), some (.ref a5), some (.ref a6), some (.ref a7), some (vI x8), some (vI (S.1 13 (w32 x8))), none, none, none], [vI x8, .ref 14], hp S, 0, 0)) rfl ?_
    obtain ⟨b6, F⟩ := F
    refine mv_ial rfl (sh_14) b6 ?_
    refine ev_bk 2 (S' := (71, [some (.ref 30), some (.ref a1), some (vI x2), some (vI x3), some (vI x4), some (.ref a5), some (.ref a6), some (.ref a7), some (vI x8), some (vI (S.1 13 (w32 x8))), some (vI (S.1 14 (w32 x8))), none, none], [vI (S.1 14 (w32 x8))], hp S, 0, 0)) rfl ?_
    refine mv_if 92 rfl rfl (fun c => ?_) (fun c => ?_)
    · have F := F.1 c
      refine ev_bk 1 (S' := (93, [some (.ref 30), some (.ref a1), some (vI x2), some (vI x3), some (vI x4), some (.ref a5), some (.ref a6), some (.ref a7), some (vI x8), some (vI (S.1 13 (w32 x8))), some (vI (S.1 14 (w32 x8))), none, none], [.ref 30], hp S, 0, 0)) rfl ?_
      refine mv_gfR rfl rfl (sh_30) (by decide) rfl ?_
      refine ev_bk 1 (S' := (98, [some (.ref 30), some (.ref a1), some (vI x2), some (vI x3), some (vI x4), some (.ref a5), some (.ref a6), some (.ref a7), some (vI x8), some (vI (S.1 13 (w32 x8))), some (vI (S.1 14 (w32 x8))), none, none], [vI (S.1 13 (w32 x8)), .ref 92], hp S, 0, 0)) rfl ?_
      obtain ⟨b7, F⟩ := F
      refine mv_ial rfl (sh_92) b7 ?_
      exact F
    · have F := F.2 c
      refine ev_bk 1 (S' := (75, [some (.ref 30), some (.ref a1), some (vI x2), some (vI x3), some (vI x4), some (.ref a5), some (.ref a6), some (.ref a7), some (vI x8), some (vI (S.1 13 (w32 x8))), some (vI (S.1 14 (w32 x8))), none, none], [.ref a1], hp S, 0, 0)) rfl ?_
      refine mv_gfR rfl rfl (ha1.1) (by decide) rfl ?_
      refine ev_bk 1 (S' := (79, [some (.ref 30), some (.ref a1), some (vI x2), some (vI x3), some (vI x4), some (.ref a5), some (.ref a6), some (.ref a7), some (vI x8), some (vI (S.1 13 (w32 x8))), some (vI (S.1 14 (w32 x8))), none, none], [.ref 30, .ref (a1 + 1)], hp S, 0, 0)) rfl ?_
      refine mv_gfR rfl rfl (sh_30) (by decide) rfl ?_
      refine mv_gfR rfl rfl (sh_10) (by decide) rfl ?_
      refine ev_bk 1 (S' := (87, [some (.ref 30), some (.ref a1), some (vI x2), some (vI x3), some (vI x4), some (.ref a5), some (.ref a6), some (.ref a7), some (vI x8), some (vI (S.1 13 (w32 x8))), some (vI (S.1 14 (w32 x8))), none, none], [vI x8, .ref 15, .ref (a1 + 1)], hp S, 0, 0)) rfl ?_
      obtain ⟨b8, F⟩ := F
      refine mv_ial rfl (sh_15) b8 ?_
      obtain ⟨b9, F⟩ := F
      refine mv_ial rfl (ha1.2) b9 ?_
      refine mv_goto 99 rfl rfl ?_
      exact F
theorem vc_Blocks_tokensOut_99 {q : Nat × (Nat → Int32)} {S S' : ms} {r : Option Value} (x2 x3 x4 x8 x9 x10 y0 : Int) (a1 na1 : Nat) (ha1 : isRow a1 na1) (a5 na5 : Nat) (ha5 : isRow a5 na5) (a6 : Nat) (ha6 : isCode a6) (a7 : Nat) (ha7 : isCode a7)
    (F : (0 ≤ w32 y0 ∧ w32 y0 < (288 : Nat)) ∧ (0 ≤ w32 y0 ∧ w32 y0 < (288 : Nat)) ∧ ∃ (S3 : ms), EV q 49 0 [some (.ref a5), some (vI (S.1 (a6 + 3) (w32 y0))), some (vI (S.1 (a6 + 1) (w32 y0))), none, none, none, none, none] [] S none S3 ∧ ((w32 x10 ≤ 0) → EV q 65 203 [some (.ref 30), some (.ref a1), some (vI x2), some (vI x3), some (vI x4), some (.ref a5), some (.ref a6), some (.ref a7), some (vI x8), some (vI x9), some (vI x10), some (vI y0), none] [] S3 r S') ∧ ((¬ w32 x10 ≤ 0) → (0 ≤ w32 (y0 - 257) ∧ w32 (y0 - 257) < (29 : Nat)) ∧ (0 ≤ w32 (y0 - 257) ∧ w32 (y0 - 257) < (29 : Nat)) ∧ ∃ (S7 : ms), EV q 49 0 [some (.ref a5), some (vI (x9 - (sS 0 (w32 (y0 - 257))))), some (vI (sS 1 (w32 (y0 - 257)))), none, none, none, none, none] [] S3 none S7 ∧ ∃ (z11 : Int) (S9 : ms), EV q 66 0 [some (vI x10), none] [] S7 (some (vI z11)) S9 ∧ (0 ≤ w32 z11 ∧ w32 z11 < (288 : Nat)) ∧ (0 ≤ w32 z11 ∧ w32 z11 < (288 : Nat)) ∧ ∃ (S14 : ms), EV q 49 0 [some (.ref a5), some (vI (S9.1 (a7 + 3) (w32 z11))), some (vI (S9.1 (a7 + 1) (w32 z11))), none, none, none, none, none] [] S9 none S14 ∧ (0 ≤ w32 z11 ∧ w32 z11 < (30 : Nat)) ∧ (0 ≤ w32 z11 ∧ w32 z11 < (30 : Nat)) ∧ ∃ (S18 : ms), EV q 49 0 [some (.ref a5), some (vI (x10 - (sS 4 (w32 z11)))), some (vI (sS 5 (w32 z11))), none, none, none, none, none] [] S14 none S18 ∧ EV q 65 203 [some (.ref 30), some (.ref a1), some (vI x2), some (vI x3), some (vI x4), some (.ref a5), some (.ref a6), some (.ref a7), some (vI x8), some (vI x9), some (vI x10), some (vI y0), none] [] S18 r S')) : EV q 65 99 [some (.ref 30), some (.ref a1), some (vI x2), some (vI x3), some (vI x4), some (.ref a5), some (.ref a6), some (.ref a7), some (vI x8), some (vI x9), some (vI x10), none, none] [vI y0] S r S' := by
  unfold EV
  refine ev_bk 3 (S' := (105, [some (.ref 30), some (.ref a1), some (vI x2), some (vI x3), some (vI x4), some (.ref a5), some (.ref a6), some (.ref a7), some (vI x8), some (vI x9), some (vI x10), some (vI y0), none], [.ref a6, .ref a5], hp S, 0, 0)) rfl ?_
  refine mv_gfR rfl rfl (ha6.1) (by decide) rfl ?_
  refine ev_bk 1 (S' := (110, [some (.ref 30), some (.ref a1), some (vI x2), some (vI x3), some (vI x4), some (.ref a5), some (.ref a6), some (.ref a7), some (vI x8), some (vI x9), some (vI x10), some (vI y0), none], [vI y0, .ref (a6 + 3), .ref a5], hp S, 0, 0)) rfl ?_
  obtain ⟨b1, F⟩ := F
  refine mv_ial rfl (ha6.2.2.2.1) b1 ?_
  refine ev_bk 1 (S' := (113, [some (.ref 30), some (.ref a1), some (vI x2), some (vI x3), some (vI x4), some (.ref a5), some (.ref a6), some (.ref a7), some (vI x8), some (vI x9), some (vI x10), some (vI y0), none], [.ref a6, vI (S.1 (a6 + 3) (w32 y0)), .ref a5], hp S, 0, 0)) rfl ?_
  refine mv_gfR rfl rfl (ha6.1) (by decide) rfl ?_
  refine ev_bk 1 (S' := (118, [some (.ref 30), some (.ref a1), some (vI x2), some (vI x3), some (vI x4), some (.ref a5), some (.ref a6), some (.ref a7), some (vI x8), some (vI x9), some (vI x10), some (vI y0), none], [vI y0, .ref (a6 + 1), vI (S.1 (a6 + 3) (w32 y0)), .ref a5], hp S, 0, 0)) rfl ?_
  obtain ⟨b2, F⟩ := F
  refine mv_ial rfl (ha6.2.1) b2 ?_
  obtain ⟨S3, e4, F⟩ := F
  refine mv_calv (as := [vI (S.1 (a6 + 3) (w32 y0)), vI (S.1 (a6 + 1) (w32 y0))]) (rest := []) e4 (ha5.1) rfl rfl rfl ⟨rfl, rfl⟩ rfl rfl rfl rfl rfl ?_
  refine ev_bk 1 (S' := (124, [some (.ref 30), some (.ref a1), some (vI x2), some (vI x3), some (vI x4), some (.ref a5), some (.ref a6), some (.ref a7), some (vI x8), some (vI x9), some (vI x10), some (vI y0), none], [vI x10], hp S3, 0, 0)) rfl ?_
  refine mv_if 203 rfl rfl (fun c => ?_) (fun c => ?_)
  · have F := F.1 c
    exact F
  · have F := F.2 c
    refine ev_bk 2 (S' := (131, [some (.ref 30), some (.ref a1), some (vI x2), some (vI x3), some (vI x4), some (.ref a5), some (.ref a6), some (.ref a7), some (vI x8), some (vI x9), some (vI x10), some (vI y0), none], [vI x9, .ref a5], hp S3, 0, 0)) rfl ?_
    refine mv_gs (k := 0) rfl rfl ?_
    refine ev_bk 2 (S' := (139, [some (.ref 30), some (.ref a1), some (vI x2), some (vI x3), some (vI x4), some (.ref a5), some (.ref a6), some (.ref a7), some (vI x8), some (vI x9), some (vI x10), some (vI y0), none], [vI 257, vI y0, .ref (en_b + 0), vI x9, .ref a5], hp S3, 0, 0)) rfl ?_
    refine mv_isub rfl ?_
    obtain ⟨b5, F⟩ := F
    refine mv_sal (k := 0) rfl rfl (by decide) b5 ?_
    refine mv_isub rfl ?_
    refine mv_gs (k := 1) rfl rfl ?_
    refine ev_bk 2 (S' := (150, [some (.ref 30), some (.ref a1), some (vI x2), some (vI x3), some (vI x4), some (.ref a5), some (.ref a6), some (.ref a7), some (vI x8), some (vI x9), some (vI x10), some (vI y0), none], [vI 257, vI y0, .ref (en_b + 1), vI (x9 - (sS 0 (w32 (y0 - 257)))), .ref a5], hp S3, 0, 0)) rfl ?_
    refine mv_isub rfl ?_
    obtain ⟨b6, F⟩ := F
    refine mv_sal (k := 1) rfl rfl (by decide) b6 ?_
    obtain ⟨S7, e8, F⟩ := F
    refine mv_calv (as := [vI (x9 - (sS 0 (w32 (y0 - 257)))), vI (sS 1 (w32 (y0 - 257)))]) (rest := []) e8 (ha5.1) rfl rfl rfl ⟨rfl, rfl⟩ rfl rfl rfl rfl rfl ?_
    refine ev_bk 1 (S' := (157, [some (.ref 30), some (.ref a1), some (vI x2), some (vI x3), some (vI x4), some (.ref a5), some (.ref a6), some (.ref a7), some (vI x8), some (vI x9), some (vI x10), some (vI y0), none], [vI x10], hp S7, 0, 0)) rfl ?_
    obtain ⟨z11, S9, e10, F⟩ := F
    refine mv_cals (as := [vI x10]) (rest := []) e10 rfl rfl rfl ⟨rfl, rfl, rfl⟩ rfl rfl rfl rfl ?_
    refine ev_bk 3 (S' := (166, [some (.ref 30), some (.ref a1), some (vI x2), some (vI x3), some (vI x4), some (.ref a5), some (.ref a6), some (.ref a7), some (vI x8), some (vI x9), some (vI x10), some (vI y0), some (vI z11)], [.ref a7, .ref a5], hp S9, 0, 0)) rfl ?_
    refine mv_gfR rfl rfl (ha7.1) (by decide) rfl ?_
    refine ev_bk 1 (S' := (171, [some (.ref 30), some (.ref a1), some (vI x2), some (vI x3), some (vI x4), some (.ref a5), some (.ref a6), some (.ref a7), some (vI x8), some (vI x9), some (vI x10), some (vI y0), some (vI z11)], [vI z11, .ref (a7 + 3), .ref a5], hp S9, 0, 0)) rfl ?_
    obtain ⟨b12, F⟩ := F
    refine mv_ial rfl (ha7.2.2.2.1) b12 ?_
    refine ev_bk 1 (S' := (174, [some (.ref 30), some (.ref a1), some (vI x2), some (vI x3), some (vI x4), some (.ref a5), some (.ref a6), some (.ref a7), some (vI x8), some (vI x9), some (vI x10), some (vI y0), some (vI z11)], [.ref a7, vI (S9.1 (a7 + 3) (w32 z11)), .ref a5], hp S9, 0, 0)) rfl ?_
    refine mv_gfR rfl rfl (ha7.1) (by decide) rfl ?_
    refine ev_bk 1 (S' := (179, [some (.ref 30), some (.ref a1), some (vI x2), some (vI x3), some (vI x4), some (.ref a5), some (.ref a6), some (.ref a7), some (vI x8), some (vI x9), some (vI x10), some (vI y0), some (vI z11)], [vI z11, .ref (a7 + 1), vI (S9.1 (a7 + 3) (w32 z11)), .ref a5], hp S9, 0, 0)) rfl ?_
    obtain ⟨b13, F⟩ := F
    refine mv_ial rfl (ha7.2.1) b13 ?_
    obtain ⟨S14, e15, F⟩ := F
    refine mv_calv (as := [vI (S9.1 (a7 + 3) (w32 z11)), vI (S9.1 (a7 + 1) (w32 z11))]) (rest := []) e15 (ha5.1) rfl rfl rfl ⟨rfl, rfl⟩ rfl rfl rfl rfl rfl ?_
    refine ev_bk 2 (S' := (187, [some (.ref 30), some (.ref a1), some (vI x2), some (vI x3), some (vI x4), some (.ref a5), some (.ref a6), some (.ref a7), some (vI x8), some (vI x9), some (vI x10), some (vI y0), some (vI z11)], [vI x10, .ref a5], hp S14, 0, 0)) rfl ?_
    refine mv_gs (k := 4) rfl rfl ?_
    refine ev_bk 1 (S' := (192, [some (.ref 30), some (.ref a1), some (vI x2), some (vI x3), some (vI x4), some (.ref a5), some (.ref a6), some (.ref a7), some (vI x8), some (vI x9), some (vI x10), some (vI y0), some (vI z11)], [vI z11, .ref (en_b + 4), vI x10, .ref a5], hp S14, 0, 0)) rfl ?_
    obtain ⟨b16, F⟩ := F
    refine mv_sal (k := 4) rfl rfl (by decide) b16 ?_
    refine mv_isub rfl ?_
    refine mv_gs (k := 5) rfl rfl ?_
    refine ev_bk 1 (S' := (199, [some (.ref 30), some (.ref a1), some (vI x2), some (vI x3), some (vI x4), some (.ref a5), some (.ref a6), some (.ref a7), some (vI x8), some (vI x9), some (vI x10), some (vI y0), some (vI z11)], [vI z11, .ref (en_b + 5), vI (x10 - (sS 4 (w32 z11))), .ref a5], hp S14, 0, 0)) rfl ?_
    obtain ⟨b17, F⟩ := F
    refine mv_sal (k := 5) rfl rfl (by decide) b17 ?_
    obtain ⟨S18, e19, F⟩ := F
    refine mv_calv (as := [vI (x10 - (sS 4 (w32 z11))), vI (sS 5 (w32 z11))]) (rest := []) e19 (ha5.1) rfl rfl rfl ⟨rfl, rfl⟩ rfl rfl rfl rfl rfl ?_
    exact ev_wk (le_s (le_s (le_s (le_s (le_s (le_s (le_s (le_s (le_s (le_s (le_s (le_s (le_n le_0))))))))))))) F
theorem vc_Blocks_tokensOut_203 {q : Nat × (Nat → Int32)} {S S' : ms} {r : Option Value} (x2 x3 x4 x8 x9 x10 x11 : Int) (a1 na1 : Nat) (ha1 : isRow a1 na1) (a5 na5 : Nat) (ha5 : isRow a5 na5) (a6 : Nat) (ha6 : isCode a6) (a7 : Nat) (ha7 : isCode a7)
    (F : EV q 65 39 [some (.ref 30), some (.ref a1), some (vI x2), some (vI x3), some (vI x4), some (.ref a5), some (.ref a6), some (.ref a7), some (vI (x8 + 1)), none, none, none, none] [] S r S') : EV q 65 203 [some (.ref 30), some (.ref a1), some (vI x2), some (vI x3), some (vI x4), some (.ref a5), some (.ref a6), some (.ref a7), some (vI x8), some (vI x9), some (vI x10), some (vI x11), none] [] S r S' := by
  unfold EV
  refine mv_inc (lv' := [some (.ref 30), some (.ref a1), some (vI x2), some (vI x3), some (vI x4), some (.ref a5), some (.ref a6), some (.ref a7), some (vI (x8 + 1)), some (vI x9), some (vI x10), some (vI x11), none]) 8 1 rfl rfl rfl rfl ?_
  refine mv_goto 39 rfl rfl ?_
  exact ev_wk (le_s (le_s (le_s (le_s (le_s (le_s (le_s (le_s (le_s (le_n (le_n (le_n (le_s le_0))))))))))))) F
theorem vc_Blocks_gapSymbol {q : Nat × (Nat → Int32)} {S S' : ms} {r : Option Value} (x0 : Int)
    (F : EV q 66 3 [some (vI x0), some (vI 29)] [] S r S') : EV q 66 0 [some (vI x0), none] [] S r S' := by
  unfold EV
  refine ev_bk 2 (S' := (3, [some (vI x0), some (vI 29)], [], hp S, 0, 0)) rfl ?_
  exact F
theorem vc_Blocks_gapSymbol_3 {q : Nat × (Nat → Int32)} {S S' : ms} {r : Option Value} (x0 x1 : Int)
    (F : ((w32 x1 ≤ 0) → r = some (vI x1) ∧ S' = S) ∧ ((¬ w32 x1 ≤ 0) → (0 ≤ w32 x1 ∧ w32 x1 < (30 : Nat)) ∧ ((w32 (sS 4 (w32 x1)) ≤ w32 x0) → r = some (vI x1) ∧ S' = S) ∧ ((¬ w32 (sS 4 (w32 x1)) ≤ w32 x0) → EV q 66 3 [some (vI x0), some (vI (x1 - 1))] [] S r S'))) : EV q 66 3 [some (vI x0), some (vI x1)] [] S r S' := by
  unfold EV
  refine ev_bk 1 (S' := (4, [some (vI x0), some (vI x1)], [vI x1], hp S, 0, 0)) rfl ?_
  refine mv_if 22 rfl rfl (fun c => ?_) (fun c => ?_)
  · have F := F.1 c
    refine ev_bk 1 (S' := (23, [some (vI x0), some (vI x1)], [vI x1], hp S, 0, 0)) rfl ?_
    obtain ⟨rfl, rfl⟩ := F
    exact ev_ret rfl rfl
  · have F := F.2 c
    refine mv_gs (k := 4) rfl rfl ?_
    refine ev_bk 1 (S' := (11, [some (vI x0), some (vI x1)], [vI x1, .ref (en_b + 4)], hp S, 0, 0)) rfl ?_
    obtain ⟨b1, F⟩ := F
    refine mv_sal (k := 4) rfl rfl (by decide) b1 ?_
    refine ev_bk 1 (S' := (13, [some (vI x0), some (vI x1)], [vI x0, vI (sS 4 (w32 x1))], hp S, 0, 0)) rfl ?_
    refine mv_icmp 22 rfl rfl (fun c => ?_) (fun c => ?_)
    · have F := F.1 c
      refine ev_bk 1 (S' := (23, [some (vI x0), some (vI x1)], [vI x1], hp S, 0, 0)) rfl ?_
      obtain ⟨rfl, rfl⟩ := F
      exact ev_ret rfl rfl
    · have F := F.2 c
      refine mv_inc (lv' := [some (vI x0), some (vI (x1 - 1))]) 1 (-1) rfl rfl rfl (by omega) ?_
      refine mv_goto 3 rfl rfl ?_
      exact F
theorem vc_Blocks_ownBlock {q : Nat × (Nat → Int32)} {S S' : ms} {r : Option Value} (x2 x3 x4 : Int) (a1 na1 : Nat) (ha1 : isRow a1 na1) (a5 na5 : Nat) (ha5 : isRow a5 na5)
    (F : ∃ (S1 : ms), EV q 69 0 [some (.ref 30), some (.ref a1), some (vI x2), some (vI x3), none] [] S none S1 ∧ ∃ (S3 : ms), EV q 70 0 [some (.ref 53), some (.ref 86), some (vI 286), some (vI 15), none, none, none] [] S1 none S3 ∧ ∃ (S5 : ms), EV q 70 0 [some (.ref 64), some (.ref 87), some (vI 30), some (vI 15), none, none, none] [] S3 none S5 ∧ ∃ (z9 : Int) (S7 : ms), EV q 74 0 [some (.ref 53), some (vI 286), some (vI 257), none] [] S5 (some (vI z9)) S7 ∧ ∃ (z12 : Int) (S10 : ms), EV q 74 0 [some (.ref 64), some (vI 30), some (vI 1), none] [] S7 (some (vI z12)) S10 ∧ EV q 68 68 [some (.ref 30), some (.ref a1), some (vI x2), some (vI x3), some (vI x4), some (.ref a5), some (vI z9), some (vI z12), some (vI 0), none] [] S10 r S') : EV q 68 0 [some (.ref 30), some (.ref a1), some (vI x2), some (vI x3), some (vI x4), some (.ref a5), none, none, none, none] [] S r S' := by
  unfold EV
  refine ev_bk 4 (S' := (4, [some (.ref 30), some (.ref a1), some (vI x2), some (vI x3), some (vI x4), some (.ref a5), none, none, none, none], [vI x3, vI x2, .ref a1, .ref 30], hp S, 0, 0)) rfl ?_
  obtain ⟨S1, e2, F⟩ := F
  refine mv_calv (as := [.ref a1, vI x2, vI x3]) (rest := []) e2 (sh_30) rfl rfl rfl ⟨rfl, rfl⟩ rfl rfl rfl rfl rfl ?_
  refine ev_bk 1 (S' := (8, [some (.ref 30), some (.ref a1), some (vI x2), some (vI x3), some (vI x4), some (.ref a5), none, none, none, none], [.ref 30], hp S1, 0, 0)) rfl ?_
  refine mv_gfR rfl rfl (sh_30) (by decide) rfl ?_
  refine ev_bk 1 (S' := (12, [some (.ref 30), some (.ref a1), some (vI x2), some (vI x3), some (vI x4), some (.ref a5), none, none, none, none], [.ref 30, .ref 53], hp S1, 0, 0)) rfl ?_
  refine mv_gfR rfl rfl (sh_30) (by decide) rfl ?_
  refine ev_bk 2 (S' := (20, [some (.ref 30), some (.ref a1), some (vI x2), some (vI x3), some (vI x4), some (.ref a5), none, none, none, none], [vI 15, vI 286, .ref 86, .ref 53], hp S1, 0, 0)) rfl ?_
  obtain ⟨S3, e4, F⟩ := F
  refine mv_calv (as := [.ref 86, vI 286, vI 15]) (rest := []) e4 (sh_53) rfl rfl rfl ⟨rfl, rfl⟩ rfl rfl rfl rfl rfl ?_
  refine ev_bk 1 (S' := (24, [some (.ref 30), some (.ref a1), some (vI x2), some (vI x3), some (vI x4), some (.ref a5), none, none, none, none], [.ref 30], hp S3, 0, 0)) rfl ?_
  refine mv_gfR rfl rfl (sh_30) (by decide) rfl ?_
  refine ev_bk 1 (S' := (28, [some (.ref 30), some (.ref a1), some (vI x2), some (vI x3), some (vI x4), some (.ref a5), none, none, none, none], [.ref 30, .ref 64], hp S3, 0, 0)) rfl ?_
  refine mv_gfR rfl rfl (sh_30) (by decide) rfl ?_
  refine ev_bk 2 (S' := (35, [some (.ref 30), some (.ref a1), some (vI x2), some (vI x3), some (vI x4), some (.ref a5), none, none, none, none], [vI 15, vI 30, .ref 87, .ref 64], hp S3, 0, 0)) rfl ?_
  obtain ⟨S5, e6, F⟩ := F
  refine mv_calv (as := [.ref 87, vI 30, vI 15]) (rest := []) e6 (sh_64) rfl rfl rfl ⟨rfl, rfl⟩ rfl rfl rfl rfl rfl ?_
  refine ev_bk 1 (S' := (39, [some (.ref 30), some (.ref a1), some (vI x2), some (vI x3), some (vI x4), some (.ref a5), none, none, none, none], [.ref 30], hp S5, 0, 0)) rfl ?_
  refine mv_gfR rfl rfl (sh_30) (by decide) rfl ?_
  refine ev_bk 2 (S' := (48, [some (.ref 30), some (.ref a1), some (vI x2), some (vI x3), some (vI x4), some (.ref a5), none, none, none, none], [vI 257, vI 286, .ref 53], hp S5, 0, 0)) rfl ?_
  obtain ⟨z9, S7, e8, F⟩ := F
  refine mv_cals (as := [.ref 53, vI 286, vI 257]) (rest := []) e8 rfl rfl rfl ⟨rfl, rfl, rfl⟩ rfl rfl rfl rfl ?_
  refine ev_bk 2 (S' := (54, [some (.ref 30), some (.ref a1), some (vI x2), some (vI x3), some (vI x4), some (.ref a5), some (vI z9), none, none, none], [.ref 30], hp S7, 0, 0)) rfl ?_
  refine mv_gfR rfl rfl (sh_30) (by decide) rfl ?_
  refine ev_bk 2 (S' := (60, [some (.ref 30), some (.ref a1), some (vI x2), some (vI x3), some (vI x4), some (.ref a5), some (vI z9), none, none, none], [vI 1, vI 30, .ref 64], hp S7, 0, 0)) rfl ?_
  obtain ⟨z12, S10, e11, F⟩ := F
  refine mv_cals (as := [.ref 64, vI 30, vI 1]) (rest := []) e11 rfl rfl rfl ⟨rfl, rfl, rfl⟩ rfl rfl rfl rfl ?_
  refine ev_bk 3 (S' := (68, [some (.ref 30), some (.ref a1), some (vI x2), some (vI x3), some (vI x4), some (.ref a5), some (vI z9), some (vI z12), some (vI 0), none], [], hp S10, 0, 0)) rfl ?_
  exact F
theorem vc_Blocks_ownBlock_68 {q : Nat × (Nat → Int32)} {S S' : ms} {r : Option Value} (x2 x3 x4 x6 x7 x8 : Int) (a1 na1 : Nat) (ha1 : isRow a1 na1) (a5 na5 : Nat) (ha5 : isRow a5 na5)
    (F : ((w32 x6 ≤ w32 x8) → EV q 68 101 [some (.ref 30), some (.ref a1), some (vI x2), some (vI x3), some (vI x4), some (.ref a5), some (vI x6), some (vI x7), some (vI 0), none] [] S r S') ∧ ((¬ w32 x6 ≤ w32 x8) → (0 ≤ w32 x8 ∧ w32 x8 < (288 : Nat)) ∧ (0 ≤ w32 x8 ∧ w32 x8 < (316 : Nat)) ∧ ∀ S3 : ms, S3 = wI S 89 (w32 x8) (S.1 54 (w32 x8)) → EV q 68 68 [some (.ref 30), some (.ref a1), some (vI x2), some (vI x3), some (vI x4), some (.ref a5), some (vI x6), some (vI x7), some (vI (x8 + 1)), none] [] S3 r S')) : EV q 68 68 [some (.ref 30), some (.ref a1), some (vI x2), some (vI x3), some (vI x4), some (.ref a5), some (vI x6), some (vI x7), some (vI x8), none] [] S r S' := by
  unfold EV
  refine ev_bk 2 (S' := (72, [some (.ref 30), some (.ref a1), some (vI x2), some (vI x3), some (vI x4), some (.ref a5), some (vI x6), some (vI x7), some (vI x8), none], [vI x6, vI x8], hp S, 0, 0)) rfl ?_
  refine mv_icmp 98 rfl rfl (fun c => ?_) (fun c => ?_)
  · have F := F.1 c
    refine ev_bk 2 (S' := (101, [some (.ref 30), some (.ref a1), some (vI x2), some (vI x3), some (vI x4), some (.ref a5), some (vI x6), some (vI x7), some (vI 0), none], [], hp S, 0, 0)) rfl ?_
    exact F
  · have F := F.2 c
    refine ev_bk 1 (S' := (76, [some (.ref 30), some (.ref a1), some (vI x2), some (vI x3), some (vI x4), some (.ref a5), some (vI x6), some (vI x7), some (vI x8), none], [.ref 30], hp S, 0, 0)) rfl ?_
    refine mv_gfR rfl rfl (sh_30) (by decide) rfl ?_
    refine ev_bk 2 (S' := (82, [some (.ref 30), some (.ref a1), some (vI x2), some (vI x3), some (vI x4), some (.ref a5), some (vI x6), some (vI x7), some (vI x8), none], [.ref 30, vI x8, .ref 89], hp S, 0, 0)) rfl ?_
    refine mv_gfR rfl rfl (sh_30) (by decide) rfl ?_
    refine mv_gfR rfl rfl (sh_53) (by decide) rfl ?_
    refine ev_bk 1 (S' := (90, [some (.ref 30), some (.ref a1), some (vI x2), some (vI x3), some (vI x4), some (.ref a5), some (vI x6), some (vI x7), some (vI x8), none], [vI x8, .ref 54, vI x8, .ref 89], hp S, 0, 0)) rfl ?_
    obtain ⟨b1, F⟩ := F
    refine mv_ial rfl (sh_54) b1 ?_
    obtain ⟨b2, F⟩ := F
    refine mv_ias rfl (sh_89) b2 ?_
    have F := F _ rfl
    refine mv_inc (lv' := [some (.ref 30), some (.ref a1), some (vI x2), some (vI x3), some (vI x4), some (.ref a5), some (vI x6), some (vI x7), some (vI (x8 + 1)), none]) 8 1 rfl rfl rfl rfl ?_
    refine mv_goto 68 rfl rfl ?_
    exact F
theorem vc_Blocks_ownBlock_101 {q : Nat × (Nat → Int32)} {S S' : ms} {r : Option Value} (x2 x3 x4 x6 x7 x8 : Int) (a1 na1 : Nat) (ha1 : isRow a1 na1) (a5 na5 : Nat) (ha5 : isRow a5 na5)
    (F : ((w32 x7 ≤ w32 x8) → ∃ (S1 : ms), EV q 75 0 [some (.ref 30), some (vI (x6 + x7)), none, none, none, none] [] S none S1 ∧ ∃ (S3 : ms), EV q 70 0 [some (.ref 75), some (.ref 88), some (vI 19), some (vI 7), none, none, none] [] S1 none S3 ∧ EV q 68 162 [some (.ref 30), some (.ref a1), some (vI x2), some (vI x3), some (vI x4), some (.ref a5), some (vI x6), some (vI x7), some (vI 19), none] [] S3 r S') ∧ ((¬ w32 x7 ≤ w32 x8) → (0 ≤ w32 x8 ∧ w32 x8 < (288 : Nat)) ∧ (0 ≤ w32 (x6 + x8) ∧ w32 (x6 + x8) < (316 : Nat)) ∧ ∀ S7 : ms, S7 = wI S 89 (w32 (x6 + x8)) (S.1 65 (w32 x8)) → EV q 68 101 [some (.ref 30), some (.ref a1), some (vI x2), some (vI x3), some (vI x4), some (.ref a5), some (vI x6), some (vI x7), some (vI (x8 + 1)), none] [] S7 r S')) : EV q 68 101 [some (.ref 30), some (.ref a1), some (vI x2), some (vI x3), some (vI x4), some (.ref a5), some (vI x6), some (vI x7), some (vI x8), none] [] S r S' := by
  unfold EV
  refine ev_bk 2 (S' := (105, [some (.ref 30), some (.ref a1), some (vI x2), some (vI x3), some (vI x4), some (.ref a5), some (vI x6), some (vI x7), some (vI x8), none], [vI x7, vI x8], hp S, 0, 0)) rfl ?_
  refine mv_icmp 134 rfl rfl (fun c => ?_) (fun c => ?_)
  · have F := F.1 c
    refine ev_bk 3 (S' := (139, [some (.ref 30), some (.ref a1), some (vI x2), some (vI x3), some (vI x4), some (.ref a5), some (vI x6), some (vI x7), some (vI x8), none], [vI x7, vI x6, .ref 30], hp S, 0, 0)) rfl ?_
    refine mv_iadd rfl ?_
    obtain ⟨S1, e2, F⟩ := F
    refine mv_calv (as := [vI (x6 + x7)]) (rest := []) e2 (sh_30) rfl rfl rfl ⟨rfl, rfl⟩ rfl rfl rfl rfl rfl ?_
    refine ev_bk 1 (S' := (144, [some (.ref 30), some (.ref a1), some (vI x2), some (vI x3), some (vI x4), some (.ref a5), some (vI x6), some (vI x7), some (vI x8), none], [.ref 30], hp S1, 0, 0)) rfl ?_
    refine mv_gfR rfl rfl (sh_30) (by decide) rfl ?_
    refine ev_bk 1 (S' := (148, [some (.ref 30), some (.ref a1), some (vI x2), some (vI x3), some (vI x4), some (.ref a5), some (vI x6), some (vI x7), some (vI x8), none], [.ref 30, .ref 75], hp S1, 0, 0)) rfl ?_
    refine mv_gfR rfl rfl (sh_30) (by decide) rfl ?_
    refine ev_bk 2 (S' := (155, [some (.ref 30), some (.ref a1), some (vI x2), some (vI x3), some (vI x4), some (.ref a5), some (vI x6), some (vI x7), some (vI x8), none], [vI 7, vI 19, .ref 88, .ref 75], hp S1, 0, 0)) rfl ?_
    obtain ⟨S3, e4, F⟩ := F
    refine mv_calv (as := [.ref 88, vI 19, vI 7]) (rest := []) e4 (sh_75) rfl rfl rfl ⟨rfl, rfl⟩ rfl rfl rfl rfl rfl ?_
    refine ev_bk 2 (S' := (162, [some (.ref 30), some (.ref a1), some (vI x2), some (vI x3), some (vI x4), some (.ref a5), some (vI x6), some (vI x7), some (vI 19), none], [], hp S3, 0, 0)) rfl ?_
    exact F
  · have F := F.2 c
    refine ev_bk 1 (S' := (109, [some (.ref 30), some (.ref a1), some (vI x2), some (vI x3), some (vI x4), some (.ref a5), some (vI x6), some (vI x7), some (vI x8), none], [.ref 30], hp S, 0, 0)) rfl ?_
    refine mv_gfR rfl rfl (sh_30) (by decide) rfl ?_
    refine ev_bk 2 (S' := (116, [some (.ref 30), some (.ref a1), some (vI x2), some (vI x3), some (vI x4), some (.ref a5), some (vI x6), some (vI x7), some (vI x8), none], [vI x8, vI x6, .ref 89], hp S, 0, 0)) rfl ?_
    refine mv_iadd rfl ?_
    refine ev_bk 1 (S' := (118, [some (.ref 30), some (.ref a1), some (vI x2), some (vI x3), some (vI x4), some (.ref a5), some (vI x6), some (vI x7), some (vI x8), none], [.ref 30, vI (x6 + x8), .ref 89], hp S, 0, 0)) rfl ?_
    refine mv_gfR rfl rfl (sh_30) (by decide) rfl ?_
    refine mv_gfR rfl rfl (sh_64) (by decide) rfl ?_
    refine ev_bk 1 (S' := (126, [some (.ref 30), some (.ref a1), some (vI x2), some (vI x3), some (vI x4), some (.ref a5), some (vI x6), some (vI x7), some (vI x8), none], [vI x8, .ref 65, vI (x6 + x8), .ref 89], hp S, 0, 0)) rfl ?_
    obtain ⟨b5, F⟩ := F
    refine mv_ial rfl (sh_65) b5 ?_
    obtain ⟨b6, F⟩ := F
    refine mv_ias rfl (sh_89) b6 ?_
    have F := F _ rfl
    refine mv_inc (lv' := [some (.ref 30), some (.ref a1), some (vI x2), some (vI x3), some (vI x4), some (.ref a5), some (vI x6), some (vI x7), some (vI (x8 + 1)), none]) 8 1 rfl rfl rfl rfl ?_
    refine mv_goto 101 rfl rfl ?_
    exact F
theorem vc_Blocks_ownBlock_162 {q : Nat × (Nat → Int32)} {S S' : ms} {r : Option Value} (x2 x3 x4 x6 x7 x8 : Int) (a1 na1 : Nat) (ha1 : isRow a1 na1) (a5 na5 : Nat) (ha5 : isRow a5 na5)
    (F : ((w32 x8 ≤ 4) → EV q 68 193 [some (.ref 30), some (.ref a1), some (vI x2), some (vI x3), some (vI x4), some (.ref a5), some (vI x6), some (vI x7), some (vI x8), none] [] S r S') ∧ ((¬ w32 x8 ≤ 4) → (0 ≤ w32 (x8 - 1) ∧ w32 (x8 - 1) < (19 : Nat)) ∧ (0 ≤ w32 (sS 6 (w32 (x8 - 1))) ∧ w32 (sS 6 (w32 (x8 - 1))) < (288 : Nat)) ∧ ((¬ w32 (S.1 76 (w32 (sS 6 (w32 (x8 - 1))))) = 0) → EV q 68 193 [some (.ref 30), some (.ref a1), some (vI x2), some (vI x3), some (vI x4), some (.ref a5), some (vI x6), some (vI x7), some (vI x8), none] [] S r S') ∧ ((¬ (¬ w32 (S.1 76 (w32 (sS 6 (w32 (x8 - 1))))) = 0)) → EV q 68 162 [some (.ref 30), some (.ref a1), some (vI x2), some (vI x3), some (vI x4), some (.ref a5), some (vI x6), some (vI x7), some (vI (x8 - 1)), none] [] S r S'))) : EV q 68 162 [some (.ref 30), some (.ref a1), some (vI x2), some (vI x3), some (vI x4), some (.ref a5), some (vI x6), some (vI x7), some (vI x8), none] [] S r S' := by
  unfold EV
  refine ev_bk 2 (S' := (165, [some (.ref 30), some (.ref a1), some (vI x2), some (vI x3), some (vI x4), some (.ref a5), some (vI x6), some (vI x7), some (vI x8), none], [vI 4, vI x8], hp S, 0, 0)) rfl ?_
  refine mv_icmp 193 rfl rfl (fun c => ?_) (fun c => ?_)
  · have F := F.1 c
    exact F
  · have F := F.2 c
    refine ev_bk 1 (S' := (169, [some (.ref 30), some (.ref a1), some (vI x2), some (vI x3), some (vI x4), some (.ref a5), some (vI x6), some (vI x7), some (vI x8), none], [.ref 30], hp S, 0, 0)) rfl ?_
    refine mv_gfR rfl rfl (sh_30) (by decide) rfl ?_
    refine mv_gfR rfl rfl (sh_75) (by decide) rfl ?_
    refine mv_gs (k := 6) rfl rfl ?_
    refine ev_bk 2 (S' := (181, [some (.ref 30), some (.ref a1), some (vI x2), some (vI x3), some (vI x4), some (.ref a5), some (vI x6), some (vI x7), some (vI x8), none], [vI 1, vI x8, .ref (en_b + 6), .ref 76], hp S, 0, 0)) rfl ?_
    refine mv_isub rfl ?_
    obtain ⟨b1, F⟩ := F
    refine mv_sal (k := 6) rfl rfl (by decide) b1 ?_
    obtain ⟨b2, F⟩ := F
    refine mv_ial rfl (sh_76) b2 ?_
    refine mv_if 193 rfl rfl (fun c => ?_) (fun c => ?_)
    · have F := F.1 c
      exact F
    · have F := F.2 c
      refine mv_inc (lv' := [some (.ref 30), some (.ref a1), some (vI x2), some (vI x3), some (vI x4), some (.ref a5), some (vI x6), some (vI x7), some (vI (x8 - 1)), none]) 8 (-1) rfl rfl rfl (by omega) ?_
      refine mv_goto 162 rfl rfl ?_
      exact F
theorem vc_Blocks_ownBlock_193 {q : Nat × (Nat → Int32)} {S S' : ms} {r : Option Value} (x2 x3 x4 x6 x7 x8 : Int) (a1 na1 : Nat) (ha1 : isRow a1 na1) (a5 na5 : Nat) (ha5 : isRow a5 na5)
    (F : ((w32 x4 = 0) → EV q 68 205 [some (.ref 30), some (.ref a1), some (vI x2), some (vI x3), some (vI x4), some (.ref a5), some (vI x6), some (vI x7), some (vI x8), none] [vI 0, .ref a5] S r S') ∧ ((¬ w32 x4 = 0) → EV q 68 205 [some (.ref 30), some (.ref a1), some (vI x2), some (vI x3), some (vI x4), some (.ref a5), some (vI x6), some (vI x7), some (vI x8), none] [vI 1, .ref a5] S r S')) : EV q 68 193 [some (.ref 30), some (.ref a1), some (vI x2), some (vI x3), some (vI x4), some (.ref a5), some (vI x6), some (vI x7), some (vI x8), none] [] S r S' := by
  unfold EV
  refine ev_bk 2 (S' := (197, [some (.ref 30), some (.ref a1), some (vI x2), some (vI x3), some (vI x4), some (.ref a5), some (vI x6), some (vI x7), some (vI x8), none], [vI x4, .ref a5], hp S, 0, 0)) rfl ?_
  refine mv_if 204 rfl rfl (fun c => ?_) (fun c => ?_)
  · have F := F.1 c
    refine ev_bk 1 (S' := (205, [some (.ref 30), some (.ref a1), some (vI x2), some (vI x3), some (vI x4), some (.ref a5), some (vI x6), some (vI x7), some (vI x8), none], [vI 0, .ref a5], hp S, 0, 0)) rfl ?_
    exact F
  · have F := F.2 c
    refine ev_bk 1 (S' := (201, [some (.ref 30), some (.ref a1), some (vI x2), some (vI x3), some (vI x4), some (.ref a5), some (vI x6), some (vI x7), some (vI x8), none], [vI 1, .ref a5], hp S, 0, 0)) rfl ?_
    refine mv_goto 205 rfl rfl ?_
    exact F
theorem vc_Blocks_ownBlock_205 {q : Nat × (Nat → Int32)} {S S' : ms} {r : Option Value} (x2 x3 x4 x6 x7 x8 y0 : Int) (a1 na1 : Nat) (ha1 : isRow a1 na1) (a5 na5 : Nat) (ha5 : isRow a5 na5) (c1 nc1 : Nat) (hc1 : isRow c1 nc1)
    (F : ∃ (S1 : ms), EV q 49 0 [some (.ref c1), some (vI y0), some (vI 1), none, none, none, none, none] [] S none S1 ∧ ∃ (S3 : ms), EV q 49 0 [some (.ref a5), some (vI 2), some (vI 2), none, none, none, none, none] [] S1 none S3 ∧ ∃ (S5 : ms), EV q 49 0 [some (.ref a5), some (vI (x6 - 257)), some (vI 5), none, none, none, none, none] [] S3 none S5 ∧ ∃ (S7 : ms), EV q 49 0 [some (.ref a5), some (vI (x7 - 1)), some (vI 5), none, none, none, none, none] [] S5 none S7 ∧ ∃ (S9 : ms), EV q 49 0 [some (.ref a5), some (vI (x8 - 4)), some (vI 4), none, none, none, none, none] [] S7 none S9 ∧ EV q 68 251 [some (.ref 30), some (.ref a1), some (vI x2), some (vI x3), some (vI x4), some (.ref a5), some (vI x6), some (vI x7), some (vI x8), some (vI 0)] [] S9 r S') : EV q 68 205 [some (.ref 30), some (.ref a1), some (vI x2), some (vI x3), some (vI x4), some (.ref a5), some (vI x6), some (vI x7), some (vI x8), none] [vI y0, .ref c1] S r S' := by
  unfold EV
  refine ev_bk 1 (S' := (206, [some (.ref 30), some (.ref a1), some (vI x2), some (vI x3), some (vI x4), some (.ref a5), some (vI x6), some (vI x7), some (vI x8), none], [vI 1, vI y0, .ref c1], hp S, 0, 0)) rfl ?_
  obtain ⟨S1, e2, F⟩ := F
  refine mv_calv (as := [vI y0, vI 1]) (rest := []) e2 (hc1.1) rfl rfl rfl ⟨rfl, rfl⟩ rfl rfl rfl rfl rfl ?_
  refine ev_bk 3 (S' := (213, [some (.ref 30), some (.ref a1), some (vI x2), some (vI x3), some (vI x4), some (.ref a5), some (vI x6), some (vI x7), some (vI x8), none], [vI 2, vI 2, .ref a5], hp S1, 0, 0)) rfl ?_
  obtain ⟨S3, e4, F⟩ := F
  refine mv_calv (as := [vI 2, vI 2]) (rest := []) e4 (ha5.1) rfl rfl rfl ⟨rfl, rfl⟩ rfl rfl rfl rfl rfl ?_
  refine ev_bk 3 (S' := (223, [some (.ref 30), some (.ref a1), some (vI x2), some (vI x3), some (vI x4), some (.ref a5), some (vI x6), some (vI x7), some (vI x8), none], [vI 257, vI x6, .ref a5], hp S3, 0, 0)) rfl ?_
  refine mv_isub rfl ?_
  refine ev_bk 1 (S' := (225, [some (.ref 30), some (.ref a1), some (vI x2), some (vI x3), some (vI x4), some (.ref a5), some (vI x6), some (vI x7), some (vI x8), none], [vI 5, vI (x6 - 257), .ref a5], hp S3, 0, 0)) rfl ?_
  obtain ⟨S5, e6, F⟩ := F
  refine mv_calv (as := [vI (x6 - 257), vI 5]) (rest := []) e6 (ha5.1) rfl rfl rfl ⟨rfl, rfl⟩ rfl rfl rfl rfl rfl ?_
  refine ev_bk 3 (S' := (233, [some (.ref 30), some (.ref a1), some (vI x2), some (vI x3), some (vI x4), some (.ref a5), some (vI x6), some (vI x7), some (vI x8), none], [vI 1, vI x7, .ref a5], hp S5, 0, 0)) rfl ?_
  refine mv_isub rfl ?_
  refine ev_bk 1 (S' := (235, [some (.ref 30), some (.ref a1), some (vI x2), some (vI x3), some (vI x4), some (.ref a5), some (vI x6), some (vI x7), some (vI x8), none], [vI 5, vI (x7 - 1), .ref a5], hp S5, 0, 0)) rfl ?_
  obtain ⟨S7, e8, F⟩ := F
  refine mv_calv (as := [vI (x7 - 1), vI 5]) (rest := []) e8 (ha5.1) rfl rfl rfl ⟨rfl, rfl⟩ rfl rfl rfl rfl rfl ?_
  refine ev_bk 3 (S' := (243, [some (.ref 30), some (.ref a1), some (vI x2), some (vI x3), some (vI x4), some (.ref a5), some (vI x6), some (vI x7), some (vI x8), none], [vI 4, vI x8, .ref a5], hp S7, 0, 0)) rfl ?_
  refine mv_isub rfl ?_
  refine ev_bk 1 (S' := (245, [some (.ref 30), some (.ref a1), some (vI x2), some (vI x3), some (vI x4), some (.ref a5), some (vI x6), some (vI x7), some (vI x8), none], [vI 4, vI (x8 - 4), .ref a5], hp S7, 0, 0)) rfl ?_
  obtain ⟨S9, e10, F⟩ := F
  refine mv_calv (as := [vI (x8 - 4), vI 4]) (rest := []) e10 (ha5.1) rfl rfl rfl ⟨rfl, rfl⟩ rfl rfl rfl rfl rfl ?_
  refine ev_bk 2 (S' := (251, [some (.ref 30), some (.ref a1), some (vI x2), some (vI x3), some (vI x4), some (.ref a5), some (vI x6), some (vI x7), some (vI x8), some (vI 0)], [], hp S9, 0, 0)) rfl ?_
  exact F
theorem vc_Blocks_ownBlock_251 {q : Nat × (Nat → Int32)} {S S' : ms} {r : Option Value} (x2 x3 x4 x6 x7 x8 x9 : Int) (a1 na1 : Nat) (ha1 : isRow a1 na1) (a5 na5 : Nat) (ha5 : isRow a5 na5)
    (F : ((w32 x8 ≤ w32 x9) → ∃ (S1 : ms), EV q 77 0 [some (.ref 30), some (.ref a5), none, none] [] S none S1 ∧ ∃ (S3 : ms), EV q 65 0 [some (.ref 30), some (.ref a1), some (vI x2), some (vI x3), some (vI 1), some (.ref a5), none, none, none, none, none, none, none] [] S1 none S3 ∧ r = none ∧ S' = S3) ∧ ((¬ w32 x8 ≤ w32 x9) → (0 ≤ w32 x9 ∧ w32 x9 < (19 : Nat)) ∧ (0 ≤ w32 (sS 6 (w32 x9)) ∧ w32 (sS 6 (w32 x9)) < (288 : Nat)) ∧ ∃ (S7 : ms), EV q 49 0 [some (.ref a5), some (vI (S.1 76 (w32 (sS 6 (w32 x9))))), some (vI 3), none, none, none, none, none] [] S none S7 ∧ EV q 68 251 [some (.ref 30), some (.ref a1), some (vI x2), some (vI x3), some (vI x4), some (.ref a5), some (vI x6), some (vI x7), some (vI x8), some (vI (x9 + 1))] [] S7 r S')) : EV q 68 251 [some (.ref 30), some (.ref a1), some (vI x2), some (vI x3), some (vI x4), some (.ref a5), some (vI x6), some (vI x7), some (vI x8), some (vI x9)] [] S r S' := by
  unfold EV
  refine ev_bk 2 (S' := (255, [some (.ref 30), some (.ref a1), some (vI x2), some (vI x3), some (vI x4), some (.ref a5), some (vI x6), some (vI x7), some (vI x8), some (vI x9)], [vI x8, vI x9], hp S, 0, 0)) rfl ?_
  refine mv_icmp 284 rfl rfl (fun c => ?_) (fun c => ?_)
  · have F := F.1 c
    refine ev_bk 2 (S' := (287, [some (.ref 30), some (.ref a1), some (vI x2), some (vI x3), some (vI x4), some (.ref a5), some (vI x6), some (vI x7), some (vI x8), some (vI x9)], [.ref a5, .ref 30], hp S, 0, 0)) rfl ?_
    obtain ⟨S1, e2, F⟩ := F
    refine mv_calv (as := [.ref a5]) (rest := []) e2 (sh_30) rfl rfl rfl ⟨rfl, rfl⟩ rfl rfl rfl rfl rfl ?_
    refine ev_bk 6 (S' := (297, [some (.ref 30), some (.ref a1), some (vI x2), some (vI x3), some (vI x4), some (.ref a5), some (vI x6), some (vI x7), some (vI x8), some (vI x9)], [.ref a5, vI 1, vI x3, vI x2, .ref a1, .ref 30], hp S1, 0, 0)) rfl ?_
    obtain ⟨S3, e4, F⟩ := F
    refine mv_calv (as := [.ref a1, vI x2, vI x3, vI 1, .ref a5]) (rest := []) e4 (sh_30) rfl rfl rfl ⟨rfl, rfl⟩ rfl rfl rfl rfl rfl ?_
    obtain ⟨rfl, rfl⟩ := F
    exact ev_ret rfl rfl
  · have F := F.2 c
    refine ev_bk 2 (S' := (261, [some (.ref 30), some (.ref a1), some (vI x2), some (vI x3), some (vI x4), some (.ref a5), some (vI x6), some (vI x7), some (vI x8), some (vI x9)], [.ref 30, .ref a5], hp S, 0, 0)) rfl ?_
    refine mv_gfR rfl rfl (sh_30) (by decide) rfl ?_
    refine mv_gfR rfl rfl (sh_75) (by decide) rfl ?_
    refine mv_gs (k := 6) rfl rfl ?_
    refine ev_bk 1 (S' := (272, [some (.ref 30), some (.ref a1), some (vI x2), some (vI x3), some (vI x4), some (.ref a5), some (vI x6), some (vI x7), some (vI x8), some (vI x9)], [vI x9, .ref (en_b + 6), .ref 76, .ref a5], hp S, 0, 0)) rfl ?_
    obtain ⟨b5, F⟩ := F
    refine mv_sal (k := 6) rfl rfl (by decide) b5 ?_
    obtain ⟨b6, F⟩ := F
    refine mv_ial rfl (sh_76) b6 ?_
    refine ev_bk 1 (S' := (275, [some (.ref 30), some (.ref a1), some (vI x2), some (vI x3), some (vI x4), some (.ref a5), some (vI x6), some (vI x7), some (vI x8), some (vI x9)], [vI 3, vI (S.1 76 (w32 (sS 6 (w32 x9)))), .ref a5], hp S, 0, 0)) rfl ?_
    obtain ⟨S7, e8, F⟩ := F
    refine mv_calv (as := [vI (S.1 76 (w32 (sS 6 (w32 x9)))), vI 3]) (rest := []) e8 (ha5.1) rfl rfl rfl ⟨rfl, rfl⟩ rfl rfl rfl rfl rfl ?_
    refine mv_inc (lv' := [some (.ref 30), some (.ref a1), some (vI x2), some (vI x3), some (vI x4), some (.ref a5), some (vI x6), some (vI x7), some (vI x8), some (vI (x9 + 1))]) 9 1 rfl rfl rfl rfl ?_
    refine mv_goto 251 rfl rfl ?_
    exact F
theorem vc_Blocks_tallyTokens {q : Nat × (Nat → Int32)} {S S' : ms} {r : Option Value} (x2 x3 : Int) (a1 na1 : Nat) (ha1 : isRow a1 na1)
    (F : ∃ (S1 : ms), EV q 11 0 [some (.ref 86), some (vI 0), none, none] [] S none S1 ∧ ∃ (S3 : ms), EV q 11 0 [some (.ref 87), some (vI 0), none, none] [] S1 none S3 ∧ EV q 69 19 [some (.ref 30), some (.ref a1), some (vI x2), some (vI x3), some (vI x2)] [] S3 r S') : EV q 69 0 [some (.ref 30), some (.ref a1), some (vI x2), some (vI x3), none] [] S r S' := by
  unfold EV
  refine ev_bk 1 (S' := (1, [some (.ref 30), some (.ref a1), some (vI x2), some (vI x3), none], [.ref 30], hp S, 0, 0)) rfl ?_
  refine mv_gfR rfl rfl (sh_30) (by decide) rfl ?_
  refine ev_bk 1 (S' := (5, [some (.ref 30), some (.ref a1), some (vI x2), some (vI x3), none], [vI 0, .ref 86], hp S, 0, 0)) rfl ?_
  obtain ⟨S1, e2, F⟩ := F
  refine mv_cals (as := [.ref 86, vI 0]) (rest := []) e2 rfl rfl rfl ⟨rfl, rfl, rfl⟩ rfl rfl rfl rfl ?_
  refine ev_bk 1 (S' := (9, [some (.ref 30), some (.ref a1), some (vI x2), some (vI x3), none], [.ref 30], hp S1, 0, 0)) rfl ?_
  refine mv_gfR rfl rfl (sh_30) (by decide) rfl ?_
  refine ev_bk 1 (S' := (13, [some (.ref 30), some (.ref a1), some (vI x2), some (vI x3), none], [vI 0, .ref 87], hp S1, 0, 0)) rfl ?_
  obtain ⟨S3, e4, F⟩ := F
  refine mv_cals (as := [.ref 87, vI 0]) (rest := []) e4 rfl rfl rfl ⟨rfl, rfl, rfl⟩ rfl rfl rfl rfl ?_
  refine ev_bk 2 (S' := (19, [some (.ref 30), some (.ref a1), some (vI x2), some (vI x3), some (vI x2)], [], hp S3, 0, 0)) rfl ?_
  exact F
theorem vc_Blocks_tallyTokens_19 {q : Nat × (Nat → Int32)} {S S' : ms} {r : Option Value} (x2 x3 x4 : Int) (a1 na1 : Nat) (ha1 : isRow a1 na1)
    (F : ((w32 x3 ≤ w32 x4) → (0 ≤ w32 256 ∧ w32 256 < (286 : Nat)) ∧ ∀ S2 : ms, S2 = wI S 86 (w32 256) 1 → r = none ∧ S' = S2) ∧ ((¬ w32 x3 ≤ w32 x4) → (0 ≤ w32 x4 ∧ w32 x4 < (6000 : Nat)) ∧ ((¬ w32 (S.1 14 (w32 x4)) = 0) → (0 ≤ w32 x4 ∧ w32 x4 < (6000 : Nat)) ∧ (0 ≤ w32 (S.1 13 (w32 x4)) ∧ w32 (S.1 13 (w32 x4)) < (259 : Nat)) ∧ (0 ≤ w32 (S.1 92 (w32 (S.1 13 (w32 x4)))) ∧ w32 (S.1 92 (w32 (S.1 13 (w32 x4)))) < (286 : Nat)) ∧ (0 ≤ w32 (S.1 92 (w32 (S.1 13 (w32 x4)))) ∧ w32 (S.1 92 (w32 (S.1 13 (w32 x4)))) < (286 : Nat)) ∧ ∀ S8 : ms, S8 = wI S 86 (w32 (S.1 92 (w32 (S.1 13 (w32 x4))))) ((S.1 86 (w32 (S.1 92 (w32 (S.1 13 (w32 x4)))))) + 1) → (0 ≤ w32 x4 ∧ w32 x4 < (6000 : Nat)) ∧ ∃ (z12 : Int) (S10 : ms), EV q 66 0 [some (vI (S8.1 14 (w32 x4))), none] [] S8 (some (vI z12)) S10 ∧ (0 ≤ w32 z12 ∧ w32 z12 < (30 : Nat)) ∧ (0 ≤ w32 z12 ∧ w32 z12 < (30 : Nat)) ∧ ∀ S15 : ms, S15 = wI S10 87 (w32 z12) ((S10.1 87 (w32 z12)) + 1) → EV q 69 111 [some (.ref 30), some (.ref a1), some (vI x2), some (vI x3), some (vI x4)] [] S15 r S') ∧ ((¬ (¬ w32 (S.1 14 (w32 x4)) = 0)) → (0 ≤ w32 x4 ∧ w32 x4 < (6000 : Nat)) ∧ (0 ≤ w32 (S.1 15 (w32 x4)) ∧ w32 (S.1 15 (w32 x4)) < (na1 : Nat)) ∧ (0 ≤ w32 (S.1 (a1 + 1) (w32 (S.1 15 (w32 x4)))) ∧ w32 (S.1 (a1 + 1) (w32 (S.1 15 (w32 x4)))) < (286 : Nat)) ∧ (0 ≤ w32 (S.1 (a1 + 1) (w32 (S.1 15 (w32 x4)))) ∧ w32 (S.1 (a1 + 1) (w32 (S.1 15 (w32 x4)))) < (286 : Nat)) ∧ ∀ S20 : ms, S20 = wI S 86 (w32 (S.1 (a1 + 1) (w32 (S.1 15 (w32 x4))))) ((S.1 86 (w32 (S.1 (a1 + 1) (w32 (S.1 15 (w32 x4)))))) + 1) → EV q 69 111 [some (.ref 30), some (.ref a1), some (vI x2), some (vI x3), some (vI x4)] [] S20 r S'))) : EV q 69 19 [some (.ref 30), some (.ref a1), some (vI x2), some (vI x3), some (vI x4)] [] S r S' := by
  unfold EV
  refine ev_bk 2 (S' := (22, [some (.ref 30), some (.ref a1), some (vI x2), some (vI x3), some (vI x4)], [vI x3, vI x4], hp S, 0, 0)) rfl ?_
  refine mv_icmp 117 rfl rfl (fun c => ?_) (fun c => ?_)
  · have F := F.1 c
    refine ev_bk 1 (S' := (118, [some (.ref 30), some (.ref a1), some (vI x2), some (vI x3), some (vI x4)], [.ref 30], hp S, 0, 0)) rfl ?_
    refine mv_gfR rfl rfl (sh_30) (by decide) rfl ?_
    refine ev_bk 2 (S' := (125, [some (.ref 30), some (.ref a1), some (vI x2), some (vI x3), some (vI x4)], [vI 1, vI 256, .ref 86], hp S, 0, 0)) rfl ?_
    obtain ⟨b1, F⟩ := F
    refine mv_ias rfl (sh_86) b1 ?_
    have F := F _ rfl
    obtain ⟨rfl, rfl⟩ := F
    exact ev_ret rfl rfl
  · have F := F.2 c
    refine ev_bk 1 (S' := (26, [some (.ref 30), some (.ref a1), some (vI x2), some (vI x3), some (vI x4)], [.ref 30], hp S, 0, 0)) rfl ?_
    refine mv_gfR rfl rfl (sh_30) (by decide) rfl ?_
    refine mv_gfR rfl rfl (sh_10) (by decide) rfl ?_
    refine ev_bk 1 (S' := (34, [some (.ref 30), some (.ref a1), some (vI x2), some (vI x3), some (vI x4)], [vI x4, .ref 14], hp S, 0, 0)) rfl ?_
    obtain ⟨b3, F⟩ := F
    refine mv_ial rfl (sh_14) b3 ?_
    refine mv_if 65 rfl rfl (fun c => ?_) (fun c => ?_)
    · have F := F.1 c
      refine ev_bk 1 (S' := (66, [some (.ref 30), some (.ref a1), some (vI x2), some (vI x3), some (vI x4)], [.ref 30], hp S, 0, 0)) rfl ?_
      refine mv_gfR rfl rfl (sh_30) (by decide) rfl ?_
      refine ev_bk 1 (S' := (70, [some (.ref 30), some (.ref a1), some (vI x2), some (vI x3), some (vI x4)], [.ref 30, .ref 86], hp S, 0, 0)) rfl ?_
      refine mv_gfR rfl rfl (sh_30) (by decide) rfl ?_
      refine ev_bk 1 (S' := (74, [some (.ref 30), some (.ref a1), some (vI x2), some (vI x3), some (vI x4)], [.ref 30, .ref 92, .ref 86], hp S, 0, 0)) rfl ?_
      refine mv_gfR rfl rfl (sh_30) (by decide) rfl ?_
      refine mv_gfR rfl rfl (sh_10) (by decide) rfl ?_
      refine ev_bk 1 (S' := (82, [some (.ref 30), some (.ref a1), some (vI x2), some (vI x3), some (vI x4)], [vI x4, .ref 13, .ref 92, .ref 86], hp S, 0, 0)) rfl ?_
      obtain ⟨b4, F⟩ := F
      refine mv_ial rfl (sh_13) b4 ?_
      obtain ⟨b5, F⟩ := F
      refine mv_ial rfl (sh_92) b5 ?_
      refine ev_bk 1 (S' := (85, [some (.ref 30), some (.ref a1), some (vI x2), some (vI x3), some (vI x4)], [vI (S.1 92 (w32 (S.1 13 (w32 x4)))), .ref 86, vI (S.1 92 (w32 (S.1 13 (w32 x4)))), .ref 86], hp S, 0, 0)) rfl ?_
      obtain ⟨b6, F⟩ := F
      refine mv_ial rfl (sh_86) b6 ?_
      refine ev_bk 1 (S' := (87, [some (.ref 30), some (.ref a1), some (vI x2), some (vI x3), some (vI x4)], [vI 1, vI (S.1 86 (w32 (S.1 92 (w32 (S.1 13 (w32 x4)))))), vI (S.1 92 (w32 (S.1 13 (w32 x4)))), .ref 86], hp S, 0, 0)) rfl ?_
      refine mv_iadd rfl ?_
      obtain ⟨b7, F⟩ := F
      refine mv_ias rfl (sh_86) b7 ?_
      have F := F _ rfl
      refine ev_bk 1 (S' := (90, [some (.ref 30), some (.ref a1), some (vI x2), some (vI x3), some (vI x4)], [.ref 30], hp (wI S 86 (w32 (S.1 92 (w32 (S.1 13 (w32 x4))))) ((S.1 86 (w32 (S.1 92 (w32 (S.1 13 (w32 x4)))))) + 1)), 0, 0)) rfl ?_
      refine mv_gfR rfl rfl (sh_30) (by decide) rfl ?_
      refine ev_bk 1 (S' := (94, [some (.ref 30), some (.ref a1), some (vI x2), some (vI x3), some (vI x4)], [.ref 30, .ref 87], hp (wI S 86 (w32 (S.1 92 (w32 (S.1 13 (w32 x4))))) ((S.1 86 (w32 (S.1 92 (w32 (S.1 13 (w32 x4)))))) + 1)), 0, 0)) rfl ?_
      refine mv_gfR rfl rfl (sh_30) (by decide) rfl ?_
      refine mv_gfR rfl rfl (sh_10) (by decide) rfl ?_
      refine ev_bk 1 (S' := (102, [some (.ref 30), some (.ref a1), some (vI x2), some (vI x3), some (vI x4)], [vI x4, .ref 14, .ref 87], hp (wI S 86 (w32 (S.1 92 (w32 (S.1 13 (w32 x4))))) ((S.1 86 (w32 (S.1 92 (w32 (S.1 13 (w32 x4)))))) + 1)), 0, 0)) rfl ?_
      obtain ⟨b9, F⟩ := F
      refine mv_ial rfl (sh_14) b9 ?_
      obtain ⟨z12, S10, e11, F⟩ := F
      refine mv_cals (as := [vI ((wI S 86 (w32 (S.1 92 (w32 (S.1 13 (w32 x4))))) ((S.1 86 (w32 (S.1 92 (w32 (S.1 13 (w32 x4)))))) + 1)).1 14 (w32 x4))]) (rest := [.ref 87]) e11 rfl rfl rfl ⟨rfl, rfl, rfl⟩ rfl rfl rfl rfl ?_
      refine ev_bk 1 (S' := (107, [some (.ref 30), some (.ref a1), some (vI x2), some (vI x3), some (vI x4)], [vI z12, .ref 87, vI z12, .ref 87], hp S10, 0, 0)) rfl ?_
      obtain ⟨b13, F⟩ := F
      refine mv_ial rfl (sh_87) b13 ?_
      refine ev_bk 1 (S' := (109, [some (.ref 30), some (.ref a1), some (vI x2), some (vI x3), some (vI x4)], [vI 1, vI (S10.1 87 (w32 z12)), vI z12, .ref 87], hp S10, 0, 0)) rfl ?_
      refine mv_iadd rfl ?_
      obtain ⟨b14, F⟩ := F
      refine mv_ias rfl (sh_87) b14 ?_
      have F := F _ rfl
      exact F
    · have F := F.2 c
      refine ev_bk 1 (S' := (39, [some (.ref 30), some (.ref a1), some (vI x2), some (vI x3), some (vI x4)], [.ref 30], hp S, 0, 0)) rfl ?_
      refine mv_gfR rfl rfl (sh_30) (by decide) rfl ?_
      refine ev_bk 1 (S' := (43, [some (.ref 30), some (.ref a1), some (vI x2), some (vI x3), some (vI x4)], [.ref a1, .ref 86], hp S, 0, 0)) rfl ?_
      refine mv_gfR rfl rfl (ha1.1) (by decide) rfl ?_
      refine ev_bk 1 (S' := (47, [some (.ref 30), some (.ref a1), some (vI x2), some (vI x3), some (vI x4)], [.ref 30, .ref (a1 + 1), .ref 86], hp S, 0, 0)) rfl ?_
      refine mv_gfR rfl rfl (sh_30) (by decide) rfl ?_
      refine mv_gfR rfl rfl (sh_10) (by decide) rfl ?_
      refine ev_bk 1 (S' := (55, [some (.ref 30), some (.ref a1), some (vI x2), some (vI x3), some (vI x4)], [vI x4, .ref 15, .ref (a1 + 1), .ref 86], hp S, 0, 0)) rfl ?_
      obtain ⟨b16, F⟩ := F
      refine mv_ial rfl (sh_15) b16 ?_
      obtain ⟨b17, F⟩ := F
      refine mv_ial rfl (ha1.2) b17 ?_
      refine ev_bk 1 (S' := (58, [some (.ref 30), some (.ref a1), some (vI x2), some (vI x3), some (vI x4)], [vI (S.1 (a1 + 1) (w32 (S.1 15 (w32 x4)))), .ref 86, vI (S.1 (a1 + 1) (w32 (S.1 15 (w32 x4)))), .ref 86], hp S, 0, 0)) rfl ?_
      obtain ⟨b18, F⟩ := F
      refine mv_ial rfl (sh_86) b18 ?_
      refine ev_bk 1 (S' := (60, [some (.ref 30), some (.ref a1), some (vI x2), some (vI x3), some (vI x4)], [vI 1, vI (S.1 86 (w32 (S.1 (a1 + 1) (w32 (S.1 15 (w32 x4)))))), vI (S.1 (a1 + 1) (w32 (S.1 15 (w32 x4)))), .ref 86], hp S, 0, 0)) rfl ?_
      refine mv_iadd rfl ?_
      obtain ⟨b19, F⟩ := F
      refine mv_ias rfl (sh_86) b19 ?_
      have F := F _ rfl
      refine mv_goto 111 rfl rfl ?_
      exact F
theorem vc_Blocks_tallyTokens_111 {q : Nat × (Nat → Int32)} {S S' : ms} {r : Option Value} (x2 x3 x4 : Int) (a1 na1 : Nat) (ha1 : isRow a1 na1)
    (F : EV q 69 19 [some (.ref 30), some (.ref a1), some (vI x2), some (vI x3), some (vI (x4 + 1))] [] S r S') : EV q 69 111 [some (.ref 30), some (.ref a1), some (vI x2), some (vI x3), some (vI x4)] [] S r S' := by
  unfold EV
  refine mv_inc (lv' := [some (.ref 30), some (.ref a1), some (vI x2), some (vI x3), some (vI (x4 + 1))]) 4 1 rfl rfl rfl rfl ?_
  refine mv_goto 19 rfl rfl ?_
  exact F
theorem vc_Blocks_toldLengths {q : Nat × (Nat → Int32)} {S S' : ms} {r : Option Value} (x1 x2 : Int) (a0 : Nat) (ha0 : isCode a0)
    (F : EV q 74 2 [some (.ref a0), some (vI x1), some (vI x2), some (vI x1)] [] S r S') : EV q 74 0 [some (.ref a0), some (vI x1), some (vI x2), none] [] S r S' := by
  unfold EV
  refine ev_bk 2 (S' := (2, [some (.ref a0), some (vI x1), some (vI x2), some (vI x1)], [], hp S, 0, 0)) rfl ?_
  exact F
theorem vc_Blocks_toldLengths_2 {q : Nat × (Nat → Int32)} {S S' : ms} {r : Option Value} (x1 x2 x3 : Int) (a0 : Nat) (ha0 : isCode a0)
    (F : ((w32 x3 ≤ w32 x2) → r = some (vI x3) ∧ S' = S) ∧ ((¬ w32 x3 ≤ w32 x2) → (0 ≤ w32 (x3 - 1) ∧ w32 (x3 - 1) < (288 : Nat)) ∧ ((¬ w32 (S.1 (a0 + 1) (w32 (x3 - 1))) = 0) → r = some (vI x3) ∧ S' = S) ∧ ((¬ (¬ w32 (S.1 (a0 + 1) (w32 (x3 - 1))) = 0)) → EV q 74 2 [some (.ref a0), some (vI x1), some (vI x2), some (vI (x3 - 1))] [] S r S'))) : EV q 74 2 [some (.ref a0), some (vI x1), some (vI x2), some (vI x3)] [] S r S' := by
  unfold EV
  refine ev_bk 2 (S' := (4, [some (.ref a0), some (vI x1), some (vI x2), some (vI x3)], [vI x2, vI x3], hp S, 0, 0)) rfl ?_
  refine mv_icmp 24 rfl rfl (fun c => ?_) (fun c => ?_)
  · have F := F.1 c
    refine ev_bk 1 (S' := (25, [some (.ref a0), some (vI x1), some (vI x2), some (vI x3)], [vI x3], hp S, 0, 0)) rfl ?_
    obtain ⟨rfl, rfl⟩ := F
    exact ev_ret rfl rfl
  · have F := F.2 c
    refine ev_bk 1 (S' := (8, [some (.ref a0), some (vI x1), some (vI x2), some (vI x3)], [.ref a0], hp S, 0, 0)) rfl ?_
    refine mv_gfR rfl rfl (ha0.1) (by decide) rfl ?_
    refine ev_bk 2 (S' := (13, [some (.ref a0), some (vI x1), some (vI x2), some (vI x3)], [vI 1, vI x3, .ref (a0 + 1)], hp S, 0, 0)) rfl ?_
    refine mv_isub rfl ?_
    obtain ⟨b1, F⟩ := F
    refine mv_ial rfl (ha0.2.1) b1 ?_
    refine mv_if 24 rfl rfl (fun c => ?_) (fun c => ?_)
    · have F := F.1 c
      refine ev_bk 1 (S' := (25, [some (.ref a0), some (vI x1), some (vI x2), some (vI x3)], [vI x3], hp S, 0, 0)) rfl ?_
      obtain ⟨rfl, rfl⟩ := F
      exact ev_ret rfl rfl
    · have F := F.2 c
      refine mv_inc (lv' := [some (.ref a0), some (vI x1), some (vI x2), some (vI (x3 - 1))]) 3 (-1) rfl rfl rfl (by omega) ?_
      refine mv_goto 2 rfl rfl ?_
      exact F
theorem vc_Blocks_makeSteps {q : Nat × (Nat → Int32)} {S S' : ms} {r : Option Value} (x1 : Int)
    (F : ∃ (S1 : ms), EV q 11 0 [some (.ref 88), some (vI 0), none, none] [] S none S1 ∧ ∀ S3 : ms, S3 = wI S1 30 12 0 → EV q 75 17 [some (.ref 30), some (vI x1), some (vI 0), some (vI 0), none, none] [] S3 r S') : EV q 75 0 [some (.ref 30), some (vI x1), none, none, none, none] [] S r S' := by
  unfold EV
  refine ev_bk 1 (S' := (1, [some (.ref 30), some (vI x1), none, none, none, none], [.ref 30], hp S, 0, 0)) rfl ?_
  refine mv_gfR rfl rfl (sh_30) (by decide) rfl ?_
  refine ev_bk 1 (S' := (5, [some (.ref 30), some (vI x1), none, none, none, none], [vI 0, .ref 88], hp S, 0, 0)) rfl ?_
  obtain ⟨S1, e2, F⟩ := F
  refine mv_cals (as := [.ref 88, vI 0]) (rest := []) e2 rfl rfl rfl ⟨rfl, rfl, rfl⟩ rfl rfl rfl rfl ?_
  refine ev_bk 2 (S' := (10, [some (.ref 30), some (vI x1), none, none, none, none], [vI 0, .ref 30], hp S1, 0, 0)) rfl ?_
  refine mv_pfI rfl rfl (sh_30) (by decide) rfl rfl ?_
  have F := F _ rfl
  refine ev_bk 4 (S' := (17, [some (.ref 30), some (vI x1), some (vI 0), some (vI 0), none, none], [], hp (wI S1 30 12 0), 0, 0)) rfl ?_
  exact F
theorem vc_Blocks_makeSteps_17 {q : Nat × (Nat → Int32)} {S S' : ms} {r : Option Value} (x1 x2 x3 : Int)
    (F : ((w32 x1 ≤ w32 x3) → r = none ∧ S' = S) ∧ ((¬ w32 x1 ≤ w32 x3) → ((w32 x1 ≤ w32 x2) → r = none ∧ S' = S) ∧ ((¬ w32 x1 ≤ w32 x2) → (0 ≤ w32 x2 ∧ w32 x2 < (316 : Nat)) ∧ EV q 75 38 [some (.ref 30), some (vI x1), some (vI x2), some (vI x3), some (vI (S.1 89 (w32 x2))), some (vI 1)] [] S r S'))) : EV q 75 17 [some (.ref 30), some (vI x1), some (vI x2), some (vI x3), none, none] [] S r S' := by
  unfold EV
  refine ev_bk 2 (S' := (19, [some (.ref 30), some (vI x1), some (vI x2), some (vI x3), none, none], [vI x1, vI x3], hp S, 0, 0)) rfl ?_
  refine mv_icmp 195 rfl rfl (fun c => ?_) (fun c => ?_)
  · have F := F.1 c
    obtain ⟨rfl, rfl⟩ := F
    exact ev_ret rfl rfl
  · have F := F.2 c
    refine ev_bk 2 (S' := (24, [some (.ref 30), some (vI x1), some (vI x2), some (vI x3), none, none], [vI x1, vI x2], hp S, 0, 0)) rfl ?_
    refine mv_icmp 195 rfl rfl (fun c => ?_) (fun c => ?_)
    · have F := F.1 c
      obtain ⟨rfl, rfl⟩ := F
      exact ev_ret rfl rfl
    · have F := F.2 c
      refine ev_bk 1 (S' := (28, [some (.ref 30), some (vI x1), some (vI x2), some (vI x3), none, none], [.ref 30], hp S, 0, 0)) rfl ?_
      refine mv_gfR rfl rfl (sh_30) (by decide) rfl ?_
      refine ev_bk 1 (S' := (32, [some (.ref 30), some (vI x1), some (vI x2), some (vI x3), none, none], [vI x2, .ref 89], hp S, 0, 0)) rfl ?_
      obtain ⟨b1, F⟩ := F
      refine mv_ial rfl (sh_89) b1 ?_
      refine ev_bk 3 (S' := (38, [some (.ref 30), some (vI x1), some (vI x2), some (vI x3), some (vI (S.1 89 (w32 x2))), some (vI 1)], [], hp S, 0, 0)) rfl ?_
      exact F
theorem vc_Blocks_makeSteps_38 {q : Nat × (Nat → Int32)} {S S' : ms} {r : Option Value} (x1 x2 x3 x4 x5 : Int)
    (F : ((138 ≤ w32 x5) → EV q 75 74 [some (.ref 30), some (vI x1), some (vI x2), some (vI x3), some (vI x4), some (vI x5)] [] S r S') ∧ ((¬ 138 ≤ w32 x5) → ((w32 x1 ≤ w32 (x2 + x5)) → EV q 75 74 [some (.ref 30), some (vI x1), some (vI x2), some (vI x3), some (vI x4), some (vI x5)] [] S r S') ∧ ((¬ w32 x1 ≤ w32 (x2 + x5)) → (0 ≤ w32 (x2 + x5) ∧ w32 (x2 + x5) < (316 : Nat)) ∧ ((¬ w32 (S.1 89 (w32 (x2 + x5))) = w32 x4) → EV q 75 74 [some (.ref 30), some (vI x1), some (vI x2), some (vI x3), some (vI x4), some (vI x5)] [] S r S') ∧ ((¬ (¬ w32 (S.1 89 (w32 (x2 + x5))) = w32 x4)) → EV q 75 38 [some (.ref 30), some (vI x1), some (vI x2), some (vI x3), some (vI x4), some (vI (x5 + 1))] [] S r S')))) : EV q 75 38 [some (.ref 30), some (vI x1), some (vI x2), some (vI x3), some (vI x4), some (vI x5)] [] S r S' := by
  unfold EV
  refine ev_bk 2 (S' := (43, [some (.ref 30), some (vI x1), some (vI x2), some (vI x3), some (vI x4), some (vI x5)], [vI 138, vI x5], hp S, 0, 0)) rfl ?_
  refine mv_icmp 74 rfl rfl (fun c => ?_) (fun c => ?_)
  · have F := F.1 c
    exact F
  · have F := F.2 c
    refine ev_bk 2 (S' := (49, [some (.ref 30), some (vI x1), some (vI x2), some (vI x3), some (vI x4), some (vI x5)], [vI x5, vI x2], hp S, 0, 0)) rfl ?_
    refine mv_iadd rfl ?_
    refine ev_bk 1 (S' := (51, [some (.ref 30), some (vI x1), some (vI x2), some (vI x3), some (vI x4), some (vI x5)], [vI x1, vI (x2 + x5)], hp S, 0, 0)) rfl ?_
    refine mv_icmp 74 rfl rfl (fun c => ?_) (fun c => ?_)
    · have F := F.1 c
      exact F
    · have F := F.2 c
      refine ev_bk 1 (S' := (55, [some (.ref 30), some (vI x1), some (vI x2), some (vI x3), some (vI x4), some (vI x5)], [.ref 30], hp S, 0, 0)) rfl ?_
      refine mv_gfR rfl rfl (sh_30) (by decide) rfl ?_
      refine ev_bk 2 (S' := (61, [some (.ref 30), some (vI x1), some (vI x2), some (vI x3), some (vI x4), some (vI x5)], [vI x5, vI x2, .ref 89], hp S, 0, 0)) rfl ?_
      refine mv_iadd rfl ?_
      obtain ⟨b1, F⟩ := F
      refine mv_ial rfl (sh_89) b1 ?_
      refine ev_bk 1 (S' := (65, [some (.ref 30), some (vI x1), some (vI x2), some (vI x3), some (vI x4), some (vI x5)], [vI x4, vI (S.1 89 (w32 (x2 + x5)))], hp S, 0, 0)) rfl ?_
      refine mv_icmp 74 rfl rfl (fun c => ?_) (fun c => ?_)
      · have F := F.1 c
        exact F
      · have F := F.2 c
        refine mv_inc (lv' := [some (.ref 30), some (vI x1), some (vI x2), some (vI x3), some (vI x4), some (vI (x5 + 1))]) 5 1 rfl rfl rfl rfl ?_
        refine mv_goto 38 rfl rfl ?_
        exact F
theorem vc_Blocks_makeSteps_74 {q : Nat × (Nat → Int32)} {S S' : ms} {r : Option Value} (x1 x2 x3 x4 x5 : Int)
    (F : ((¬ w32 x4 = 0) → EV q 75 100 [some (.ref 30), some (vI x1), some (vI x2), some (vI x3), some (vI x4), some (vI x5)] [] S r S') ∧ ((¬ (¬ w32 x4 = 0)) → ((w32 x5 < 11) → EV q 75 100 [some (.ref 30), some (vI x1), some (vI x2), some (vI x3), some (vI x4), some (vI x5)] [] S r S') ∧ ((¬ w32 x5 < 11) → ∃ (S1 : ms), EV q 76 0 [some (.ref 30), some (vI 18), some (vI (x5 - 11))] [] S none S1 ∧ EV q 75 184 [some (.ref 30), some (vI x1), some (vI x2), some (vI x3), some (vI x4), some (vI x5)] [] S1 r S'))) : EV q 75 74 [some (.ref 30), some (vI x1), some (vI x2), some (vI x3), some (vI x4), some (vI x5)] [] S r S' := by
  unfold EV
  refine ev_bk 1 (S' := (76, [some (.ref 30), some (vI x1), some (vI x2), some (vI x3), some (vI x4), some (vI x5)], [vI x4], hp S, 0, 0)) rfl ?_
  refine mv_if 100 rfl rfl (fun c => ?_) (fun c => ?_)
  · have F := F.1 c
    exact F
  · have F := F.2 c
    refine ev_bk 2 (S' := (83, [some (.ref 30), some (vI x1), some (vI x2), some (vI x3), some (vI x4), some (vI x5)], [vI 11, vI x5], hp S, 0, 0)) rfl ?_
    refine mv_icmp 100 rfl rfl (fun c => ?_) (fun c => ?_)
    · have F := F.1 c
      exact F
    · have F := F.2 c
      refine ev_bk 4 (S' := (93, [some (.ref 30), some (vI x1), some (vI x2), some (vI x3), some (vI x4), some (vI x5)], [vI 11, vI x5, vI 18, .ref 30], hp S, 0, 0)) rfl ?_
      refine mv_isub rfl ?_
      obtain ⟨S1, e2, F⟩ := F
      refine mv_calv (as := [vI 18, vI (x5 - 11)]) (rest := []) e2 (sh_30) rfl rfl rfl ⟨rfl, rfl⟩ rfl rfl rfl rfl rfl ?_
      refine mv_goto 184 rfl rfl ?_
      exact F
theorem vc_Blocks_makeSteps_100 {q : Nat × (Nat → Int32)} {S S' : ms} {r : Option Value} (x1 x2 x3 x4 x5 : Int)
    (F : ((¬ w32 x4 = 0) → EV q 75 124 [some (.ref 30), some (vI x1), some (vI x2), some (vI x3), some (vI x4), some (vI x5)] [] S r S') ∧ ((¬ (¬ w32 x4 = 0)) → ((w32 x5 < 3) → EV q 75 124 [some (.ref 30), some (vI x1), some (vI x2), some (vI x3), some (vI x4), some (vI x5)] [] S r S') ∧ ((¬ w32 x5 < 3) → ∃ (S1 : ms), EV q 76 0 [some (.ref 30), some (vI 17), some (vI (x5 - 3))] [] S none S1 ∧ EV q 75 184 [some (.ref 30), some (vI x1), some (vI x2), some (vI x3), some (vI x4), some (vI x5)] [] S1 r S'))) : EV q 75 100 [some (.ref 30), some (vI x1), some (vI x2), some (vI x3), some (vI x4), some (vI x5)] [] S r S' := by
  unfold EV
  refine ev_bk 1 (S' := (102, [some (.ref 30), some (vI x1), some (vI x2), some (vI x3), some (vI x4), some (vI x5)], [vI x4], hp S, 0, 0)) rfl ?_
  refine mv_if 124 rfl rfl (fun c => ?_) (fun c => ?_)
  · have F := F.1 c
    exact F
  · have F := F.2 c
    refine ev_bk 2 (S' := (108, [some (.ref 30), some (vI x1), some (vI x2), some (vI x3), some (vI x4), some (vI x5)], [vI 3, vI x5], hp S, 0, 0)) rfl ?_
    refine mv_icmp 124 rfl rfl (fun c => ?_) (fun c => ?_)
    · have F := F.1 c
      exact F
    · have F := F.2 c
      refine ev_bk 4 (S' := (117, [some (.ref 30), some (vI x1), some (vI x2), some (vI x3), some (vI x4), some (vI x5)], [vI 3, vI x5, vI 17, .ref 30], hp S, 0, 0)) rfl ?_
      refine mv_isub rfl ?_
      obtain ⟨S1, e2, F⟩ := F
      refine mv_calv (as := [vI 17, vI (x5 - 3)]) (rest := []) e2 (sh_30) rfl rfl rfl ⟨rfl, rfl⟩ rfl rfl rfl rfl rfl ?_
      refine mv_goto 184 rfl rfl ?_
      exact F
theorem vc_Blocks_makeSteps_124 {q : Nat × (Nat → Int32)} {S S' : ms} {r : Option Value} (x1 x2 x3 x4 x5 : Int)
    (F : ((w32 x4 ≤ 0) → EV q 75 174 [some (.ref 30), some (vI x1), some (vI x2), some (vI x3), some (vI x4), some (vI x5)] [] S r S') ∧ ((¬ w32 x4 ≤ 0) → ((w32 x5 < 3) → EV q 75 174 [some (.ref 30), some (vI x1), some (vI x2), some (vI x3), some (vI x4), some (vI x5)] [] S r S') ∧ ((¬ w32 x5 < 3) → ((w32 x2 ≤ 0) → EV q 75 174 [some (.ref 30), some (vI x1), some (vI x2), some (vI x3), some (vI x4), some (vI x5)] [] S r S') ∧ ((¬ w32 x2 ≤ 0) → (0 ≤ w32 (x2 - 1) ∧ w32 (x2 - 1) < (316 : Nat)) ∧ ((¬ w32 (S.1 89 (w32 (x2 - 1))) = w32 x4) → EV q 75 174 [some (.ref 30), some (vI x1), some (vI x2), some (vI x3), some (vI x4), some (vI x5)] [] S r S') ∧ ((¬ (¬ w32 (S.1 89 (w32 (x2 - 1))) = w32 x4)) → ∃ (S2 : ms), EV q 76 0 [some (.ref 30), some (vI 16), some (vI ((min (w32 x5) (w32 6)) - 3))] [] S none S2 ∧ EV q 75 184 [some (.ref 30), some (vI x1), some (vI x2), some (vI x3), some (vI x4), some (vI (min (w32 x5) (w32 6)))] [] S2 r S'))))) : EV q 75 124 [some (.ref 30), some (vI x1), some (vI x2), some (vI x3), some (vI x4), some (vI x5)] [] S r S' := by
  unfold EV
  refine ev_bk 1 (S' := (126, [some (.ref 30), some (vI x1), some (vI x2), some (vI x3), some (vI x4), some (vI x5)], [vI x4], hp S, 0, 0)) rfl ?_
  refine mv_if 174 rfl rfl (fun c => ?_) (fun c => ?_)
  · have F := F.1 c
    exact F
  · have F := F.2 c
    refine ev_bk 2 (S' := (132, [some (.ref 30), some (vI x1), some (vI x2), some (vI x3), some (vI x4), some (vI x5)], [vI 3, vI x5], hp S, 0, 0)) rfl ?_
    refine mv_icmp 174 rfl rfl (fun c => ?_) (fun c => ?_)
    · have F := F.1 c
      exact F
    · have F := F.2 c
      refine ev_bk 1 (S' := (136, [some (.ref 30), some (vI x1), some (vI x2), some (vI x3), some (vI x4), some (vI x5)], [vI x2], hp S, 0, 0)) rfl ?_
      refine mv_if 174 rfl rfl (fun c => ?_) (fun c => ?_)
      · have F := F.1 c
        exact F
      · have F := F.2 c
        refine ev_bk 1 (S' := (140, [some (.ref 30), some (vI x1), some (vI x2), some (vI x3), some (vI x4), some (vI x5)], [.ref 30], hp S, 0, 0)) rfl ?_
        refine mv_gfR rfl rfl (sh_30) (by decide) rfl ?_
        refine ev_bk 2 (S' := (145, [some (.ref 30), some (vI x1), some (vI x2), some (vI x3), some (vI x4), some (vI x5)], [vI 1, vI x2, .ref 89], hp S, 0, 0)) rfl ?_
        refine mv_isub rfl ?_
        obtain ⟨b1, F⟩ := F
        refine mv_ial rfl (sh_89) b1 ?_
        refine ev_bk 1 (S' := (149, [some (.ref 30), some (vI x1), some (vI x2), some (vI x3), some (vI x4), some (vI x5)], [vI x4, vI (S.1 89 (w32 (x2 - 1)))], hp S, 0, 0)) rfl ?_
        refine mv_icmp 174 rfl rfl (fun c => ?_) (fun c => ?_)
        · have F := F.1 c
          exact F
        · have F := F.2 c
          refine ev_bk 2 (S' := (156, [some (.ref 30), some (vI x1), some (vI x2), some (vI x3), some (vI x4), some (vI x5)], [vI 6, vI x5], hp S, 0, 0)) rfl ?_
          refine mv_min rfl rfl rfl ?_
          refine ev_bk 5 (S' := (167, [some (.ref 30), some (vI x1), some (vI x2), some (vI x3), some (vI x4), some (vI (min (w32 x5) (w32 6)))], [vI 3, vI (min (w32 x5) (w32 6)), vI 16, .ref 30], hp S, 0, 0)) rfl ?_
          refine mv_isub rfl ?_
          obtain ⟨S2, e3, F⟩ := F
          refine mv_calv (as := [vI 16, vI ((min (w32 x5) (w32 6)) - 3)]) (rest := []) e3 (sh_30) rfl rfl rfl ⟨rfl, rfl⟩ rfl rfl rfl rfl rfl ?_
          refine mv_goto 184 rfl rfl ?_
          exact F
theorem vc_Blocks_makeSteps_174 {q : Nat × (Nat → Int32)} {S S' : ms} {r : Option Value} (x1 x2 x3 x4 x5 : Int)
    (F : ∃ (S1 : ms), EV q 76 0 [some (.ref 30), some (vI x4), some (vI 0)] [] S none S1 ∧ EV q 75 184 [some (.ref 30), some (vI x1), some (vI x2), some (vI x3), some (vI x4), some (vI 1)] [] S1 r S') : EV q 75 174 [some (.ref 30), some (vI x1), some (vI x2), some (vI x3), some (vI x4), some (vI x5)] [] S r S' := by
  unfold EV
  refine ev_bk 5 (S' := (181, [some (.ref 30), some (vI x1), some (vI x2), some (vI x3), some (vI x4), some (vI 1)], [vI 0, vI x4, .ref 30], hp S, 0, 0)) rfl ?_
  obtain ⟨S1, e2, F⟩ := F
  refine mv_calv (as := [vI x4, vI 0]) (rest := []) e2 (sh_30) rfl rfl rfl ⟨rfl, rfl⟩ rfl rfl rfl rfl rfl ?_
  exact F
theorem vc_Blocks_makeSteps_184 {q : Nat × (Nat → Int32)} {S S' : ms} {r : Option Value} (x1 x2 x3 x4 x5 : Int)
    (F : EV q 75 17 [some (.ref 30), some (vI x1), some (vI (x2 + x5)), some (vI (x3 + 1)), none, none] [] S r S') : EV q 75 184 [some (.ref 30), some (vI x1), some (vI x2), some (vI x3), some (vI x4), some (vI x5)] [] S r S' := by
  unfold EV
  refine ev_bk 2 (S' := (187, [some (.ref 30), some (vI x1), some (vI x2), some (vI x3), some (vI x4), some (vI x5)], [vI x5, vI x2], hp S, 0, 0)) rfl ?_
  refine mv_iadd rfl ?_
  refine ev_bk 1 (S' := (189, [some (.ref 30), some (vI x1), some (vI (x2 + x5)), some (vI x3), some (vI x4), some (vI x5)], [], hp S, 0, 0)) rfl ?_
  refine mv_inc (lv' := [some (.ref 30), some (vI x1), some (vI (x2 + x5)), some (vI (x3 + 1)), some (vI x4), some (vI x5)]) 3 1 rfl rfl rfl rfl ?_
  refine mv_goto 17 rfl rfl ?_
  exact ev_wk (le_s (le_s (le_s (le_s (le_n (le_n le_0)))))) F
theorem vc_Blocks_addStep {q : Nat × (Nat → Int32)} {S S' : ms} {r : Option Value} (x1 x2 : Int)
    (F : ((w32 ((316 : Nat)) ≤ w32 (S.1 30 12)) → r = none ∧ S' = S) ∧ ((¬ w32 ((316 : Nat)) ≤ w32 (S.1 30 12)) → (0 ≤ w32 (S.1 30 12) ∧ w32 (S.1 30 12) < (316 : Nat)) ∧ ∀ S2 : ms, S2 = wI S 90 (w32 (S.1 30 12)) x1 → (0 ≤ w32 (S2.1 30 12) ∧ w32 (S2.1 30 12) < (316 : Nat)) ∧ ∀ S4 : ms, S4 = wI S2 91 (w32 (S2.1 30 12)) x2 → (0 ≤ w32 x1 ∧ w32 x1 < (19 : Nat)) ∧ (0 ≤ w32 x1 ∧ w32 x1 < (19 : Nat)) ∧ ∀ S7 : ms, S7 = wI S4 88 (w32 x1) ((S4.1 88 (w32 x1)) + 1) → ∀ S8 : ms, S8 = wI S7 30 12 (S7.1 30 12 + 1) → r = none ∧ S' = S8)) : EV q 76 0 [some (.ref 30), some (vI x1), some (vI x2)] [] S r S' := by
  unfold EV
  refine ev_bk 1 (S' := (1, [some (.ref 30), some (vI x1), some (vI x2)], [.ref 30], hp S, 0, 0)) rfl ?_
  refine mv_gfI rfl rfl (sh_30) (by decide) rfl ?_
  refine ev_bk 1 (S' := (5, [some (.ref 30), some (vI x1), some (vI x2)], [.ref 30, vI (S.1 30 12)], hp S, 0, 0)) rfl ?_
  refine mv_gfR rfl rfl (sh_30) (by decide) rfl ?_
  refine mv_len rfl (sh_90) (by decide) ?_
  refine mv_icmp 52 rfl rfl (fun c => ?_) (fun c => ?_)
  · have F := F.1 c
    obtain ⟨rfl, rfl⟩ := F
    exact ev_ret rfl rfl
  · have F := F.2 c
    refine ev_bk 1 (S' := (13, [some (.ref 30), some (vI x1), some (vI x2)], [.ref 30], hp S, 0, 0)) rfl ?_
    refine mv_gfR rfl rfl (sh_30) (by decide) rfl ?_
    refine ev_bk 1 (S' := (17, [some (.ref 30), some (vI x1), some (vI x2)], [.ref 30, .ref 90], hp S, 0, 0)) rfl ?_
    refine mv_gfI rfl rfl (sh_30) (by decide) rfl ?_
    refine ev_bk 1 (S' := (21, [some (.ref 30), some (vI x1), some (vI x2)], [vI x1, vI (S.1 30 12), .ref 90], hp S, 0, 0)) rfl ?_
    obtain ⟨b1, F⟩ := F
    refine mv_ias rfl (sh_90) b1 ?_
    have F := F _ rfl
    refine ev_bk 1 (S' := (23, [some (.ref 30), some (vI x1), some (vI x2)], [.ref 30], hp (wI S 90 (w32 (S.1 30 12)) x1), 0, 0)) rfl ?_
    refine mv_gfR rfl rfl (sh_30) (by decide) rfl ?_
    refine ev_bk 1 (S' := (27, [some (.ref 30), some (vI x1), some (vI x2)], [.ref 30, .ref 91], hp (wI S 90 (w32 (S.1 30 12)) x1), 0, 0)) rfl ?_
    refine mv_gfI rfl rfl (sh_30) (by decide) rfl ?_
    refine ev_bk 1 (S' := (31, [some (.ref 30), some (vI x1), some (vI x2)], [vI x2, vI ((wI S 90 (w32 (S.1 30 12)) x1).1 30 12), .ref 91], hp (wI S 90 (w32 (S.1 30 12)) x1), 0, 0)) rfl ?_
    obtain ⟨b3, F⟩ := F
    refine mv_ias rfl (sh_91) b3 ?_
    have F := F _ rfl
    refine ev_bk 1 (S' := (33, [some (.ref 30), some (vI x1), some (vI x2)], [.ref 30], hp (wI (wI S 90 (w32 (S.1 30 12)) x1) 91 (w32 ((wI S 90 (w32 (S.1 30 12)) x1).1 30 12)) x2), 0, 0)) rfl ?_
    refine mv_gfR rfl rfl (sh_30) (by decide) rfl ?_
    refine ev_bk 2 (S' := (38, [some (.ref 30), some (vI x1), some (vI x2)], [vI x1, .ref 88, vI x1, .ref 88], hp (wI (wI S 90 (w32 (S.1 30 12)) x1) 91 (w32 ((wI S 90 (w32 (S.1 30 12)) x1).1 30 12)) x2), 0, 0)) rfl ?_
    obtain ⟨b5, F⟩ := F
    refine mv_ial rfl (sh_88) b5 ?_
    refine ev_bk 1 (S' := (40, [some (.ref 30), some (vI x1), some (vI x2)], [vI 1, vI ((wI (wI S 90 (w32 (S.1 30 12)) x1) 91 (w32 ((wI S 90 (w32 (S.1 30 12)) x1).1 30 12)) x2).1 88 (w32 x1)), vI x1, .ref 88], hp (wI (wI S 90 (w32 (S.1 30 12)) x1) 91 (w32 ((wI S 90 (w32 (S.1 30 12)) x1).1 30 12)) x2), 0, 0)) rfl ?_
    refine mv_iadd rfl ?_
    obtain ⟨b6, F⟩ := F
    refine mv_ias rfl (sh_88) b6 ?_
    have F := F _ rfl
    refine ev_bk 2 (S' := (44, [some (.ref 30), some (vI x1), some (vI x2)], [.ref 30, .ref 30], hp (wI (wI (wI S 90 (w32 (S.1 30 12)) x1) 91 (w32 ((wI S 90 (w32 (S.1 30 12)) x1).1 30 12)) x2) 88 (w32 x1) (((wI (wI S 90 (w32 (S.1 30 12)) x1) 91 (w32 ((wI S 90 (w32 (S.1 30 12)) x1).1 30 12)) x2).1 88 (w32 x1)) + 1)), 0, 0)) rfl ?_
    refine mv_gfI rfl rfl (sh_30) (by decide) rfl ?_
    refine ev_bk 1 (S' := (48, [some (.ref 30), some (vI x1), some (vI x2)], [vI 1, vI ((wI (wI (wI S 90 (w32 (S.1 30 12)) x1) 91 (w32 ((wI S 90 (w32 (S.1 30 12)) x1).1 30 12)) x2) 88 (w32 x1) (((wI (wI S 90 (w32 (S.1 30 12)) x1) 91 (w32 ((wI S 90 (w32 (S.1 30 12)) x1).1 30 12)) x2).1 88 (w32 x1)) + 1)).1 30 12), .ref 30], hp (wI (wI (wI S 90 (w32 (S.1 30 12)) x1) 91 (w32 ((wI S 90 (w32 (S.1 30 12)) x1).1 30 12)) x2) 88 (w32 x1) (((wI (wI S 90 (w32 (S.1 30 12)) x1) 91 (w32 ((wI S 90 (w32 (S.1 30 12)) x1).1 30 12)) x2).1 88 (w32 x1)) + 1)), 0, 0)) rfl ?_
    refine mv_iadd rfl ?_
    refine mv_pfI rfl rfl (sh_30) (by decide) rfl rfl ?_
    have F := F _ rfl
    obtain ⟨rfl, rfl⟩ := F
    exact ev_ret rfl rfl
theorem vc_Blocks_stepsOut {q : Nat × (Nat → Int32)} {S S' : ms} {r : Option Value} (a1 na1 : Nat) (ha1 : isRow a1 na1)
    (F : EV q 77 2 [some (.ref 30), some (.ref a1), some (vI 0), none] [] S r S') : EV q 77 0 [some (.ref 30), some (.ref a1), none, none] [] S r S' := by
  unfold EV
  refine ev_bk 2 (S' := (2, [some (.ref 30), some (.ref a1), some (vI 0), none], [], hp S, 0, 0)) rfl ?_
  exact F
theorem vc_Blocks_stepsOut_2 {q : Nat × (Nat → Int32)} {S S' : ms} {r : Option Value} (x2 : Int) (a1 na1 : Nat) (ha1 : isRow a1 na1)
    (F : ((w32 (S.1 30 12) ≤ w32 x2) → r = none ∧ S' = S) ∧ ((¬ w32 (S.1 30 12) ≤ w32 x2) → (0 ≤ w32 x2 ∧ w32 x2 < (316 : Nat)) ∧ (0 ≤ w32 (S.1 90 (w32 x2)) ∧ w32 (S.1 90 (w32 x2)) < (288 : Nat)) ∧ (0 ≤ w32 (S.1 90 (w32 x2)) ∧ w32 (S.1 90 (w32 x2)) < (288 : Nat)) ∧ ∃ (S4 : ms), EV q 49 0 [some (.ref a1), some (vI (S.1 78 (w32 (S.1 90 (w32 x2))))), some (vI (S.1 76 (w32 (S.1 90 (w32 x2))))), none, none, none, none, none] [] S none S4 ∧ (0 ≤ w32 x2 ∧ w32 x2 < (316 : Nat)) ∧ ∃ (z9 : Int) (S7 : ms), EV q 78 0 [some (vI (S.1 90 (w32 x2)))] [] S4 (some (vI z9)) S7 ∧ ∃ (S10 : ms), EV q 49 0 [some (.ref a1), some (vI (S4.1 91 (w32 x2))), some (vI z9), none, none, none, none, none] [] S7 none S10 ∧ EV q 77 2 [some (.ref 30), some (.ref a1), some (vI (x2 + 1)), none] [] S10 r S')) : EV q 77 2 [some (.ref 30), some (.ref a1), some (vI x2), none] [] S r S' := by
  unfold EV
  refine ev_bk 2 (S' := (4, [some (.ref 30), some (.ref a1), some (vI x2), none], [.ref 30, vI x2], hp S, 0, 0)) rfl ?_
  refine mv_gfI rfl rfl (sh_30) (by decide) rfl ?_
  refine mv_icmp 59 rfl rfl (fun c => ?_) (fun c => ?_)
  · have F := F.1 c
    obtain ⟨rfl, rfl⟩ := F
    exact ev_ret rfl rfl
  · have F := F.2 c
    refine ev_bk 1 (S' := (11, [some (.ref 30), some (.ref a1), some (vI x2), none], [.ref 30], hp S, 0, 0)) rfl ?_
    refine mv_gfR rfl rfl (sh_30) (by decide) rfl ?_
    refine ev_bk 1 (S' := (15, [some (.ref 30), some (.ref a1), some (vI x2), none], [vI x2, .ref 90], hp S, 0, 0)) rfl ?_
    obtain ⟨b1, F⟩ := F
    refine mv_ial rfl (sh_90) b1 ?_
    refine ev_bk 3 (S' := (19, [some (.ref 30), some (.ref a1), some (vI x2), some (vI (S.1 90 (w32 x2)))], [.ref 30, .ref a1], hp S, 0, 0)) rfl ?_
    refine mv_gfR rfl rfl (sh_30) (by decide) rfl ?_
    refine mv_gfR rfl rfl (sh_75) (by decide) rfl ?_
    refine ev_bk 1 (S' := (26, [some (.ref 30), some (.ref a1), some (vI x2), some (vI (S.1 90 (w32 x2)))], [vI (S.1 90 (w32 x2)), .ref 78, .ref a1], hp S, 0, 0)) rfl ?_
    obtain ⟨b2, F⟩ := F
    refine mv_ial rfl (sh_78) b2 ?_
    refine ev_bk 1 (S' := (28, [some (.ref 30), some (.ref a1), some (vI x2), some (vI (S.1 90 (w32 x2)))], [.ref 30, vI (S.1 78 (w32 (S.1 90 (w32 x2)))), .ref a1], hp S, 0, 0)) rfl ?_
    refine mv_gfR rfl rfl (sh_30) (by decide) rfl ?_
    refine mv_gfR rfl rfl (sh_75) (by decide) rfl ?_
    refine ev_bk 1 (S' := (35, [some (.ref 30), some (.ref a1), some (vI x2), some (vI (S.1 90 (w32 x2)))], [vI (S.1 90 (w32 x2)), .ref 76, vI (S.1 78 (w32 (S.1 90 (w32 x2)))), .ref a1], hp S, 0, 0)) rfl ?_
    obtain ⟨b3, F⟩ := F
    refine mv_ial rfl (sh_76) b3 ?_
    obtain ⟨S4, e5, F⟩ := F
    refine mv_calv (as := [vI (S.1 78 (w32 (S.1 90 (w32 x2)))), vI (S.1 76 (w32 (S.1 90 (w32 x2))))]) (rest := []) e5 (ha1.1) rfl rfl rfl ⟨rfl, rfl⟩ rfl rfl rfl rfl rfl ?_
    refine ev_bk 2 (S' := (41, [some (.ref 30), some (.ref a1), some (vI x2), some (vI (S.1 90 (w32 x2)))], [.ref 30, .ref a1], hp S4, 0, 0)) rfl ?_
    refine mv_gfR rfl rfl (sh_30) (by decide) rfl ?_
    refine ev_bk 1 (S' := (45, [some (.ref 30), some (.ref a1), some (vI x2), some (vI (S.1 90 (w32 x2)))], [vI x2, .ref 91, .ref a1], hp S4, 0, 0)) rfl ?_
    obtain ⟨b6, F⟩ := F
    refine mv_ial rfl (sh_91) b6 ?_
    refine ev_bk 1 (S' := (47, [some (.ref 30), some (.ref a1), some (vI x2), some (vI (S.1 90 (w32 x2)))], [vI (S.1 90 (w32 x2)), vI (S4.1 91 (w32 x2)), .ref a1], hp S4, 0, 0)) rfl ?_
    obtain ⟨z9, S7, e8, F⟩ := F
    refine mv_cals (as := [vI (S.1 90 (w32 x2))]) (rest := [vI (S4.1 91 (w32 x2)), .ref a1]) e8 rfl rfl rfl ⟨rfl, rfl, rfl⟩ rfl rfl rfl rfl ?_
    obtain ⟨S10, e11, F⟩ := F
    refine mv_calv (as := [vI (S4.1 91 (w32 x2)), vI z9]) (rest := []) e11 (ha1.1) rfl rfl rfl ⟨rfl, rfl⟩ rfl rfl rfl rfl rfl ?_
    refine mv_inc (lv' := [some (.ref 30), some (.ref a1), some (vI (x2 + 1)), some (vI (S.1 90 (w32 x2)))]) 2 1 rfl rfl rfl rfl ?_
    refine mv_goto 2 rfl rfl ?_
    exact ev_wk (le_s (le_s (le_s (le_n le_0)))) F
theorem vc_Blocks_stepBits {q : Nat × (Nat → Int32)} {S S' : ms} {r : Option Value} (x0 : Int)
    (F : ((16 ≤ w32 x0) → ((¬ w32 x0 = 16) → ((¬ w32 x0 = 17) → r = some (vI 7) ∧ S' = S) ∧ ((¬ (¬ w32 x0 = 17)) → r = some (vI 3) ∧ S' = S)) ∧ ((¬ (¬ w32 x0 = 16)) → r = some (vI 2) ∧ S' = S)) ∧ ((¬ 16 ≤ w32 x0) → r = some (vI 0) ∧ S' = S)) : EV q 78 0 [some (vI x0)] [] S r S' := by
  unfold EV
  refine ev_bk 2 (S' := (3, [some (vI x0)], [vI 16, vI x0], hp S, 0, 0)) rfl ?_
  refine mv_icmp 10 rfl rfl (fun c => ?_) (fun c => ?_)
  · have F := F.1 c
    refine ev_bk 2 (S' := (13, [some (vI x0)], [vI 16, vI x0], hp S, 0, 0)) rfl ?_
    refine mv_icmp 20 rfl rfl (fun c => ?_) (fun c => ?_)
    · have F := F.1 c
      refine ev_bk 2 (S' := (23, [some (vI x0)], [vI 17, vI x0], hp S, 0, 0)) rfl ?_
      refine mv_icmp 30 rfl rfl (fun c => ?_) (fun c => ?_)
      · have F := F.1 c
        refine ev_bk 1 (S' := (32, [some (vI x0)], [vI 7], hp S, 0, 0)) rfl ?_
        obtain ⟨rfl, rfl⟩ := F
        exact ev_ret rfl rfl
      · have F := F.2 c
        refine ev_bk 1 (S' := (27, [some (vI x0)], [vI 3], hp S, 0, 0)) rfl ?_
        refine mv_goto 32 rfl rfl ?_
        obtain ⟨rfl, rfl⟩ := F
        exact ev_ret rfl rfl
    · have F := F.2 c
      refine ev_bk 1 (S' := (17, [some (vI x0)], [vI 2], hp S, 0, 0)) rfl ?_
      refine mv_goto 32 rfl rfl ?_
      obtain ⟨rfl, rfl⟩ := F
      exact ev_ret rfl rfl
  · have F := F.2 c
    refine ev_bk 1 (S' := (7, [some (vI x0)], [vI 0], hp S, 0, 0)) rfl ?_
    refine mv_goto 32 rfl rfl ?_
    obtain ⟨rfl, rfl⟩ := F
    exact ev_ret rfl rfl
theorem vc_Blocks_gapPrice {q : Nat × (Nat → Int32)} {S S' : ms} {r : Option Value} (x0 : Int)
    (F : ∃ (z3 : Int) (S1 : ms), EV q 66 0 [some (vI x0), none] [] S (some (vI z3)) S1 ∧ (0 ≤ w32 z3 ∧ w32 z3 < (30 : Nat)) ∧ r = some (vI (5 + (sS 5 (w32 z3)))) ∧ S' = S1) : EV q 81 0 [some (vI x0)] [] S r S' := by
  unfold EV
  refine ev_bk 1 (S' := (1, [some (vI x0)], [vI 5], hp S, 0, 0)) rfl ?_
  refine mv_gs (k := 5) rfl rfl ?_
  refine ev_bk 1 (S' := (5, [some (vI x0)], [vI x0, .ref (en_b + 5), vI 5], hp S, 0, 0)) rfl ?_
  obtain ⟨z3, S1, e2, F⟩ := F
  refine mv_cals (as := [vI x0]) (rest := [.ref (en_b + 5), vI 5]) e2 rfl rfl rfl ⟨rfl, rfl, rfl⟩ rfl rfl rfl rfl ?_
  obtain ⟨b4, F⟩ := F
  refine mv_sal (k := 5) rfl rfl (by decide) b4 ?_
  refine mv_iadd rfl ?_
  obtain ⟨rfl, rfl⟩ := F
  exact ev_ret rfl rfl
theorem vc_Blocks_ownBlocks {q : Nat × (Nat → Int32)} {S S' : ms} {r : Option Value} (a1 na1 : Nat) (ha1 : isRow a1 na1) (a2 na2 : Nat) (ha2 : isRow a2 na2)
    (F : EV q 82 25 [some (.ref 30), some (.ref a1), some (.ref a2), some (vI (max (w32 1) (w32 (Int.tdiv (w32 ((S.1 a1 1 + 2000) - 1)) (w32 2000))))), some (vI 0), some (vI 0), none] [] S r S') : EV q 82 0 [some (.ref 30), some (.ref a1), some (.ref a2), none, none, none, none] [] S r S' := by
  unfold EV
  refine ev_bk 2 (S' := (2, [some (.ref 30), some (.ref a1), some (.ref a2), none, none, none, none], [.ref a1, vI 1], hp S, 0, 0)) rfl ?_
  refine mv_gfI rfl rfl (ha1.1) (by decide) rfl ?_
  refine ev_bk 1 (S' := (8, [some (.ref 30), some (.ref a1), some (.ref a2), none, none, none, none], [vI 2000, vI (S.1 a1 1), vI 1], hp S, 0, 0)) rfl ?_
  refine mv_iadd rfl ?_
  refine ev_bk 1 (S' := (10, [some (.ref 30), some (.ref a1), some (.ref a2), none, none, none, none], [vI 1, vI (S.1 a1 1 + 2000), vI 1], hp S, 0, 0)) rfl ?_
  refine mv_isub rfl ?_
  refine ev_bk 1 (S' := (14, [some (.ref 30), some (.ref a1), some (.ref a2), none, none, none, none], [vI 2000, vI ((S.1 a1 1 + 2000) - 1), vI 1], hp S, 0, 0)) rfl ?_
  refine mv_idiv (by decide) rfl ?_
  refine mv_max rfl rfl rfl ?_
  refine ev_bk 5 (S' := (25, [some (.ref 30), some (.ref a1), some (.ref a2), some (vI (max (w32 1) (w32 (Int.tdiv (w32 ((S.1 a1 1 + 2000) - 1)) (w32 2000))))), some (vI 0), some (vI 0), none], [], hp S, 0, 0)) rfl ?_
  exact F
theorem vc_Blocks_ownBlocks_25 {q : Nat × (Nat → Int32)} {S S' : ms} {r : Option Value} (x3 x4 x5 : Int) (a1 na1 : Nat) (ha1 : isRow a1 na1) (a2 na2 : Nat) (ha2 : isRow a2 na2)
    (F : ((w32 x3 ≤ w32 x5) → r = none ∧ S' = S) ∧ ((¬ w32 x3 ≤ w32 x5) → EV q 82 35 [some (.ref 30), some (.ref a1), some (.ref a2), some (vI x3), some (vI x4), some (vI x5), some (vI x4)] [] S r S')) : EV q 82 25 [some (.ref 30), some (.ref a1), some (.ref a2), some (vI x3), some (vI x4), some (vI x5), none] [] S r S' := by
  unfold EV
  refine ev_bk 2 (S' := (28, [some (.ref 30), some (.ref a1), some (.ref a2), some (vI x3), some (vI x4), some (vI x5), none], [vI x3, vI x5], hp S, 0, 0)) rfl ?_
  refine mv_icmp 107 rfl rfl (fun c => ?_) (fun c => ?_)
  · have F := F.1 c
    obtain ⟨rfl, rfl⟩ := F
    exact ev_ret rfl rfl
  · have F := F.2 c
    refine ev_bk 2 (S' := (35, [some (.ref 30), some (.ref a1), some (.ref a2), some (vI x3), some (vI x4), some (vI x5), some (vI x4)], [], hp S, 0, 0)) rfl ?_
    exact F
theorem vc_Blocks_ownBlocks_35 {q : Nat × (Nat → Int32)} {S S' : ms} {r : Option Value} (x3 x4 x5 x6 : Int) (a1 na1 : Nat) (ha1 : isRow a1 na1) (a2 na2 : Nat) (ha2 : isRow a2 na2)
    (F : ((w32 (S.1 10 8) ≤ w32 x6) → EV q 82 74 [some (.ref 30), some (.ref a1), some (.ref a2), some (vI x3), some (vI x4), some (vI x5), some (vI x6)] [] S r S') ∧ ((¬ w32 (S.1 10 8) ≤ w32 x6) → (0 ≤ w32 x6 ∧ w32 x6 < (6000 : Nat)) ∧ ((w32 ((x5 + 1) * 2000) ≤ w32 (S.1 15 (w32 x6))) → EV q 82 74 [some (.ref 30), some (.ref a1), some (.ref a2), some (vI x3), some (vI x4), some (vI x5), some (vI x6)] [] S r S') ∧ ((¬ w32 ((x5 + 1) * 2000) ≤ w32 (S.1 15 (w32 x6))) → EV q 82 35 [some (.ref 30), some (.ref a1), some (.ref a2), some (vI x3), some (vI x4), some (vI x5), some (vI (x6 + 1))] [] S r S'))) : EV q 82 35 [some (.ref 30), some (.ref a1), some (.ref a2), some (vI x3), some (vI x4), some (vI x5), some (vI x6)] [] S r S' := by
  unfold EV
  refine ev_bk 2 (S' := (38, [some (.ref 30), some (.ref a1), some (.ref a2), some (vI x3), some (vI x4), some (vI x5), some (vI x6)], [.ref 30, vI x6], hp S, 0, 0)) rfl ?_
  refine mv_gfR rfl rfl (sh_30) (by decide) rfl ?_
  refine mv_gfI rfl rfl (sh_10) (by decide) rfl ?_
  refine mv_icmp 74 rfl rfl (fun c => ?_) (fun c => ?_)
  · have F := F.1 c
    exact F
  · have F := F.2 c
    refine ev_bk 1 (S' := (48, [some (.ref 30), some (.ref a1), some (.ref a2), some (vI x3), some (vI x4), some (vI x5), some (vI x6)], [.ref 30], hp S, 0, 0)) rfl ?_
    refine mv_gfR rfl rfl (sh_30) (by decide) rfl ?_
    refine mv_gfR rfl rfl (sh_10) (by decide) rfl ?_
    refine ev_bk 1 (S' := (56, [some (.ref 30), some (.ref a1), some (.ref a2), some (vI x3), some (vI x4), some (vI x5), some (vI x6)], [vI x6, .ref 15], hp S, 0, 0)) rfl ?_
    obtain ⟨b1, F⟩ := F
    refine mv_ial rfl (sh_15) b1 ?_
    refine ev_bk 2 (S' := (60, [some (.ref 30), some (.ref a1), some (.ref a2), some (vI x3), some (vI x4), some (vI x5), some (vI x6)], [vI 1, vI x5, vI (S.1 15 (w32 x6))], hp S, 0, 0)) rfl ?_
    refine mv_iadd rfl ?_
    refine ev_bk 1 (S' := (64, [some (.ref 30), some (.ref a1), some (.ref a2), some (vI x3), some (vI x4), some (vI x5), some (vI x6)], [vI 2000, vI (x5 + 1), vI (S.1 15 (w32 x6))], hp S, 0, 0)) rfl ?_
    refine mv_imul rfl ?_
    refine mv_icmp 74 rfl rfl (fun c => ?_) (fun c => ?_)
    · have F := F.1 c
      exact F
    · have F := F.2 c
      refine mv_inc (lv' := [some (.ref 30), some (.ref a1), some (.ref a2), some (vI x3), some (vI x4), some (vI x5), some (vI (x6 + 1))]) 6 1 rfl rfl rfl rfl ?_
      refine mv_goto 35 rfl rfl ?_
      exact F
theorem vc_Blocks_ownBlocks_74 {q : Nat × (Nat → Int32)} {S S' : ms} {r : Option Value} (x3 x4 x5 x6 : Int) (a1 na1 : Nat) (ha1 : isRow a1 na1) (a2 na2 : Nat) (ha2 : isRow a2 na2)
    (F : ((¬ w32 x5 = w32 (x3 - 1)) → EV q 82 93 [some (.ref 30), some (.ref a1), some (.ref a2), some (vI x3), some (vI x4), some (vI x5), some (vI x6)] [vI 0, vI x6, vI x4, .ref a1, .ref 30] S r S') ∧ ((¬ (¬ w32 x5 = w32 (x3 - 1))) → EV q 82 93 [some (.ref 30), some (.ref a1), some (.ref a2), some (vI x3), some (vI x4), some (vI x5), some (vI x6)] [vI 1, vI x6, vI x4, .ref a1, .ref 30] S r S')) : EV q 82 74 [some (.ref 30), some (.ref a1), some (.ref a2), some (vI x3), some (vI x4), some (vI x5), some (vI x6)] [] S r S' := by
  unfold EV
  refine ev_bk 7 (S' := (84, [some (.ref 30), some (.ref a1), some (.ref a2), some (vI x3), some (vI x4), some (vI x5), some (vI x6)], [vI 1, vI x3, vI x5, vI x6, vI x4, .ref a1, .ref 30], hp S, 0, 0)) rfl ?_
  refine mv_isub rfl ?_
  refine mv_icmp 92 rfl rfl (fun c => ?_) (fun c => ?_)
  · have F := F.1 c
    refine ev_bk 1 (S' := (93, [some (.ref 30), some (.ref a1), some (.ref a2), some (vI x3), some (vI x4), some (vI x5), some (vI x6)], [vI 0, vI x6, vI x4, .ref a1, .ref 30], hp S, 0, 0)) rfl ?_
    exact F
  · have F := F.2 c
    refine ev_bk 1 (S' := (89, [some (.ref 30), some (.ref a1), some (.ref a2), some (vI x3), some (vI x4), some (vI x5), some (vI x6)], [vI 1, vI x6, vI x4, .ref a1, .ref 30], hp S, 0, 0)) rfl ?_
    refine mv_goto 93 rfl rfl ?_
    exact F
theorem vc_Blocks_ownBlocks_93 {q : Nat × (Nat → Int32)} {S S' : ms} {r : Option Value} (x3 x4 x5 x6 y0 y1 y2 : Int) (a1 na1 : Nat) (ha1 : isRow a1 na1) (a2 na2 : Nat) (ha2 : isRow a2 na2) (c3 nc3 : Nat) (hc3 : isRow c3 nc3)
    (F : ∃ (S1 : ms), EV q 68 0 [some (.ref 30), some (.ref c3), some (vI y2), some (vI y1), some (vI y0), some (.ref a2), none, none, none, none] [] S none S1 ∧ EV q 82 25 [some (.ref 30), some (.ref a1), some (.ref a2), some (vI x3), some (vI x6), some (vI (x5 + 1)), none] [] S1 r S') : EV q 82 93 [some (.ref 30), some (.ref a1), some (.ref a2), some (vI x3), some (vI x4), some (vI x5), some (vI x6)] [vI y0, vI y1, vI y2, .ref c3, .ref 30] S r S' := by
  unfold EV
  refine ev_bk 1 (S' := (94, [some (.ref 30), some (.ref a1), some (.ref a2), some (vI x3), some (vI x4), some (vI x5), some (vI x6)], [.ref a2, vI y0, vI y1, vI y2, .ref c3, .ref 30], hp S, 0, 0)) rfl ?_
  obtain ⟨S1, e2, F⟩ := F
  refine mv_calv (as := [.ref c3, vI y2, vI y1, vI y0, .ref a2]) (rest := []) e2 (sh_30) rfl rfl rfl ⟨rfl, rfl⟩ rfl rfl rfl rfl rfl ?_
  refine ev_bk 2 (S' := (101, [some (.ref 30), some (.ref a1), some (.ref a2), some (vI x3), some (vI x6), some (vI x5), some (vI x6)], [], hp S1, 0, 0)) rfl ?_
  refine mv_inc (lv' := [some (.ref 30), some (.ref a1), some (.ref a2), some (vI x3), some (vI x6), some (vI (x5 + 1)), some (vI x6)]) 5 1 rfl rfl rfl rfl ?_
  refine mv_goto 25 rfl rfl ?_
  exact ev_wk (le_s (le_s (le_s (le_s (le_s (le_s (le_n le_0))))))) F
theorem vc_Blocks_tailOut {q : Nat × (Nat → Int32)} {S S' : ms} {r : Option Value} (x1 : Int) (a2 na2 : Nat) (ha2 : isRow a2 na2) (a3 na3 : Nat) (ha3 : isRow a3 na3)
    (F : ((¬ w32 x1 = 4) → ((¬ w32 x1 = 5) → r = none ∧ S' = S) ∧ ((¬ (¬ w32 x1 = 5)) → ∃ (z3 : Int) (S1 : ms), EV q 28 0 [some (.ref (a2 + 1)), some (vI 0), some (vI (S.1 a2 1)), none, none] [] S (some (vI z3)) S1 ∧ ∃ (S4 : ms), EV q 57 0 [some (.ref a3), some (vL (w32 z3)), none, some (vI 4), none] [] S1 none S4 ∧ ∃ (S6 : ms), EV q 57 0 [some (.ref a3), some (vL (w32 (S4.1 a2 1))), none, some (vI 4), none] [] S4 none S6 ∧ r = none ∧ S' = S6)) ∧ ((¬ (¬ w32 x1 = 4)) → ∃ (z10 : Int) (S8 : ms), EV q 27 0 [some (.ref (a2 + 1)), some (vI 0), some (vI (S.1 a2 1)), none, none, none] [] S (some (vI z10)) S8 ∧ ∃ (S11 : ms), EV q 18 0 [some (.ref a3), some (vL (w32 z10)), none, some (vI 4), none] [] S8 none S11 ∧ r = none ∧ S' = S11)) : EV q 83 0 [some (.ref 30), some (vI x1), some (.ref a2), some (.ref a3)] [] S r S' := by
  unfold EV
  refine ev_bk 2 (S' := (2, [some (.ref 30), some (vI x1), some (.ref a2), some (.ref a3)], [vI 4, vI x1], hp S, 0, 0)) rfl ?_
  refine mv_icmp 26 rfl rfl (fun c => ?_) (fun c => ?_)
  · have F := F.1 c
    refine ev_bk 2 (S' := (28, [some (.ref 30), some (vI x1), some (.ref a2), some (.ref a3)], [vI 5, vI x1], hp S, 0, 0)) rfl ?_
    refine mv_icmp 59 rfl rfl (fun c => ?_) (fun c => ?_)
    · have F := F.1 c
      obtain ⟨rfl, rfl⟩ := F
      exact ev_ret rfl rfl
    · have F := F.2 c
      refine ev_bk 2 (S' := (33, [some (.ref 30), some (vI x1), some (.ref a2), some (.ref a3)], [.ref a2, .ref a3], hp S, 0, 0)) rfl ?_
      refine mv_gfR rfl rfl (ha2.1) (by decide) rfl ?_
      refine ev_bk 2 (S' := (38, [some (.ref 30), some (vI x1), some (.ref a2), some (.ref a3)], [.ref a2, vI 0, .ref (a2 + 1), .ref a3], hp S, 0, 0)) rfl ?_
      refine mv_gfI rfl rfl (ha2.1) (by decide) rfl ?_
      obtain ⟨z3, S1, e2, F⟩ := F
      refine mv_cals (as := [.ref (a2 + 1), vI 0, vI (S.1 a2 1)]) (rest := [.ref a3]) e2 rfl rfl rfl ⟨rfl, rfl, rfl⟩ rfl rfl rfl rfl ?_
      refine mv_i2l rfl ?_
      refine ev_bk 1 (S' := (46, [some (.ref 30), some (vI x1), some (.ref a2), some (.ref a3)], [vI 4, vL (w32 z3), .ref a3], hp S1, 0, 0)) rfl ?_
      obtain ⟨S4, e5, F⟩ := F
      refine mv_calv (as := [vL (w32 z3), vI 4]) (rest := []) e5 (ha3.1) rfl rfl rfl ⟨rfl, rfl⟩ rfl rfl rfl rfl rfl ?_
      refine ev_bk 2 (S' := (51, [some (.ref 30), some (vI x1), some (.ref a2), some (.ref a3)], [.ref a2, .ref a3], hp S4, 0, 0)) rfl ?_
      refine mv_gfI rfl rfl (ha2.1) (by decide) rfl ?_
      refine mv_i2l rfl ?_
      refine ev_bk 1 (S' := (56, [some (.ref 30), some (vI x1), some (.ref a2), some (.ref a3)], [vI 4, vL (w32 (S4.1 a2 1)), .ref a3], hp S4, 0, 0)) rfl ?_
      obtain ⟨S6, e7, F⟩ := F
      refine mv_calv (as := [vL (w32 (S4.1 a2 1)), vI 4]) (rest := []) e7 (ha3.1) rfl rfl rfl ⟨rfl, rfl⟩ rfl rfl rfl rfl rfl ?_
      obtain ⟨rfl, rfl⟩ := F
      exact ev_ret rfl rfl
  · have F := F.2 c
    refine ev_bk 2 (S' := (7, [some (.ref 30), some (vI x1), some (.ref a2), some (.ref a3)], [.ref a2, .ref a3], hp S, 0, 0)) rfl ?_
    refine mv_gfR rfl rfl (ha2.1) (by decide) rfl ?_
    refine ev_bk 2 (S' := (12, [some (.ref 30), some (vI x1), some (.ref a2), some (.ref a3)], [.ref a2, vI 0, .ref (a2 + 1), .ref a3], hp S, 0, 0)) rfl ?_
    refine mv_gfI rfl rfl (ha2.1) (by decide) rfl ?_
    obtain ⟨z10, S8, e9, F⟩ := F
    refine mv_cals (as := [.ref (a2 + 1), vI 0, vI (S.1 a2 1)]) (rest := [.ref a3]) e9 rfl rfl rfl ⟨rfl, rfl, rfl⟩ rfl rfl rfl rfl ?_
    refine mv_i2l rfl ?_
    refine ev_bk 1 (S' := (20, [some (.ref 30), some (vI x1), some (.ref a2), some (.ref a3)], [vI 4, vL (w32 z10), .ref a3], hp S8, 0, 0)) rfl ?_
    obtain ⟨S11, e12, F⟩ := F
    refine mv_calv (as := [vL (w32 z10), vI 4]) (rest := []) e12 (ha3.1) rfl rfl rfl ⟨rfl, rfl⟩ rfl rfl rfl rfl rfl ?_
    refine mv_goto 59 rfl rfl ?_
    obtain ⟨rfl, rfl⟩ := F
    exact ev_ret rfl rfl
theorem vc_Copies_packFast {q : Nat × (Nat → Int32)} {S S' : ms} {r : Option Value} (a1 na1 : Nat) (ha1 : isRow a1 na1) (a2 na2 : Nat) (ha2 : isRow a2 na2)
    (F : ∃ (S1 : ms), EV q 58 0 [some (.ref 10), some (.ref a1), some (vI 4), some (vI 6000), some (vI 2), none, none, none] [] S none S1 ∧ EV q 84 18 [some (.ref 29), some (.ref a1), some (.ref a2), some (vI 0), some (vI 0), none] [] S1 r S') : EV q 84 0 [some (.ref 29), some (.ref a1), some (.ref a2), none, none, none] [] S r S' := by
  unfold EV
  refine ev_bk 1 (S' := (1, [some (.ref 29), some (.ref a1), some (.ref a2), none, none, none], [.ref 29], hp S, 0, 0)) rfl ?_
  refine mv_gfR rfl rfl (sh_29) (by decide) rfl ?_
  refine ev_bk 4 (S' := (10, [some (.ref 29), some (.ref a1), some (.ref a2), none, none, none], [vI 2, vI 6000, vI 4, .ref a1, .ref 10], hp S, 0, 0)) rfl ?_
  obtain ⟨S1, e2, F⟩ := F
  refine mv_calv (as := [.ref a1, vI 4, vI 6000, vI 2]) (rest := []) e2 (sh_10) rfl rfl rfl ⟨rfl, rfl⟩ rfl rfl rfl rfl rfl ?_
  refine ev_bk 4 (S' := (18, [some (.ref 29), some (.ref a1), some (.ref a2), some (vI 0), some (vI 0), none], [], hp S1, 0, 0)) rfl ?_
  exact F
theorem vc_Copies_packFast_18 {q : Nat × (Nat → Int32)} {S S' : ms} {r : Option Value} (x3 x4 : Int) (a1 na1 : Nat) (ha1 : isRow a1 na1) (a2 na2 : Nat) (ha2 : isRow a2 na2)
    (F : ((w32 (S.1 10 8) ≤ w32 x4) → ∃ (S1 : ms), EV q 85 0 [some (.ref a1), some (vI x3), some (vI (S.1 a1 1)), some (vI 0), some (.ref a2)] [] S none S1 ∧ r = none ∧ S' = S1) ∧ ((¬ w32 (S.1 10 8) ≤ w32 x4) → (0 ≤ w32 x4 ∧ w32 x4 < (6000 : Nat)) ∧ ((w32 (S.1 14 (w32 x4)) ≤ 0) → EV q 84 124 [some (.ref 29), some (.ref a1), some (.ref a2), some (vI x3), some (vI x4), none] [] S r S') ∧ ((¬ w32 (S.1 14 (w32 x4)) ≤ 0) → (0 ≤ w32 x4 ∧ w32 x4 < (6000 : Nat)) ∧ (0 ≤ w32 x4 ∧ w32 x4 < (6000 : Nat)) ∧ ∃ (S6 : ms), EV q 85 0 [some (.ref a1), some (vI x3), some (vI (S.1 15 (w32 x4))), some (vI (min (w32 ((S.1 13 (w32 x4)) - 4)) (w32 15))), some (.ref a2)] [] S none S6 ∧ (0 ≤ w32 x4 ∧ w32 x4 < (6000 : Nat)) ∧ ∃ (S9 : ms), EV q 57 0 [some (.ref a2), some (vL (w32 (S6.1 14 (w32 x4)))), none, some (vI 2), none] [] S6 none S9 ∧ ∃ (S11 : ms), EV q 86 0 [some (vI ((S.1 13 (w32 x4)) - 4)), some (.ref a2), none] [] S9 none S11 ∧ (0 ≤ w32 x4 ∧ w32 x4 < (6000 : Nat)) ∧ (0 ≤ w32 x4 ∧ w32 x4 < (6000 : Nat)) ∧ EV q 84 124 [some (.ref 29), some (.ref a1), some (.ref a2), some (vI ((S11.1 15 (w32 x4)) + (S11.1 13 (w32 x4)))), some (vI x4), none] [] S11 r S'))) : EV q 84 18 [some (.ref 29), some (.ref a1), some (.ref a2), some (vI x3), some (vI x4), none] [] S r S' := by
  unfold EV
  refine ev_bk 2 (S' := (21, [some (.ref 29), some (.ref a1), some (.ref a2), some (vI x3), some (vI x4), none], [.ref 29, vI x4], hp S, 0, 0)) rfl ?_
  refine mv_gfR rfl rfl (sh_29) (by decide) rfl ?_
  refine mv_gfI rfl rfl (sh_10) (by decide) rfl ?_
  refine mv_icmp 130 rfl rfl (fun c => ?_) (fun c => ?_)
  · have F := F.1 c
    refine ev_bk 3 (S' := (133, [some (.ref 29), some (.ref a1), some (.ref a2), some (vI x3), some (vI x4), none], [.ref a1, vI x3, .ref a1], hp S, 0, 0)) rfl ?_
    refine mv_gfI rfl rfl (ha1.1) (by decide) rfl ?_
    refine ev_bk 2 (S' := (138, [some (.ref 29), some (.ref a1), some (.ref a2), some (vI x3), some (vI x4), none], [.ref a2, vI 0, vI (S.1 a1 1), vI x3, .ref a1], hp S, 0, 0)) rfl ?_
    obtain ⟨S1, e2, F⟩ := F
    refine mv_cals (as := [.ref a1, vI x3, vI (S.1 a1 1), vI 0, .ref a2]) (rest := []) e2 rfl rfl rfl ⟨rfl, rfl, rfl⟩ rfl rfl rfl rfl ?_
    obtain ⟨rfl, rfl⟩ := F
    exact ev_ret rfl rfl
  · have F := F.2 c
    refine ev_bk 1 (S' := (31, [some (.ref 29), some (.ref a1), some (.ref a2), some (vI x3), some (vI x4), none], [.ref 29], hp S, 0, 0)) rfl ?_
    refine mv_gfR rfl rfl (sh_29) (by decide) rfl ?_
    refine mv_gfR rfl rfl (sh_10) (by decide) rfl ?_
    refine ev_bk 1 (S' := (39, [some (.ref 29), some (.ref a1), some (.ref a2), some (vI x3), some (vI x4), none], [vI x4, .ref 14], hp S, 0, 0)) rfl ?_
    obtain ⟨b3, F⟩ := F
    refine mv_ial rfl (sh_14) b3 ?_
    refine mv_if 124 rfl rfl (fun c => ?_) (fun c => ?_)
    · have F := F.1 c
      exact F
    · have F := F.2 c
      refine ev_bk 1 (S' := (44, [some (.ref 29), some (.ref a1), some (.ref a2), some (vI x3), some (vI x4), none], [.ref 29], hp S, 0, 0)) rfl ?_
      refine mv_gfR rfl rfl (sh_29) (by decide) rfl ?_
      refine mv_gfR rfl rfl (sh_10) (by decide) rfl ?_
      refine ev_bk 1 (S' := (52, [some (.ref 29), some (.ref a1), some (.ref a2), some (vI x3), some (vI x4), none], [vI x4, .ref 13], hp S, 0, 0)) rfl ?_
      obtain ⟨b4, F⟩ := F
      refine mv_ial rfl (sh_13) b4 ?_
      refine ev_bk 1 (S' := (54, [some (.ref 29), some (.ref a1), some (.ref a2), some (vI x3), some (vI x4), none], [vI 4, vI (S.1 13 (w32 x4))], hp S, 0, 0)) rfl ?_
      refine mv_isub rfl ?_
      refine ev_bk 4 (S' := (60, [some (.ref 29), some (.ref a1), some (.ref a2), some (vI x3), some (vI x4), some (vI ((S.1 13 (w32 x4)) - 4))], [.ref 29, vI x3, .ref a1], hp S, 0, 0)) rfl ?_
      refine mv_gfR rfl rfl (sh_29) (by decide) rfl ?_
      refine mv_gfR rfl rfl (sh_10) (by decide) rfl ?_
      refine ev_bk 1 (S' := (68, [some (.ref 29), some (.ref a1), some (.ref a2), some (vI x3), some (vI x4), some (vI ((S.1 13 (w32 x4)) - 4))], [vI x4, .ref 15, vI x3, .ref a1], hp S, 0, 0)) rfl ?_
      obtain ⟨b5, F⟩ := F
      refine mv_ial rfl (sh_15) b5 ?_
      refine ev_bk 2 (S' := (73, [some (.ref 29), some (.ref a1), some (.ref a2), some (vI x3), some (vI x4), some (vI ((S.1 13 (w32 x4)) - 4))], [vI 15, vI ((S.1 13 (w32 x4)) - 4), vI (S.1 15 (w32 x4)), vI x3, .ref a1], hp S, 0, 0)) rfl ?_
      refine mv_min rfl rfl rfl ?_
      refine ev_bk 1 (S' := (77, [some (.ref 29), some (.ref a1), some (.ref a2), some (vI x3), some (vI x4), some (vI ((S.1 13 (w32 x4)) - 4))], [.ref a2, vI (min (w32 ((S.1 13 (w32 x4)) - 4)) (w32 15)), vI (S.1 15 (w32 x4)), vI x3, .ref a1], hp S, 0, 0)) rfl ?_
      obtain ⟨S6, e7, F⟩ := F
      refine mv_cals (as := [.ref a1, vI x3, vI (S.1 15 (w32 x4)), vI (min (w32 ((S.1 13 (w32 x4)) - 4)) (w32 15)), .ref a2]) (rest := []) e7 rfl rfl rfl ⟨rfl, rfl, rfl⟩ rfl rfl rfl rfl ?_
      refine ev_bk 2 (S' := (82, [some (.ref 29), some (.ref a1), some (.ref a2), some (vI x3), some (vI x4), some (vI ((S.1 13 (w32 x4)) - 4))], [.ref 29, .ref a2], hp S6, 0, 0)) rfl ?_
      refine mv_gfR rfl rfl (sh_29) (by decide) rfl ?_
      refine mv_gfR rfl rfl (sh_10) (by decide) rfl ?_
      refine ev_bk 1 (S' := (90, [some (.ref 29), some (.ref a1), some (.ref a2), some (vI x3), some (vI x4), some (vI ((S.1 13 (w32 x4)) - 4))], [vI x4, .ref 14, .ref a2], hp S6, 0, 0)) rfl ?_
      obtain ⟨b8, F⟩ := F
      refine mv_ial rfl (sh_14) b8 ?_
      refine mv_i2l rfl ?_
      refine ev_bk 1 (S' := (93, [some (.ref 29), some (.ref a1), some (.ref a2), some (vI x3), some (vI x4), some (vI ((S.1 13 (w32 x4)) - 4))], [vI 2, vL (w32 (S6.1 14 (w32 x4))), .ref a2], hp S6, 0, 0)) rfl ?_
      obtain ⟨S9, e10, F⟩ := F
      refine mv_calv (as := [vL (w32 (S6.1 14 (w32 x4))), vI 2]) (rest := []) e10 (ha2.1) rfl rfl rfl ⟨rfl, rfl⟩ rfl rfl rfl rfl rfl ?_
      refine ev_bk 2 (S' := (99, [some (.ref 29), some (.ref a1), some (.ref a2), some (vI x3), some (vI x4), some (vI ((S.1 13 (w32 x4)) - 4))], [.ref a2, vI ((S.1 13 (w32 x4)) - 4)], hp S9, 0, 0)) rfl ?_
      obtain ⟨S11, e12, F⟩ := F
      refine mv_cals (as := [vI ((S.1 13 (w32 x4)) - 4), .ref a2]) (rest := []) e12 rfl rfl rfl ⟨rfl, rfl, rfl⟩ rfl rfl rfl rfl ?_
      refine ev_bk 1 (S' := (103, [some (.ref 29), some (.ref a1), some (.ref a2), some (vI x3), some (vI x4), some (vI ((S.1 13 (w32 x4)) - 4))], [.ref 29], hp S11, 0, 0)) rfl ?_
      refine mv_gfR rfl rfl (sh_29) (by decide) rfl ?_
      refine mv_gfR rfl rfl (sh_10) (by decide) rfl ?_
      refine ev_bk 1 (S' := (111, [some (.ref 29), some (.ref a1), some (.ref a2), some (vI x3), some (vI x4), some (vI ((S.1 13 (w32 x4)) - 4))], [vI x4, .ref 15], hp S11, 0, 0)) rfl ?_
      obtain ⟨b13, F⟩ := F
      refine mv_ial rfl (sh_15) b13 ?_
      refine ev_bk 1 (S' := (113, [some (.ref 29), some (.ref a1), some (.ref a2), some (vI x3), some (vI x4), some (vI ((S.1 13 (w32 x4)) - 4))], [.ref 29, vI (S11.1 15 (w32 x4))], hp S11, 0, 0)) rfl ?_
      refine mv_gfR rfl rfl (sh_29) (by decide) rfl ?_
      refine mv_gfR rfl rfl (sh_10) (by decide) rfl ?_
      refine ev_bk 1 (S' := (121, [some (.ref 29), some (.ref a1), some (.ref a2), some (vI x3), some (vI x4), some (vI ((S.1 13 (w32 x4)) - 4))], [vI x4, .ref 13, vI (S11.1 15 (w32 x4))], hp S11, 0, 0)) rfl ?_
      obtain ⟨b14, F⟩ := F
      refine mv_ial rfl (sh_13) b14 ?_
      refine mv_iadd rfl ?_
      refine ev_bk 1 (S' := (124, [some (.ref 29), some (.ref a1), some (.ref a2), some (vI ((S11.1 15 (w32 x4)) + (S11.1 13 (w32 x4)))), some (vI x4), some (vI ((S.1 13 (w32 x4)) - 4))], [], hp S11, 0, 0)) rfl ?_
      exact ev_wk (le_s (le_s (le_s (le_s (le_s (le_n le_0)))))) F
theorem vc_Copies_packFast_124 {q : Nat × (Nat → Int32)} {S S' : ms} {r : Option Value} (x3 x4 : Int) (a1 na1 : Nat) (ha1 : isRow a1 na1) (a2 na2 : Nat) (ha2 : isRow a2 na2)
    (F : EV q 84 18 [some (.ref 29), some (.ref a1), some (.ref a2), some (vI x3), some (vI (x4 + 1)), none] [] S r S') : EV q 84 124 [some (.ref 29), some (.ref a1), some (.ref a2), some (vI x3), some (vI x4), none] [] S r S' := by
  unfold EV
  refine mv_inc (lv' := [some (.ref 29), some (.ref a1), some (.ref a2), some (vI x3), some (vI (x4 + 1)), none]) 4 1 rfl rfl rfl rfl ?_
  refine mv_goto 18 rfl rfl ?_
  exact F
theorem vc_Copies_fastLiterals {q : Nat × (Nat → Int32)} {S S' : ms} {r : Option Value} (x1 x2 x3 : Int) (a0 na0 : Nat) (ha0 : isRow a0 na0) (a4 na4 : Nat) (ha4 : isRow a4 na4)
    (F : ∃ (S1 : ms), EV q 19 0 [some (.ref a4), some (vI (bO ((min (w32 (x2 - x1)) (w32 15)) * 16) x3))] [] S none S1 ∧ ∃ (S3 : ms), EV q 86 0 [some (vI (x2 - x1)), some (.ref a4), none] [] S1 none S3 ∧ ∃ (S5 : ms), EV q 38 0 [some (.ref a4), some (.ref (a0 + 1)), some (vI x1), some (vI x2), none] [] S3 none S5 ∧ r = none ∧ S' = S5) : EV q 85 0 [some (.ref a0), some (vI x1), some (vI x2), some (vI x3), some (.ref a4)] [] S r S' := by
  unfold EV
  refine ev_bk 3 (S' := (4, [some (.ref a0), some (vI x1), some (vI x2), some (vI x3), some (.ref a4)], [vI x1, vI x2, .ref a4], hp S, 0, 0)) rfl ?_
  refine mv_isub rfl ?_
  refine ev_bk 1 (S' := (7, [some (.ref a0), some (vI x1), some (vI x2), some (vI x3), some (.ref a4)], [vI 15, vI (x2 - x1), .ref a4], hp S, 0, 0)) rfl ?_
  refine mv_min rfl rfl rfl ?_
  refine ev_bk 1 (S' := (11, [some (.ref a0), some (vI x1), some (vI x2), some (vI x3), some (.ref a4)], [vI 4, vI (min (w32 (x2 - x1)) (w32 15)), .ref a4], hp S, 0, 0)) rfl ?_
  refine mv_ishl 16 rfl rfl ?_
  refine ev_bk 1 (S' := (13, [some (.ref a0), some (vI x1), some (vI x2), some (vI x3), some (.ref a4)], [vI x3, vI ((min (w32 (x2 - x1)) (w32 15)) * 16), .ref a4], hp S, 0, 0)) rfl ?_
  refine mv_ior rfl ?_
  obtain ⟨S1, e2, F⟩ := F
  refine mv_calv (as := [vI (bO ((min (w32 (x2 - x1)) (w32 15)) * 16) x3)]) (rest := []) e2 (ha4.1) rfl rfl rfl ⟨rfl, rfl⟩ rfl rfl rfl rfl rfl ?_
  refine ev_bk 2 (S' := (19, [some (.ref a0), some (vI x1), some (vI x2), some (vI x3), some (.ref a4)], [vI x1, vI x2], hp S1, 0, 0)) rfl ?_
  refine mv_isub rfl ?_
  refine ev_bk 1 (S' := (22, [some (.ref a0), some (vI x1), some (vI x2), some (vI x3), some (.ref a4)], [.ref a4, vI (x2 - x1)], hp S1, 0, 0)) rfl ?_
  obtain ⟨S3, e4, F⟩ := F
  refine mv_cals (as := [vI (x2 - x1), .ref a4]) (rest := []) e4 rfl rfl rfl ⟨rfl, rfl, rfl⟩ rfl rfl rfl rfl ?_
  refine ev_bk 2 (S' := (28, [some (.ref a0), some (vI x1), some (vI x2), some (vI x3), some (.ref a4)], [.ref a0, .ref a4], hp S3, 0, 0)) rfl ?_
  refine mv_gfR rfl rfl (ha0.1) (by decide) rfl ?_
  refine ev_bk 2 (S' := (33, [some (.ref a0), some (vI x1), some (vI x2), some (vI x3), some (.ref a4)], [vI x2, vI x1, .ref (a0 + 1), .ref a4], hp S3, 0, 0)) rfl ?_
  obtain ⟨S5, e6, F⟩ := F
  refine mv_calv (as := [.ref (a0 + 1), vI x1, vI x2]) (rest := []) e6 (ha4.1) rfl rfl rfl ⟨rfl, rfl⟩ rfl rfl rfl rfl rfl ?_
  obtain ⟨rfl, rfl⟩ := F
  exact ev_ret rfl rfl
theorem vc_Copies_fastMore {q : Nat × (Nat → Int32)} {S S' : ms} {r : Option Value} (x0 : Int) (a1 na1 : Nat) (ha1 : isRow a1 na1)
    (F : ((15 ≤ w32 x0) → EV q 86 12 [some (vI x0), some (.ref a1), some (vI (x0 - 15))] [] S r S') ∧ ((¬ 15 ≤ w32 x0) → r = none ∧ S' = S)) : EV q 86 0 [some (vI x0), some (.ref a1), none] [] S r S' := by
  unfold EV
  refine ev_bk 2 (S' := (3, [some (vI x0), some (.ref a1), none], [vI 15, vI x0], hp S, 0, 0)) rfl ?_
  refine mv_icmp 7 rfl rfl (fun c => ?_) (fun c => ?_)
  · have F := F.1 c
    refine ev_bk 2 (S' := (10, [some (vI x0), some (.ref a1), none], [vI 15, vI x0], hp S, 0, 0)) rfl ?_
    refine mv_isub rfl ?_
    refine ev_bk 1 (S' := (12, [some (vI x0), some (.ref a1), some (vI (x0 - 15))], [], hp S, 0, 0)) rfl ?_
    exact F
  · have F := F.2 c
    obtain ⟨rfl, rfl⟩ := F
    exact ev_ret rfl rfl
theorem vc_Copies_fastMore_12 {q : Nat × (Nat → Int32)} {S S' : ms} {r : Option Value} (x0 x2 : Int) (a1 na1 : Nat) (ha1 : isRow a1 na1)
    (F : ((w32 x2 < 255) → ∃ (S1 : ms), EV q 19 0 [some (.ref a1), some (vI x2)] [] S none S1 ∧ r = none ∧ S' = S1) ∧ ((¬ w32 x2 < 255) → ∃ (S3 : ms), EV q 19 0 [some (.ref a1), some (vI 255)] [] S none S3 ∧ EV q 86 12 [some (vI x0), some (.ref a1), some (vI (x2 - 255))] [] S3 r S')) : EV q 86 12 [some (vI x0), some (.ref a1), some (vI x2)] [] S r S' := by
  unfold EV
  refine ev_bk 2 (S' := (16, [some (vI x0), some (.ref a1), some (vI x2)], [vI 255, vI x2], hp S, 0, 0)) rfl ?_
  refine mv_icmp 35 rfl rfl (fun c => ?_) (fun c => ?_)
  · have F := F.1 c
    refine ev_bk 2 (S' := (37, [some (vI x0), some (.ref a1), some (vI x2)], [vI x2, .ref a1], hp S, 0, 0)) rfl ?_
    obtain ⟨S1, e2, F⟩ := F
    refine mv_calv (as := [vI x2]) (rest := []) e2 (ha1.1) rfl rfl rfl ⟨rfl, rfl⟩ rfl rfl rfl rfl rfl ?_
    obtain ⟨rfl, rfl⟩ := F
    exact ev_ret rfl rfl
  · have F := F.2 c
    refine ev_bk 2 (S' := (23, [some (vI x0), some (.ref a1), some (vI x2)], [vI 255, .ref a1], hp S, 0, 0)) rfl ?_
    obtain ⟨S3, e4, F⟩ := F
    refine mv_calv (as := [vI 255]) (rest := []) e4 (ha1.1) rfl rfl rfl ⟨rfl, rfl⟩ rfl rfl rfl rfl rfl ?_
    refine mv_incW (lv' := [some (vI x0), some (.ref a1), some (vI (x2 - 255))]) 2 (-255) rfl rfl rfl (by omega) ?_
    refine mv_goto 12 rfl rfl ?_
    exact F
theorem vc_Copies_packFrame {q : Nat × (Nat → Int32)} {S S' : ms} {r : Option Value} (a1 na1 : Nat) (ha1 : isRow a1 na1) (a2 na2 : Nat) (ha2 : isRow a2 na2)
    (F : ∃ (S1 : ms), EV q 57 0 [some (.ref a2), some (vL 407708164), none, some (vI 4), none] [] S none S1 ∧ ∃ (S3 : ms), EV q 19 0 [some (.ref a2), some (vI 100)] [] S1 none S3 ∧ ∃ (S5 : ms), EV q 19 0 [some (.ref a2), some (vI 64)] [] S3 none S5 ∧ ∃ (z9 : Int) (S7 : ms), EV q 30 0 [some (.ref (a2 + 1)), some (vI 4), some (vI 6), none, none, none, none, none, none] [] S5 (some (vI z9)) S7 ∧ ∃ (S10 : ms), EV q 19 0 [some (.ref a2), some (vI (z9 % 4294967296 / 256))] [] S7 none S10 ∧ ∃ (S12 : ms), EV q 37 0 [some (.ref 7)] [] S10 none S12 ∧ ∃ (S14 : ms), EV q 84 0 [some (.ref 29), some (.ref a1), some (.ref 7), none, none, none] [] S12 none S14 ∧ ((w32 (S14.1 a1 1) ≤ 0) → EV q 87 119 [some (.ref 29), some (.ref a1), some (.ref a2)] [] S14 r S') ∧ ((¬ w32 (S14.1 a1 1) ≤ 0) → ((w32 (S14.1 a1 1) ≤ w32 (S14.1 7 1)) → EV q 87 119 [some (.ref 29), some (.ref a1), some (.ref a2)] [] S14 r S') ∧ ((¬ w32 (S14.1 a1 1) ≤ w32 (S14.1 7 1)) → ((¬ w32 (S14.1 7 2) = 0) → EV q 87 119 [some (.ref 29), some (.ref a1), some (.ref a2)] [] S14 r S') ∧ ((¬ (¬ w32 (S14.1 7 2) = 0)) → ∃ (S16 : ms), EV q 57 0 [some (.ref a2), some (vL (w32 (S14.1 7 1))), none, some (vI 4), none] [] S14 none S16 ∧ ∃ (S18 : ms), EV q 38 0 [some (.ref a2), some (.ref 8), some (vI 0), some (vI (S16.1 7 1)), none] [] S16 none S18 ∧ EV q 87 153 [some (.ref 29), some (.ref a1), some (.ref a2)] [] S18 r S')))) : EV q 87 0 [some (.ref 29), some (.ref a1), some (.ref a2)] [] S r S' := by
  unfold EV
  refine ev_bk 3 (S' := (5, [some (.ref 29), some (.ref a1), some (.ref a2)], [vI 4, vL 407708164, .ref a2], hp S, 0, 0)) rfl ?_
  obtain ⟨S1, e2, F⟩ := F
  refine mv_calv (as := [vL 407708164, vI 4]) (rest := []) e2 (ha2.1) rfl rfl rfl ⟨rfl, rfl⟩ rfl rfl rfl rfl rfl ?_
  refine ev_bk 2 (S' := (11, [some (.ref 29), some (.ref a1), some (.ref a2)], [vI 100, .ref a2], hp S1, 0, 0)) rfl ?_
  obtain ⟨S3, e4, F⟩ := F
  refine mv_calv (as := [vI 100]) (rest := []) e4 (ha2.1) rfl rfl rfl ⟨rfl, rfl⟩ rfl rfl rfl rfl rfl ?_
  refine ev_bk 2 (S' := (17, [some (.ref 29), some (.ref a1), some (.ref a2)], [vI 64, .ref a2], hp S3, 0, 0)) rfl ?_
  obtain ⟨S5, e6, F⟩ := F
  refine mv_calv (as := [vI 64]) (rest := []) e6 (ha2.1) rfl rfl rfl ⟨rfl, rfl⟩ rfl rfl rfl rfl rfl ?_
  refine ev_bk 2 (S' := (22, [some (.ref 29), some (.ref a1), some (.ref a2)], [.ref a2, .ref a2], hp S5, 0, 0)) rfl ?_
  refine mv_gfR rfl rfl (ha2.1) (by decide) rfl ?_
  refine ev_bk 2 (S' := (28, [some (.ref 29), some (.ref a1), some (.ref a2)], [vI 6, vI 4, .ref (a2 + 1), .ref a2], hp S5, 0, 0)) rfl ?_
  obtain ⟨z9, S7, e8, F⟩ := F
  refine mv_cals (as := [.ref (a2 + 1), vI 4, vI 6]) (rest := [.ref a2]) e8 rfl rfl rfl ⟨rfl, rfl, rfl⟩ rfl rfl rfl rfl ?_
  refine ev_bk 1 (S' := (33, [some (.ref 29), some (.ref a1), some (.ref a2)], [vI 8, vI z9, .ref a2], hp S7, 0, 0)) rfl ?_
  refine mv_iushr 256 rfl rfl ?_
  obtain ⟨S10, e11, F⟩ := F
  refine mv_calv (as := [vI (z9 % 4294967296 / 256)]) (rest := []) e11 (ha2.1) rfl rfl rfl ⟨rfl, rfl⟩ rfl rfl rfl rfl rfl ?_
  refine ev_bk 1 (S' := (38, [some (.ref 29), some (.ref a1), some (.ref a2)], [.ref 29], hp S10, 0, 0)) rfl ?_
  refine mv_gfR rfl rfl (sh_29) (by decide) rfl ?_
  obtain ⟨S12, e13, F⟩ := F
  refine mv_calv (as := []) (rest := []) e13 (sh_7) rfl rfl rfl ⟨rfl, rfl⟩ rfl rfl rfl rfl rfl ?_
  refine ev_bk 3 (S' := (47, [some (.ref 29), some (.ref a1), some (.ref a2)], [.ref 29, .ref a1, .ref 29], hp S12, 0, 0)) rfl ?_
  refine mv_gfR rfl rfl (sh_29) (by decide) rfl ?_
  obtain ⟨S14, e15, F⟩ := F
  refine mv_calv (as := [.ref a1, .ref 7]) (rest := []) e15 (sh_29) rfl rfl rfl ⟨rfl, rfl⟩ rfl rfl rfl rfl rfl ?_
  refine ev_bk 1 (S' := (54, [some (.ref 29), some (.ref a1), some (.ref a2)], [.ref a1], hp S14, 0, 0)) rfl ?_
  refine mv_gfI rfl rfl (ha1.1) (by decide) rfl ?_
  refine mv_if 119 rfl rfl (fun c => ?_) (fun c => ?_)
  · have F := F.1 c
    exact F
  · have F := F.2 c
    refine ev_bk 1 (S' := (61, [some (.ref 29), some (.ref a1), some (.ref a2)], [.ref 29], hp S14, 0, 0)) rfl ?_
    refine mv_gfR rfl rfl (sh_29) (by decide) rfl ?_
    refine mv_gfI rfl rfl (sh_7) (by decide) rfl ?_
    refine ev_bk 1 (S' := (68, [some (.ref 29), some (.ref a1), some (.ref a2)], [.ref a1, vI (S14.1 7 1)], hp S14, 0, 0)) rfl ?_
    refine mv_gfI rfl rfl (ha1.1) (by decide) rfl ?_
    refine mv_icmp 119 rfl rfl (fun c => ?_) (fun c => ?_)
    · have F := F.1 c
      exact F
    · have F := F.2 c
      refine ev_bk 1 (S' := (75, [some (.ref 29), some (.ref a1), some (.ref a2)], [.ref 29], hp S14, 0, 0)) rfl ?_
      refine mv_gfR rfl rfl (sh_29) (by decide) rfl ?_
      refine mv_gfI rfl rfl (sh_7) (by decide) rfl ?_
      refine mv_if 119 rfl rfl (fun c => ?_) (fun c => ?_)
      · have F := F.1 c
        exact F
      · have F := F.2 c
        refine ev_bk 2 (S' := (86, [some (.ref 29), some (.ref a1), some (.ref a2)], [.ref 29, .ref a2], hp S14, 0, 0)) rfl ?_
        refine mv_gfR rfl rfl (sh_29) (by decide) rfl ?_
        refine mv_gfI rfl rfl (sh_7) (by decide) rfl ?_
        refine mv_i2l rfl ?_
        refine ev_bk 1 (S' := (94, [some (.ref 29), some (.ref a1), some (.ref a2)], [vI 4, vL (w32 (S14.1 7 1)), .ref a2], hp S14, 0, 0)) rfl ?_
        obtain ⟨S16, e17, F⟩ := F
        refine mv_calv (as := [vL (w32 (S14.1 7 1)), vI 4]) (rest := []) e17 (ha2.1) rfl rfl rfl ⟨rfl, rfl⟩ rfl rfl rfl rfl rfl ?_
        refine ev_bk 2 (S' := (99, [some (.ref 29), some (.ref a1), some (.ref a2)], [.ref 29, .ref a2], hp S16, 0, 0)) rfl ?_
        refine mv_gfR rfl rfl (sh_29) (by decide) rfl ?_
        refine mv_gfR rfl rfl (sh_7) (by decide) rfl ?_
        refine ev_bk 2 (S' := (107, [some (.ref 29), some (.ref a1), some (.ref a2)], [.ref 29, vI 0, .ref 8, .ref a2], hp S16, 0, 0)) rfl ?_
        refine mv_gfR rfl rfl (sh_29) (by decide) rfl ?_
        refine mv_gfI rfl rfl (sh_7) (by decide) rfl ?_
        obtain ⟨S18, e19, F⟩ := F
        refine mv_calv (as := [.ref 8, vI 0, vI (S16.1 7 1)]) (rest := []) e19 (ha2.1) rfl rfl rfl ⟨rfl, rfl⟩ rfl rfl rfl rfl rfl ?_
        refine mv_goto 153 rfl rfl ?_
        exact F
theorem vc_Copies_packFrame_119 {q : Nat × (Nat → Int32)} {S S' : ms} {r : Option Value} (a1 na1 : Nat) (ha1 : isRow a1 na1) (a2 na2 : Nat) (ha2 : isRow a2 na2)
    (F : ((w32 (S.1 a1 1) ≤ 0) → EV q 87 153 [some (.ref 29), some (.ref a1), some (.ref a2)] [] S r S') ∧ ((¬ w32 (S.1 a1 1) ≤ 0) → ∃ (S1 : ms), EV q 57 0 [some (.ref a2), some (vL (lO (w32 (S.1 a1 1)) 2147483648)), none, some (vI 4), none] [] S none S1 ∧ ∃ (S3 : ms), EV q 38 0 [some (.ref a2), some (.ref (a1 + 1)), some (vI 0), some (vI (S1.1 a1 1)), none] [] S1 none S3 ∧ EV q 87 153 [some (.ref 29), some (.ref a1), some (.ref a2)] [] S3 r S')) : EV q 87 119 [some (.ref 29), some (.ref a1), some (.ref a2)] [] S r S' := by
  unfold EV
  refine ev_bk 1 (S' := (120, [some (.ref 29), some (.ref a1), some (.ref a2)], [.ref a1], hp S, 0, 0)) rfl ?_
  refine mv_gfI rfl rfl (ha1.1) (by decide) rfl ?_
  refine mv_if 153 rfl rfl (fun c => ?_) (fun c => ?_)
  · have F := F.1 c
    exact F
  · have F := F.2 c
    refine ev_bk 2 (S' := (128, [some (.ref 29), some (.ref a1), some (.ref a2)], [.ref a1, .ref a2], hp S, 0, 0)) rfl ?_
    refine mv_gfI rfl rfl (ha1.1) (by decide) rfl ?_
    refine mv_i2l rfl ?_
    refine ev_bk 1 (S' := (135, [some (.ref 29), some (.ref a1), some (.ref a2)], [vL 2147483648, vL (w32 (S.1 a1 1)), .ref a2], hp S, 0, 0)) rfl ?_
    refine mv_lor rfl ?_
    refine ev_bk 1 (S' := (137, [some (.ref 29), some (.ref a1), some (.ref a2)], [vI 4, vL (lO (w32 (S.1 a1 1)) 2147483648), .ref a2], hp S, 0, 0)) rfl ?_
    obtain ⟨S1, e2, F⟩ := F
    refine mv_calv (as := [vL (lO (w32 (S.1 a1 1)) 2147483648), vI 4]) (rest := []) e2 (ha2.1) rfl rfl rfl ⟨rfl, rfl⟩ rfl rfl rfl rfl rfl ?_
    refine ev_bk 2 (S' := (142, [some (.ref 29), some (.ref a1), some (.ref a2)], [.ref a1, .ref a2], hp S1, 0, 0)) rfl ?_
    refine mv_gfR rfl rfl (ha1.1) (by decide) rfl ?_
    refine ev_bk 2 (S' := (147, [some (.ref 29), some (.ref a1), some (.ref a2)], [.ref a1, vI 0, .ref (a1 + 1), .ref a2], hp S1, 0, 0)) rfl ?_
    refine mv_gfI rfl rfl (ha1.1) (by decide) rfl ?_
    obtain ⟨S3, e4, F⟩ := F
    refine mv_calv (as := [.ref (a1 + 1), vI 0, vI (S1.1 a1 1)]) (rest := []) e4 (ha2.1) rfl rfl rfl ⟨rfl, rfl⟩ rfl rfl rfl rfl rfl ?_
    exact F
theorem vc_Copies_packFrame_153 {q : Nat × (Nat → Int32)} {S S' : ms} {r : Option Value} (a1 na1 : Nat) (ha1 : isRow a1 na1) (a2 na2 : Nat) (ha2 : isRow a2 na2)
    (F : ∃ (S1 : ms), EV q 57 0 [some (.ref a2), some (vL 0), none, some (vI 4), none] [] S none S1 ∧ ∃ (z5 : Int) (S3 : ms), EV q 30 0 [some (.ref (a1 + 1)), some (vI 0), some (vI (S1.1 a1 1)), none, none, none, none, none, none] [] S1 (some (vI z5)) S3 ∧ ∃ (S6 : ms), EV q 57 0 [some (.ref a2), some (vL (w32 z5)), none, some (vI 4), none] [] S3 none S6 ∧ r = none ∧ S' = S6) : EV q 87 153 [some (.ref 29), some (.ref a1), some (.ref a2)] [] S r S' := by
  unfold EV
  refine ev_bk 3 (S' := (156, [some (.ref 29), some (.ref a1), some (.ref a2)], [vI 4, vL 0, .ref a2], hp S, 0, 0)) rfl ?_
  obtain ⟨S1, e2, F⟩ := F
  refine mv_calv (as := [vL 0, vI 4]) (rest := []) e2 (ha2.1) rfl rfl rfl ⟨rfl, rfl⟩ rfl rfl rfl rfl rfl ?_
  refine ev_bk 2 (S' := (161, [some (.ref 29), some (.ref a1), some (.ref a2)], [.ref a1, .ref a2], hp S1, 0, 0)) rfl ?_
  refine mv_gfR rfl rfl (ha1.1) (by decide) rfl ?_
  refine ev_bk 2 (S' := (166, [some (.ref 29), some (.ref a1), some (.ref a2)], [.ref a1, vI 0, .ref (a1 + 1), .ref a2], hp S1, 0, 0)) rfl ?_
  refine mv_gfI rfl rfl (ha1.1) (by decide) rfl ?_
  obtain ⟨z5, S3, e4, F⟩ := F
  refine mv_cals (as := [.ref (a1 + 1), vI 0, vI (S1.1 a1 1)]) (rest := [.ref a2]) e4 rfl rfl rfl ⟨rfl, rfl, rfl⟩ rfl rfl rfl rfl ?_
  refine mv_i2l rfl ?_
  refine ev_bk 1 (S' := (174, [some (.ref 29), some (.ref a1), some (.ref a2)], [vI 4, vL (w32 z5), .ref a2], hp S3, 0, 0)) rfl ?_
  obtain ⟨S6, e7, F⟩ := F
  refine mv_calv (as := [vL (w32 z5), vI 4]) (rest := []) e7 (ha2.1) rfl rfl rfl ⟨rfl, rfl⟩ rfl rfl rfl rfl rfl ?_
  obtain ⟨rfl, rfl⟩ := F
  exact ev_ret rfl rfl
theorem vc_Copies_packCopies {q : Nat × (Nat → Int32)} {S S' : ms} {r : Option Value} (a1 na1 : Nat) (ha1 : isRow a1 na1) (a2 na2 : Nat) (ha2 : isRow a2 na2)
    (F : ∃ (S1 : ms), EV q 89 0 [some (.ref a2), some (vI (S.1 a1 1)), none, none] [] S none S1 ∧ ∃ (S3 : ms), EV q 58 0 [some (.ref 10), some (.ref a1), some (vI 4), some (vI 64), some (vI 0), none, none, none] [] S1 none S3 ∧ EV q 88 25 [some (.ref 29), some (.ref a1), some (.ref a2), some (vI 0), some (vI 0)] [] S3 r S') : EV q 88 0 [some (.ref 29), some (.ref a1), some (.ref a2), none, none] [] S r S' := by
  unfold EV
  refine ev_bk 2 (S' := (2, [some (.ref 29), some (.ref a1), some (.ref a2), none, none], [.ref a1, .ref a2], hp S, 0, 0)) rfl ?_
  refine mv_gfI rfl rfl (ha1.1) (by decide) rfl ?_
  obtain ⟨S1, e2, F⟩ := F
  refine mv_calv (as := [vI (S.1 a1 1)]) (rest := []) e2 (ha2.1) rfl rfl rfl ⟨rfl, rfl⟩ rfl rfl rfl rfl rfl ?_
  refine ev_bk 1 (S' := (9, [some (.ref 29), some (.ref a1), some (.ref a2), none, none], [.ref 29], hp S1, 0, 0)) rfl ?_
  refine mv_gfR rfl rfl (sh_29) (by decide) rfl ?_
  refine ev_bk 4 (S' := (17, [some (.ref 29), some (.ref a1), some (.ref a2), none, none], [vI 0, vI 64, vI 4, .ref a1, .ref 10], hp S1, 0, 0)) rfl ?_
  obtain ⟨S3, e4, F⟩ := F
  refine mv_calv (as := [.ref a1, vI 4, vI 64, vI 0]) (rest := []) e4 (sh_10) rfl rfl rfl ⟨rfl, rfl⟩ rfl rfl rfl rfl rfl ?_
  refine ev_bk 4 (S' := (25, [some (.ref 29), some (.ref a1), some (.ref a2), some (vI 0), some (vI 0)], [], hp S3, 0, 0)) rfl ?_
  exact F
theorem vc_Copies_packCopies_25 {q : Nat × (Nat → Int32)} {S S' : ms} {r : Option Value} (x3 x4 : Int) (a1 na1 : Nat) (ha1 : isRow a1 na1) (a2 na2 : Nat) (ha2 : isRow a2 na2)
    (F : ((w32 (S.1 10 8) ≤ w32 x4) → ∃ (S1 : ms), EV q 90 0 [some (.ref a1), some (vI x3), some (vI (S.1 a1 1)), some (.ref a2), none] [] S none S1 ∧ r = none ∧ S' = S1) ∧ ((¬ w32 (S.1 10 8) ≤ w32 x4) → (0 ≤ w32 x4 ∧ w32 x4 < (6000 : Nat)) ∧ ((w32 (S.1 14 (w32 x4)) ≤ 0) → EV q 88 112 [some (.ref 29), some (.ref a1), some (.ref a2), some (vI x3), some (vI x4)] [] S r S') ∧ ((¬ w32 (S.1 14 (w32 x4)) ≤ 0) → (0 ≤ w32 x4 ∧ w32 x4 < (6000 : Nat)) ∧ ∃ (S5 : ms), EV q 90 0 [some (.ref a1), some (vI x3), some (vI (S.1 15 (w32 x4))), some (.ref a2), none] [] S none S5 ∧ (0 ≤ w32 x4 ∧ w32 x4 < (6000 : Nat)) ∧ (0 ≤ w32 x4 ∧ w32 x4 < (6000 : Nat)) ∧ ∃ (S9 : ms), EV q 91 0 [some (vI (S5.1 13 (w32 x4))), some (vI (S5.1 14 (w32 x4))), some (.ref a2)] [] S5 none S9 ∧ (0 ≤ w32 x4 ∧ w32 x4 < (6000 : Nat)) ∧ (0 ≤ w32 x4 ∧ w32 x4 < (6000 : Nat)) ∧ EV q 88 112 [some (.ref 29), some (.ref a1), some (.ref a2), some (vI ((S9.1 15 (w32 x4)) + (S9.1 13 (w32 x4)))), some (vI x4)] [] S9 r S'))) : EV q 88 25 [some (.ref 29), some (.ref a1), some (.ref a2), some (vI x3), some (vI x4)] [] S r S' := by
  unfold EV
  refine ev_bk 2 (S' := (28, [some (.ref 29), some (.ref a1), some (.ref a2), some (vI x3), some (vI x4)], [.ref 29, vI x4], hp S, 0, 0)) rfl ?_
  refine mv_gfR rfl rfl (sh_29) (by decide) rfl ?_
  refine mv_gfI rfl rfl (sh_10) (by decide) rfl ?_
  refine mv_icmp 118 rfl rfl (fun c => ?_) (fun c => ?_)
  · have F := F.1 c
    refine ev_bk 3 (S' := (121, [some (.ref 29), some (.ref a1), some (.ref a2), some (vI x3), some (vI x4)], [.ref a1, vI x3, .ref a1], hp S, 0, 0)) rfl ?_
    refine mv_gfI rfl rfl (ha1.1) (by decide) rfl ?_
    refine ev_bk 1 (S' := (125, [some (.ref 29), some (.ref a1), some (.ref a2), some (vI x3), some (vI x4)], [.ref a2, vI (S.1 a1 1), vI x3, .ref a1], hp S, 0, 0)) rfl ?_
    obtain ⟨S1, e2, F⟩ := F
    refine mv_cals (as := [.ref a1, vI x3, vI (S.1 a1 1), .ref a2]) (rest := []) e2 rfl rfl rfl ⟨rfl, rfl, rfl⟩ rfl rfl rfl rfl ?_
    obtain ⟨rfl, rfl⟩ := F
    exact ev_ret rfl rfl
  · have F := F.2 c
    refine ev_bk 1 (S' := (38, [some (.ref 29), some (.ref a1), some (.ref a2), some (vI x3), some (vI x4)], [.ref 29], hp S, 0, 0)) rfl ?_
    refine mv_gfR rfl rfl (sh_29) (by decide) rfl ?_
    refine mv_gfR rfl rfl (sh_10) (by decide) rfl ?_
    refine ev_bk 1 (S' := (46, [some (.ref 29), some (.ref a1), some (.ref a2), some (vI x3), some (vI x4)], [vI x4, .ref 14], hp S, 0, 0)) rfl ?_
    obtain ⟨b3, F⟩ := F
    refine mv_ial rfl (sh_14) b3 ?_
    refine mv_if 112 rfl rfl (fun c => ?_) (fun c => ?_)
    · have F := F.1 c
      exact F
    · have F := F.2 c
      refine ev_bk 3 (S' := (53, [some (.ref 29), some (.ref a1), some (.ref a2), some (vI x3), some (vI x4)], [.ref 29, vI x3, .ref a1], hp S, 0, 0)) rfl ?_
      refine mv_gfR rfl rfl (sh_29) (by decide) rfl ?_
      refine mv_gfR rfl rfl (sh_10) (by decide) rfl ?_
      refine ev_bk 1 (S' := (61, [some (.ref 29), some (.ref a1), some (.ref a2), some (vI x3), some (vI x4)], [vI x4, .ref 15, vI x3, .ref a1], hp S, 0, 0)) rfl ?_
      obtain ⟨b4, F⟩ := F
      refine mv_ial rfl (sh_15) b4 ?_
      refine ev_bk 1 (S' := (63, [some (.ref 29), some (.ref a1), some (.ref a2), some (vI x3), some (vI x4)], [.ref a2, vI (S.1 15 (w32 x4)), vI x3, .ref a1], hp S, 0, 0)) rfl ?_
      obtain ⟨S5, e6, F⟩ := F
      refine mv_cals (as := [.ref a1, vI x3, vI (S.1 15 (w32 x4)), .ref a2]) (rest := []) e6 rfl rfl rfl ⟨rfl, rfl, rfl⟩ rfl rfl rfl rfl ?_
      refine ev_bk 1 (S' := (67, [some (.ref 29), some (.ref a1), some (.ref a2), some (vI x3), some (vI x4)], [.ref 29], hp S5, 0, 0)) rfl ?_
      refine mv_gfR rfl rfl (sh_29) (by decide) rfl ?_
      refine mv_gfR rfl rfl (sh_10) (by decide) rfl ?_
      refine ev_bk 1 (S' := (75, [some (.ref 29), some (.ref a1), some (.ref a2), some (vI x3), some (vI x4)], [vI x4, .ref 13], hp S5, 0, 0)) rfl ?_
      obtain ⟨b7, F⟩ := F
      refine mv_ial rfl (sh_13) b7 ?_
      refine ev_bk 1 (S' := (77, [some (.ref 29), some (.ref a1), some (.ref a2), some (vI x3), some (vI x4)], [.ref 29, vI (S5.1 13 (w32 x4))], hp S5, 0, 0)) rfl ?_
      refine mv_gfR rfl rfl (sh_29) (by decide) rfl ?_
      refine mv_gfR rfl rfl (sh_10) (by decide) rfl ?_
      refine ev_bk 1 (S' := (85, [some (.ref 29), some (.ref a1), some (.ref a2), some (vI x3), some (vI x4)], [vI x4, .ref 14, vI (S5.1 13 (w32 x4))], hp S5, 0, 0)) rfl ?_
      obtain ⟨b8, F⟩ := F
      refine mv_ial rfl (sh_14) b8 ?_
      refine ev_bk 1 (S' := (87, [some (.ref 29), some (.ref a1), some (.ref a2), some (vI x3), some (vI x4)], [.ref a2, vI (S5.1 14 (w32 x4)), vI (S5.1 13 (w32 x4))], hp S5, 0, 0)) rfl ?_
      obtain ⟨S9, e10, F⟩ := F
      refine mv_cals (as := [vI (S5.1 13 (w32 x4)), vI (S5.1 14 (w32 x4)), .ref a2]) (rest := []) e10 rfl rfl rfl ⟨rfl, rfl, rfl⟩ rfl rfl rfl rfl ?_
      refine ev_bk 1 (S' := (91, [some (.ref 29), some (.ref a1), some (.ref a2), some (vI x3), some (vI x4)], [.ref 29], hp S9, 0, 0)) rfl ?_
      refine mv_gfR rfl rfl (sh_29) (by decide) rfl ?_
      refine mv_gfR rfl rfl (sh_10) (by decide) rfl ?_
      refine ev_bk 1 (S' := (99, [some (.ref 29), some (.ref a1), some (.ref a2), some (vI x3), some (vI x4)], [vI x4, .ref 15], hp S9, 0, 0)) rfl ?_
      obtain ⟨b11, F⟩ := F
      refine mv_ial rfl (sh_15) b11 ?_
      refine ev_bk 1 (S' := (101, [some (.ref 29), some (.ref a1), some (.ref a2), some (vI x3), some (vI x4)], [.ref 29, vI (S9.1 15 (w32 x4))], hp S9, 0, 0)) rfl ?_
      refine mv_gfR rfl rfl (sh_29) (by decide) rfl ?_
      refine mv_gfR rfl rfl (sh_10) (by decide) rfl ?_
      refine ev_bk 1 (S' := (109, [some (.ref 29), some (.ref a1), some (.ref a2), some (vI x3), some (vI x4)], [vI x4, .ref 13, vI (S9.1 15 (w32 x4))], hp S9, 0, 0)) rfl ?_
      obtain ⟨b12, F⟩ := F
      refine mv_ial rfl (sh_13) b12 ?_
      refine mv_iadd rfl ?_
      refine ev_bk 1 (S' := (112, [some (.ref 29), some (.ref a1), some (.ref a2), some (vI ((S9.1 15 (w32 x4)) + (S9.1 13 (w32 x4)))), some (vI x4)], [], hp S9, 0, 0)) rfl ?_
      exact F
theorem vc_Copies_packCopies_112 {q : Nat × (Nat → Int32)} {S S' : ms} {r : Option Value} (x3 x4 : Int) (a1 na1 : Nat) (ha1 : isRow a1 na1) (a2 na2 : Nat) (ha2 : isRow a2 na2)
    (F : EV q 88 25 [some (.ref 29), some (.ref a1), some (.ref a2), some (vI x3), some (vI (x4 + 1))] [] S r S') : EV q 88 112 [some (.ref 29), some (.ref a1), some (.ref a2), some (vI x3), some (vI x4)] [] S r S' := by
  unfold EV
  refine mv_inc (lv' := [some (.ref 29), some (.ref a1), some (.ref a2), some (vI x3), some (vI (x4 + 1))]) 4 1 rfl rfl rfl rfl ?_
  refine mv_goto 25 rfl rfl ?_
  exact F
theorem vc_Copies_copyLiterals {q : Nat × (Nat → Int32)} {S S' : ms} {r : Option Value} (x1 x2 : Int) (a0 na0 : Nat) (ha0 : isRow a0 na0) (a3 na3 : Nat) (ha3 : isRow a3 na3)
    (F : ((0 ≤ w32 ((x2 - x1) - 1)) → ((60 ≤ w32 ((x2 - x1) - 1)) → ((256 ≤ w32 ((x2 - x1) - 1)) → ∃ (S1 : ms), EV q 19 0 [some (.ref a3), some (vI 244)] [] S none S1 ∧ ∃ (S3 : ms), EV q 57 0 [some (.ref a3), some (vL (w32 ((x2 - x1) - 1))), none, some (vI 2), none] [] S1 none S3 ∧ EV q 90 70 [some (.ref a0), some (vI x1), some (vI x2), some (.ref a3), some (vI ((x2 - x1) - 1))] [] S3 r S') ∧ ((¬ 256 ≤ w32 ((x2 - x1) - 1)) → ∃ (S5 : ms), EV q 19 0 [some (.ref a3), some (vI 240)] [] S none S5 ∧ ∃ (S7 : ms), EV q 19 0 [some (.ref a3), some (vI ((x2 - x1) - 1))] [] S5 none S7 ∧ EV q 90 70 [some (.ref a0), some (vI x1), some (vI x2), some (.ref a3), some (vI ((x2 - x1) - 1))] [] S7 r S')) ∧ ((¬ 60 ≤ w32 ((x2 - x1) - 1)) → ∃ (S9 : ms), EV q 19 0 [some (.ref a3), some (vI (((x2 - x1) - 1) * 4))] [] S none S9 ∧ EV q 90 70 [some (.ref a0), some (vI x1), some (vI x2), some (.ref a3), some (vI ((x2 - x1) - 1))] [] S9 r S')) ∧ ((¬ 0 ≤ w32 ((x2 - x1) - 1)) → r = none ∧ S' = S)) : EV q 90 0 [some (.ref a0), some (vI x1), some (vI x2), some (.ref a3), none] [] S r S' := by
  unfold EV
  refine ev_bk 2 (S' := (2, [some (.ref a0), some (vI x1), some (vI x2), some (.ref a3), none], [vI x1, vI x2], hp S, 0, 0)) rfl ?_
  refine mv_isub rfl ?_
  refine ev_bk 1 (S' := (4, [some (.ref a0), some (vI x1), some (vI x2), some (.ref a3), none], [vI 1, vI (x2 - x1)], hp S, 0, 0)) rfl ?_
  refine mv_isub rfl ?_
  refine ev_bk 2 (S' := (9, [some (.ref a0), some (vI x1), some (vI x2), some (.ref a3), some (vI ((x2 - x1) - 1))], [vI ((x2 - x1) - 1)], hp S, 0, 0)) rfl ?_
  refine mv_if 13 rfl rfl (fun c => ?_) (fun c => ?_)
  · have F := F.1 c
    refine ev_bk 2 (S' := (17, [some (.ref a0), some (vI x1), some (vI x2), some (.ref a3), some (vI ((x2 - x1) - 1))], [vI 60, vI ((x2 - x1) - 1)], hp S, 0, 0)) rfl ?_
    refine mv_icmp 31 rfl rfl (fun c => ?_) (fun c => ?_)
    · have F := F.1 c
      refine ev_bk 2 (S' := (36, [some (.ref a0), some (vI x1), some (vI x2), some (.ref a3), some (vI ((x2 - x1) - 1))], [vI 256, vI ((x2 - x1) - 1)], hp S, 0, 0)) rfl ?_
      refine mv_icmp 55 rfl rfl (fun c => ?_) (fun c => ?_)
      · have F := F.1 c
        refine ev_bk 2 (S' := (59, [some (.ref a0), some (vI x1), some (vI x2), some (.ref a3), some (vI ((x2 - x1) - 1))], [vI 244, .ref a3], hp S, 0, 0)) rfl ?_
        obtain ⟨S1, e2, F⟩ := F
        refine mv_calv (as := [vI 244]) (rest := []) e2 (ha3.1) rfl rfl rfl ⟨rfl, rfl⟩ rfl rfl rfl rfl rfl ?_
        refine ev_bk 2 (S' := (65, [some (.ref a0), some (vI x1), some (vI x2), some (.ref a3), some (vI ((x2 - x1) - 1))], [vI ((x2 - x1) - 1), .ref a3], hp S1, 0, 0)) rfl ?_
        refine mv_i2l rfl ?_
        refine ev_bk 1 (S' := (67, [some (.ref a0), some (vI x1), some (vI x2), some (.ref a3), some (vI ((x2 - x1) - 1))], [vI 2, vL (w32 ((x2 - x1) - 1)), .ref a3], hp S1, 0, 0)) rfl ?_
        obtain ⟨S3, e4, F⟩ := F
        refine mv_calv (as := [vL (w32 ((x2 - x1) - 1)), vI 2]) (rest := []) e4 (ha3.1) rfl rfl rfl ⟨rfl, rfl⟩ rfl rfl rfl rfl rfl ?_
        exact F
      · have F := F.2 c
        refine ev_bk 2 (S' := (43, [some (.ref a0), some (vI x1), some (vI x2), some (.ref a3), some (vI ((x2 - x1) - 1))], [vI 240, .ref a3], hp S, 0, 0)) rfl ?_
        obtain ⟨S5, e6, F⟩ := F
        refine mv_calv (as := [vI 240]) (rest := []) e6 (ha3.1) rfl rfl rfl ⟨rfl, rfl⟩ rfl rfl rfl rfl rfl ?_
        refine ev_bk 2 (S' := (49, [some (.ref a0), some (vI x1), some (vI x2), some (.ref a3), some (vI ((x2 - x1) - 1))], [vI ((x2 - x1) - 1), .ref a3], hp S5, 0, 0)) rfl ?_
        obtain ⟨S7, e8, F⟩ := F
        refine mv_calv (as := [vI ((x2 - x1) - 1)]) (rest := []) e8 (ha3.1) rfl rfl rfl ⟨rfl, rfl⟩ rfl rfl rfl rfl rfl ?_
        refine mv_goto 70 rfl rfl ?_
        exact F
    · have F := F.2 c
      refine ev_bk 3 (S' := (24, [some (.ref a0), some (vI x1), some (vI x2), some (.ref a3), some (vI ((x2 - x1) - 1))], [vI 2, vI ((x2 - x1) - 1), .ref a3], hp S, 0, 0)) rfl ?_
      refine mv_ishl 4 rfl rfl ?_
      obtain ⟨S9, e10, F⟩ := F
      refine mv_calv (as := [vI (((x2 - x1) - 1) * 4)]) (rest := []) e10 (ha3.1) rfl rfl rfl ⟨rfl, rfl⟩ rfl rfl rfl rfl rfl ?_
      refine mv_goto 70 rfl rfl ?_
      exact F
  · have F := F.2 c
    obtain ⟨rfl, rfl⟩ := F
    exact ev_ret rfl rfl
theorem vc_Copies_copyLiterals_70 {q : Nat × (Nat → Int32)} {S S' : ms} {r : Option Value} (x1 x2 x4 : Int) (a0 na0 : Nat) (ha0 : isRow a0 na0) (a3 na3 : Nat) (ha3 : isRow a3 na3)
    (F : ∃ (S1 : ms), EV q 38 0 [some (.ref a3), some (.ref (a0 + 1)), some (vI x1), some (vI x2), none] [] S none S1 ∧ r = none ∧ S' = S1) : EV q 90 70 [some (.ref a0), some (vI x1), some (vI x2), some (.ref a3), some (vI x4)] [] S r S' := by
  unfold EV
  refine ev_bk 2 (S' := (72, [some (.ref a0), some (vI x1), some (vI x2), some (.ref a3), some (vI x4)], [.ref a0, .ref a3], hp S, 0, 0)) rfl ?_
  refine mv_gfR rfl rfl (ha0.1) (by decide) rfl ?_
  refine ev_bk 2 (S' := (77, [some (.ref a0), some (vI x1), some (vI x2), some (.ref a3), some (vI x4)], [vI x2, vI x1, .ref (a0 + 1), .ref a3], hp S, 0, 0)) rfl ?_
  obtain ⟨S1, e2, F⟩ := F
  refine mv_calv (as := [.ref (a0 + 1), vI x1, vI x2]) (rest := []) e2 (ha3.1) rfl rfl rfl ⟨rfl, rfl⟩ rfl rfl rfl rfl rfl ?_
  obtain ⟨rfl, rfl⟩ := F
  exact ev_ret rfl rfl
theorem vc_Copies_copyBack {q : Nat × (Nat → Int32)} {S S' : ms} {r : Option Value} (x0 x1 : Int) (a2 na2 : Nat) (ha2 : isRow a2 na2)
    (F : ((12 ≤ w32 x0) → EV q 91 39 [some (vI x0), some (vI x1), some (.ref a2)] [] S r S') ∧ ((¬ 12 ≤ w32 x0) → ((2048 ≤ w32 x1) → EV q 91 39 [some (vI x0), some (vI x1), some (.ref a2)] [] S r S') ∧ ((¬ 2048 ≤ w32 x1) → ∃ (S1 : ms), EV q 19 0 [some (.ref a2), some (vI (bO (bO ((w32 x1 / 256) * 32) ((x0 - 4) * 4)) 1))] [] S none S1 ∧ ∃ (S3 : ms), EV q 19 0 [some (.ref a2), some (vI x1)] [] S1 none S3 ∧ r = none ∧ S' = S3))) : EV q 91 0 [some (vI x0), some (vI x1), some (.ref a2)] [] S r S' := by
  unfold EV
  refine ev_bk 2 (S' := (3, [some (vI x0), some (vI x1), some (.ref a2)], [vI 12, vI x0], hp S, 0, 0)) rfl ?_
  refine mv_icmp 39 rfl rfl (fun c => ?_) (fun c => ?_)
  · have F := F.1 c
    exact F
  · have F := F.2 c
    refine ev_bk 2 (S' := (10, [some (vI x0), some (vI x1), some (.ref a2)], [vI 2048, vI x1], hp S, 0, 0)) rfl ?_
    refine mv_icmp 39 rfl rfl (fun c => ?_) (fun c => ?_)
    · have F := F.1 c
      exact F
    · have F := F.2 c
      refine ev_bk 3 (S' := (17, [some (vI x0), some (vI x1), some (.ref a2)], [vI 8, vI x1, .ref a2], hp S, 0, 0)) rfl ?_
      refine mv_ishr 256 rfl rfl ?_
      refine ev_bk 1 (S' := (19, [some (vI x0), some (vI x1), some (.ref a2)], [vI 5, vI (w32 x1 / 256), .ref a2], hp S, 0, 0)) rfl ?_
      refine mv_ishl 32 rfl rfl ?_
      refine ev_bk 2 (S' := (22, [some (vI x0), some (vI x1), some (.ref a2)], [vI 4, vI x0, vI ((w32 x1 / 256) * 32), .ref a2], hp S, 0, 0)) rfl ?_
      refine mv_isub rfl ?_
      refine ev_bk 1 (S' := (24, [some (vI x0), some (vI x1), some (.ref a2)], [vI 2, vI (x0 - 4), vI ((w32 x1 / 256) * 32), .ref a2], hp S, 0, 0)) rfl ?_
      refine mv_ishl 4 rfl rfl ?_
      refine mv_ior rfl ?_
      refine ev_bk 1 (S' := (27, [some (vI x0), some (vI x1), some (.ref a2)], [vI 1, vI (bO ((w32 x1 / 256) * 32) ((x0 - 4) * 4)), .ref a2], hp S, 0, 0)) rfl ?_
      refine mv_ior rfl ?_
      obtain ⟨S1, e2, F⟩ := F
      refine mv_calv (as := [vI (bO (bO ((w32 x1 / 256) * 32) ((x0 - 4) * 4)) 1)]) (rest := []) e2 (ha2.1) rfl rfl rfl ⟨rfl, rfl⟩ rfl rfl rfl rfl rfl ?_
      refine ev_bk 2 (S' := (33, [some (vI x0), some (vI x1), some (.ref a2)], [vI x1, .ref a2], hp S1, 0, 0)) rfl ?_
      obtain ⟨S3, e4, F⟩ := F
      refine mv_calv (as := [vI x1]) (rest := []) e4 (ha2.1) rfl rfl rfl ⟨rfl, rfl⟩ rfl rfl rfl rfl rfl ?_
      refine mv_goto 57 rfl rfl ?_
      obtain ⟨rfl, rfl⟩ := F
      exact ev_ret rfl rfl
theorem vc_Copies_copyBack_39 {q : Nat × (Nat → Int32)} {S S' : ms} {r : Option Value} (x0 x1 : Int) (a2 na2 : Nat) (ha2 : isRow a2 na2)
    (F : ∃ (S1 : ms), EV q 19 0 [some (.ref a2), some (vI (bO ((x0 - 1) * 4) 2))] [] S none S1 ∧ ∃ (S3 : ms), EV q 57 0 [some (.ref a2), some (vL (w32 x1)), none, some (vI 2), none] [] S1 none S3 ∧ r = none ∧ S' = S3) : EV q 91 39 [some (vI x0), some (vI x1), some (.ref a2)] [] S r S' := by
  unfold EV
  refine ev_bk 3 (S' := (42, [some (vI x0), some (vI x1), some (.ref a2)], [vI 1, vI x0, .ref a2], hp S, 0, 0)) rfl ?_
  refine mv_isub rfl ?_
  refine ev_bk 1 (S' := (44, [some (vI x0), some (vI x1), some (.ref a2)], [vI 2, vI (x0 - 1), .ref a2], hp S, 0, 0)) rfl ?_
  refine mv_ishl 4 rfl rfl ?_
  refine ev_bk 1 (S' := (46, [some (vI x0), some (vI x1), some (.ref a2)], [vI 2, vI ((x0 - 1) * 4), .ref a2], hp S, 0, 0)) rfl ?_
  refine mv_ior rfl ?_
  obtain ⟨S1, e2, F⟩ := F
  refine mv_calv (as := [vI (bO ((x0 - 1) * 4) 2)]) (rest := []) e2 (ha2.1) rfl rfl rfl ⟨rfl, rfl⟩ rfl rfl rfl rfl rfl ?_
  refine ev_bk 2 (S' := (52, [some (vI x0), some (vI x1), some (.ref a2)], [vI x1, .ref a2], hp S1, 0, 0)) rfl ?_
  refine mv_i2l rfl ?_
  refine ev_bk 1 (S' := (54, [some (vI x0), some (vI x1), some (.ref a2)], [vI 2, vL (w32 x1), .ref a2], hp S1, 0, 0)) rfl ?_
  obtain ⟨S3, e4, F⟩ := F
  refine mv_calv (as := [vL (w32 x1), vI 2]) (rest := []) e4 (ha2.1) rfl rfl rfl ⟨rfl, rfl⟩ rfl rfl rfl rfl rfl ?_
  obtain ⟨rfl, rfl⟩ := F
  exact ev_ret rfl rfl
theorem vc_Blocks_openAll {q : Nat × (Nat → Int32)} {S S' : ms} {r : Option Value} (x2 : Int)
    (F : EV q 129 5 [some (.ref 30), some (.ref 9), some (vI x2), some (vI 0), some (vI 0)] [] S r S') : EV q 129 0 [some (.ref 30), some (.ref 9), some (vI x2), none, none] [] S r S' := by
  unfold EV
  refine ev_bk 4 (S' := (5, [some (.ref 30), some (.ref 9), some (vI x2), some (vI 0), some (vI 0)], [], hp S, 0, 0)) rfl ?_
  exact F
theorem vc_Blocks_openAll_5 {q : Nat × (Nat → Int32)} {S S' : ms} {r : Option Value} (x2 x3 x4 : Int)
    (F : ((1000000 ≤ w32 x4) → EV q 129 127 [some (.ref 30), some (.ref 9), some (vI x2), some (vI x3), some (vI x4)] [] S r S') ∧ ((¬ 1000000 ≤ w32 x4) → ((¬ w32 x3 = 0) → EV q 129 127 [some (.ref 30), some (.ref 9), some (vI x2), some (vI x3), some (vI x4)] [] S r S') ∧ ((¬ (¬ w32 x3 = 0)) → ((¬ w32 (S.1 9 5) = 0) → EV q 129 127 [some (.ref 30), some (.ref 9), some (vI x2), some (vI x3), some (vI x4)] [] S r S') ∧ ((¬ (¬ w32 (S.1 9 5) = 0)) → ∃ (z3 : Int) (S1 : ms), EV q 123 0 [some (.ref 9), some (vI 1), none, none, none] [] S (some (vL z3)) S1 ∧ ((¬ w64 z3 = w64 1) → EV q 129 39 [some (.ref 30), some (.ref 9), some (vI x2), some (vI x3), some (vI x4)] [vI 0] S1 r S') ∧ ((¬ (¬ w64 z3 = w64 1)) → EV q 129 39 [some (.ref 30), some (.ref 9), some (vI x2), some (vI x3), some (vI x4)] [vI 1] S1 r S'))))) : EV q 129 5 [some (.ref 30), some (.ref 9), some (vI x2), some (vI x3), some (vI x4)] [] S r S' := by
  unfold EV
  refine ev_bk 2 (S' := (10, [some (.ref 30), some (.ref 9), some (vI x2), some (vI x3), some (vI x4)], [vI 1000000, vI x4], hp S, 0, 0)) rfl ?_
  refine mv_icmp 127 rfl rfl (fun c => ?_) (fun c => ?_)
  · have F := F.1 c
    exact F
  · have F := F.2 c
    refine ev_bk 1 (S' := (14, [some (.ref 30), some (.ref 9), some (vI x2), some (vI x3), some (vI x4)], [vI x3], hp S, 0, 0)) rfl ?_
    refine mv_if 127 rfl rfl (fun c => ?_) (fun c => ?_)
    · have F := F.1 c
      exact F
    · have F := F.2 c
      refine ev_bk 1 (S' := (18, [some (.ref 30), some (.ref 9), some (vI x2), some (vI x3), some (vI x4)], [.ref 9], hp S, 0, 0)) rfl ?_
      refine mv_gfI rfl rfl (sh_9) (by decide) rfl ?_
      refine mv_if 127 rfl rfl (fun c => ?_) (fun c => ?_)
      · have F := F.1 c
        exact F
      · have F := F.2 c
        refine ev_bk 2 (S' := (26, [some (.ref 30), some (.ref 9), some (vI x2), some (vI x3), some (vI x4)], [vI 1, .ref 9], hp S, 0, 0)) rfl ?_
        obtain ⟨z3, S1, e2, F⟩ := F
        refine mv_calv (as := [vI 1]) (rest := []) e2 (sh_9) rfl rfl rfl ⟨rfl, rfl⟩ rfl rfl rfl rfl rfl ?_
        refine ev_bk 1 (S' := (30, [some (.ref 30), some (.ref 9), some (vI x2), some (vI x3), some (vI x4)], [vL 1, vL z3], hp S1, 0, 0)) rfl ?_
        refine mv_lif 38 rfl rfl rfl (fun c => ?_) (fun c => ?_)
        · have F := F.1 c
          refine ev_bk 1 (S' := (39, [some (.ref 30), some (.ref 9), some (vI x2), some (vI x3), some (vI x4)], [vI 0], hp S1, 0, 0)) rfl ?_
          exact F
        · have F := F.2 c
          refine ev_bk 1 (S' := (35, [some (.ref 30), some (.ref 9), some (vI x2), some (vI x3), some (vI x4)], [vI 1], hp S1, 0, 0)) rfl ?_
          refine mv_goto 39 rfl rfl ?_
          exact F
theorem vc_Blocks_openAll_39 {q : Nat × (Nat → Int32)} {S S' : ms} {r : Option Value} (x2 x3 x4 y0 : Int)
    (F : ∃ (z3 : Int) (S1 : ms), EV q 123 0 [some (.ref 9), some (vI 2), none, none, none] [] S (some (vL z3)) S1 ∧ ((w32 z3 = 0) → ∃ (S6 : ms), EV q 130 0 [some (.ref 9), none, none, none, none] [] S1 none S6 ∧ EV q 129 121 [some (.ref 30), some (.ref 9), some (vI x2), some (vI y0), some (vI x4)] [] S6 r S') ∧ ((w32 z3 = 1) → ∃ (S8 : ms), EV q 133 0 [some (.ref 9), some (.ref 31), some (.ref 42), some (vI x2), none, none] [] S1 none S8 ∧ EV q 129 121 [some (.ref 30), some (.ref 9), some (vI x2), some (vI y0), some (vI x4)] [] S8 r S') ∧ ((w32 z3 = 2) → ∃ (S10 : ms), EV q 136 0 [some (.ref 30), some (.ref 9), none, none, none, none] [] S1 none S10 ∧ ∃ (S12 : ms), EV q 133 0 [some (.ref 9), some (.ref 53), some (.ref 64), some (vI x2), none, none] [] S10 none S12 ∧ EV q 129 121 [some (.ref 30), some (.ref 9), some (vI x2), some (vI y0), some (vI x4)] [] S12 r S') ∧ ((¬ w32 z3 = 0) → (¬ w32 z3 = 1) → (¬ w32 z3 = 2) → ∃ (S4 : ms), EV q 124 0 [some (.ref 9), some (vI 2)] [] S1 none S4 ∧ EV q 129 121 [some (.ref 30), some (.ref 9), some (vI x2), some (vI y0), some (vI x4)] [] S4 r S')) : EV q 129 39 [some (.ref 30), some (.ref 9), some (vI x2), some (vI x3), some (vI x4)] [vI y0] S r S' := by
  unfold EV
  refine ev_bk 3 (S' := (42, [some (.ref 30), some (.ref 9), some (vI x2), some (vI y0), some (vI x4)], [vI 2, .ref 9], hp S, 0, 0)) rfl ?_
  obtain ⟨z3, S1, e2, F⟩ := F
  refine mv_calv (as := [vI 2]) (rest := []) e2 (sh_9) rfl rfl rfl ⟨rfl, rfl⟩ rfl rfl rfl rfl rfl ?_
  refine mv_l2i rfl ?_
  by_cases d0 : w32 z3 < 0
  · have F := F.2.2.2 (ts_lo d0 (by decide)) (ts_lo d0 (by decide)) (ts_lo d0 (by decide))
    refine mv_tout 116 (Or.inl d0) rfl rfl ?_
    refine ev_bk 2 (S' := (118, [some (.ref 30), some (.ref 9), some (vI x2), some (vI y0), some (vI x4)], [vI 2, .ref 9], hp S1, 0, 0)) rfl ?_
    obtain ⟨S4, e5, F⟩ := F
    refine mv_calv (as := [vI 2]) (rest := []) e5 (sh_9) rfl rfl rfl ⟨rfl, rfl⟩ rfl rfl rfl rfl rfl ?_
    exact F
  by_cases d1 : w32 z3 < 1
  · have e := ts_eq d0 d1
    have F := F.1 e
    refine mv_tin 72 0 e rfl (by decide) rfl rfl ?_
    refine ev_bk 1 (S' := (73, [some (.ref 30), some (.ref 9), some (vI x2), some (vI y0), some (vI x4)], [.ref 9], hp S1, 0, 0)) rfl ?_
    obtain ⟨S6, e7, F⟩ := F
    refine mv_cals (as := [.ref 9]) (rest := []) e7 rfl rfl rfl ⟨rfl, rfl, rfl⟩ rfl rfl rfl rfl ?_
    refine mv_goto 121 rfl rfl ?_
    exact F
  by_cases d2 : w32 z3 < 2
  · have e := ts_eq d1 d2
    have F := F.2.1 e
    refine mv_tin 79 1 e rfl (by decide) rfl rfl ?_
    refine ev_bk 2 (S' := (81, [some (.ref 30), some (.ref 9), some (vI x2), some (vI y0), some (vI x4)], [.ref 30, .ref 9], hp S1, 0, 0)) rfl ?_
    refine mv_gfR rfl rfl (sh_30) (by decide) rfl ?_
    refine ev_bk 1 (S' := (85, [some (.ref 30), some (.ref 9), some (vI x2), some (vI y0), some (vI x4)], [.ref 30, .ref 31, .ref 9], hp S1, 0, 0)) rfl ?_
    refine mv_gfR rfl rfl (sh_30) (by decide) rfl ?_
    refine ev_bk 1 (S' := (89, [some (.ref 30), some (.ref 9), some (vI x2), some (vI y0), some (vI x4)], [vI x2, .ref 42, .ref 31, .ref 9], hp S1, 0, 0)) rfl ?_
    obtain ⟨S8, e9, F⟩ := F
    refine mv_cals (as := [.ref 9, .ref 31, .ref 42, vI x2]) (rest := []) e9 rfl rfl rfl ⟨rfl, rfl, rfl⟩ rfl rfl rfl rfl ?_
    refine mv_goto 121 rfl rfl ?_
    exact F
  by_cases d3 : w32 z3 < 3
  · have e := ts_eq d2 d3
    have F := F.2.2.1 e
    refine mv_tin 95 2 e rfl (by decide) rfl rfl ?_
    refine ev_bk 2 (S' := (97, [some (.ref 30), some (.ref 9), some (vI x2), some (vI y0), some (vI x4)], [.ref 9, .ref 30], hp S1, 0, 0)) rfl ?_
    obtain ⟨S10, e11, F⟩ := F
    refine mv_calv (as := [.ref 9]) (rest := []) e11 (sh_30) rfl rfl rfl ⟨rfl, rfl⟩ rfl rfl rfl rfl rfl ?_
    refine ev_bk 2 (S' := (102, [some (.ref 30), some (.ref 9), some (vI x2), some (vI y0), some (vI x4)], [.ref 30, .ref 9], hp S10, 0, 0)) rfl ?_
    refine mv_gfR rfl rfl (sh_30) (by decide) rfl ?_
    refine ev_bk 1 (S' := (106, [some (.ref 30), some (.ref 9), some (vI x2), some (vI y0), some (vI x4)], [.ref 30, .ref 53, .ref 9], hp S10, 0, 0)) rfl ?_
    refine mv_gfR rfl rfl (sh_30) (by decide) rfl ?_
    refine ev_bk 1 (S' := (110, [some (.ref 30), some (.ref 9), some (vI x2), some (vI y0), some (vI x4)], [vI x2, .ref 64, .ref 53, .ref 9], hp S10, 0, 0)) rfl ?_
    obtain ⟨S12, e13, F⟩ := F
    refine mv_cals (as := [.ref 9, .ref 53, .ref 64, vI x2]) (rest := []) e13 rfl rfl rfl ⟨rfl, rfl, rfl⟩ rfl rfl rfl rfl ?_
    refine mv_goto 121 rfl rfl ?_
    exact F
  have F := F.2.2.2 (ts_hi d3 (by decide)) (ts_hi d3 (by decide)) (ts_hi d3 (by decide))
  refine mv_tout 116 (Or.inr (ts_gt (hi := 2) d3)) rfl rfl ?_
  refine ev_bk 2 (S' := (118, [some (.ref 30), some (.ref 9), some (vI x2), some (vI y0), some (vI x4)], [vI 2, .ref 9], hp S1, 0, 0)) rfl ?_
  obtain ⟨S4, e5, F⟩ := F
  refine mv_calv (as := [vI 2]) (rest := []) e5 (sh_9) rfl rfl rfl ⟨rfl, rfl⟩ rfl rfl rfl rfl rfl ?_
  exact F
theorem vc_Blocks_openAll_121 {q : Nat × (Nat → Int32)} {S S' : ms} {r : Option Value} (x2 x3 x4 : Int)
    (F : EV q 129 5 [some (.ref 30), some (.ref 9), some (vI x2), some (vI x3), some (vI (x4 + 1))] [] S r S') : EV q 129 121 [some (.ref 30), some (.ref 9), some (vI x2), some (vI x3), some (vI x4)] [] S r S' := by
  unfold EV
  refine mv_inc (lv' := [some (.ref 30), some (.ref 9), some (vI x2), some (vI x3), some (vI (x4 + 1))]) 4 1 rfl rfl rfl rfl ?_
  refine mv_goto 5 rfl rfl ?_
  exact F
theorem vc_Blocks_openAll_127 {q : Nat × (Nat → Int32)} {S S' : ms} {r : Option Value} (x2 x3 x4 : Int)
    (F : ∃ (S1 : ms), EV q 131 0 [some (.ref 9)] [] S none S1 ∧ r = none ∧ S' = S1) : EV q 129 127 [some (.ref 30), some (.ref 9), some (vI x2), some (vI x3), some (vI x4)] [] S r S' := by
  unfold EV
  refine ev_bk 1 (S' := (128, [some (.ref 30), some (.ref 9), some (vI x2), some (vI x3), some (vI x4)], [.ref 9], hp S, 0, 0)) rfl ?_
  obtain ⟨S1, e2, F⟩ := F
  refine mv_calv (as := []) (rest := []) e2 (sh_9) rfl rfl rfl ⟨rfl, rfl⟩ rfl rfl rfl rfl rfl ?_
  obtain ⟨rfl, rfl⟩ := F
  exact ev_ret rfl rfl
theorem vc_Blocks_openStored {q : Nat × (Nat → Int32)} {S S' : ms} {r : Option Value}
    (F : ∃ (S1 : ms), EV q 131 0 [some (.ref 9)] [] S none S1 ∧ ∃ (z5 : Int) (S3 : ms), EV q 132 0 [some (.ref 9), some (vI 2), none, none, none] [] S1 (some (vL z5)) S3 ∧ ∃ (z8 : Int) (S6 : ms), EV q 132 0 [some (.ref 9), some (vI 2), none, none, none] [] S3 (some (vL z8)) S6 ∧ ((w64 z8 = w64 (lX z5 65535)) → EV q 130 31 [some (.ref 9), some (vL z5), none, some (vL z8), none] [] S6 r S') ∧ ((¬ w64 z8 = w64 (lX z5 65535)) → ∃ (S9 : ms), EV q 124 0 [some (.ref 9), some (vI 3)] [] S6 none S9 ∧ EV q 130 31 [some (.ref 9), some (vL z5), none, some (vL z8), none] [] S9 r S')) : EV q 130 0 [some (.ref 9), none, none, none, none] [] S r S' := by
  unfold EV
  refine ev_bk 1 (S' := (1, [some (.ref 9), none, none, none, none], [.ref 9], hp S, 0, 0)) rfl ?_
  obtain ⟨S1, e2, F⟩ := F
  refine mv_calv (as := []) (rest := []) e2 (sh_9) rfl rfl rfl ⟨rfl, rfl⟩ rfl rfl rfl rfl rfl ?_
  refine ev_bk 2 (S' := (6, [some (.ref 9), none, none, none, none], [vI 2, .ref 9], hp S1, 0, 0)) rfl ?_
  obtain ⟨z5, S3, e4, F⟩ := F
  refine mv_calv (as := [vI 2]) (rest := []) e4 (sh_9) rfl rfl rfl ⟨rfl, rfl⟩ rfl rfl rfl rfl rfl ?_
  refine ev_bk 3 (S' := (12, [some (.ref 9), some (vL z5), none, none, none], [vI 2, .ref 9], hp S3, 0, 0)) rfl ?_
  obtain ⟨z8, S6, e7, F⟩ := F
  refine mv_calv (as := [vI 2]) (rest := []) e7 (sh_9) rfl rfl rfl ⟨rfl, rfl⟩ rfl rfl rfl rfl rfl ?_
  refine ev_bk 4 (S' := (21, [some (.ref 9), some (vL z5), none, some (vL z8), none], [vL 65535, vL z5, vL z8], hp S6, 0, 0)) rfl ?_
  refine mv_lxor rfl ?_
  refine mv_lif 31 rfl rfl rfl (fun c => ?_) (fun c => ?_)
  · have F := F.1 c
    exact F
  · have F := F.2 c
    refine ev_bk 2 (S' := (28, [some (.ref 9), some (vL z5), none, some (vL z8), none], [vI 3, .ref 9], hp S6, 0, 0)) rfl ?_
    obtain ⟨S9, e10, F⟩ := F
    refine mv_calv (as := [vI 3]) (rest := []) e10 (sh_9) rfl rfl rfl ⟨rfl, rfl⟩ rfl rfl rfl rfl rfl ?_
    exact F
theorem vc_Blocks_openStored_31 {q : Nat × (Nat → Int32)} {S S' : ms} {r : Option Value} (x1 x3 : Int)
    (F : ∃ (S1 : ms), EV q 119 0 [some (.ref 9), some (vL x1), none, none, none] [] S none S1 ∧ r = none ∧ S' = S1) : EV q 130 31 [some (.ref 9), some (vL x1), none, some (vL x3), none] [] S r S' := by
  unfold EV
  refine ev_bk 2 (S' := (33, [some (.ref 9), some (vL x1), none, some (vL x3), none], [vL x1, .ref 9], hp S, 0, 0)) rfl ?_
  obtain ⟨S1, e2, F⟩ := F
  refine mv_calv (as := [vL x1]) (rest := []) e2 (sh_9) rfl rfl rfl ⟨rfl, rfl⟩ rfl rfl rfl rfl rfl ?_
  obtain ⟨rfl, rfl⟩ := F
  exact ev_ret rfl rfl
theorem vc_Blocks_openSymbols {q : Nat × (Nat → Int32)} {S S' : ms} {r : Option Value} (x3 : Int) (a1 : Nat) (ha1 : isCode a1) (a2 : Nat) (ha2 : isCode a2)
    (F : EV q 133 3 [some (.ref 9), some (.ref a1), some (.ref a2), some (vI x3), some (vI 0), none] [] S r S') : EV q 133 0 [some (.ref 9), some (.ref a1), some (.ref a2), some (vI x3), none, none] [] S r S' := by
  unfold EV
  refine ev_bk 2 (S' := (3, [some (.ref 9), some (.ref a1), some (.ref a2), some (vI x3), some (vI 0), none], [], hp S, 0, 0)) rfl ?_
  exact F
theorem vc_Blocks_openSymbols_3 {q : Nat × (Nat → Int32)} {S S' : ms} {r : Option Value} (x3 x4 : Int) (a1 : Nat) (ha1 : isCode a1) (a2 : Nat) (ha2 : isCode a2)
    (F : ((1000000 ≤ w32 x4) → r = none ∧ S' = S) ∧ ((¬ 1000000 ≤ w32 x4) → ((¬ w32 (S.1 9 5) = 0) → r = none ∧ S' = S) ∧ ((¬ (¬ w32 (S.1 9 5) = 0)) → ∃ (z3 : Int) (S1 : ms), EV q 134 0 [some (.ref 9), some (.ref a1), some (vI 11), none, none, none, none, none] [] S (some (vI z3)) S1 ∧ ((¬ w32 z3 = 256) → ((w32 z3 < 0) → EV q 133 58 [some (.ref 9), some (.ref a1), some (.ref a2), some (vI x3), some (vI x4), some (vI z3)] [] S1 r S') ∧ ((¬ w32 z3 < 0) → ((256 ≤ w32 z3) → EV q 133 58 [some (.ref 9), some (.ref a1), some (.ref a2), some (vI x3), some (vI x4), some (vI z3)] [] S1 r S') ∧ ((¬ 256 ≤ w32 z3) → ∃ (S4 : ms), EV q 120 0 [some (.ref 9), some (vI z3)] [] S1 none S4 ∧ EV q 133 78 [some (.ref 9), some (.ref a1), some (.ref a2), some (vI x3), some (vI x4), some (vI z3)] [] S4 r S'))) ∧ ((¬ (¬ w32 z3 = 256)) → r = none ∧ S' = S1)))) : EV q 133 3 [some (.ref 9), some (.ref a1), some (.ref a2), some (vI x3), some (vI x4), none] [] S r S' := by
  unfold EV
  refine ev_bk 2 (S' := (8, [some (.ref 9), some (.ref a1), some (.ref a2), some (vI x3), some (vI x4), none], [vI 1000000, vI x4], hp S, 0, 0)) rfl ?_
  refine mv_icmp 84 rfl rfl (fun c => ?_) (fun c => ?_)
  · have F := F.1 c
    obtain ⟨rfl, rfl⟩ := F
    exact ev_ret rfl rfl
  · have F := F.2 c
    refine ev_bk 1 (S' := (12, [some (.ref 9), some (.ref a1), some (.ref a2), some (vI x3), some (vI x4), none], [.ref 9], hp S, 0, 0)) rfl ?_
    refine mv_gfI rfl rfl (sh_9) (by decide) rfl ?_
    refine mv_if 84 rfl rfl (fun c => ?_) (fun c => ?_)
    · have F := F.1 c
      obtain ⟨rfl, rfl⟩ := F
      exact ev_ret rfl rfl
    · have F := F.2 c
      refine ev_bk 3 (S' := (22, [some (.ref 9), some (.ref a1), some (.ref a2), some (vI x3), some (vI x4), none], [vI 11, .ref a1, .ref 9], hp S, 0, 0)) rfl ?_
      obtain ⟨z3, S1, e2, F⟩ := F
      refine mv_calv (as := [.ref a1, vI 11]) (rest := []) e2 (sh_9) rfl rfl rfl ⟨rfl, rfl⟩ rfl rfl rfl rfl rfl ?_
      refine ev_bk 3 (S' := (32, [some (.ref 9), some (.ref a1), some (.ref a2), some (vI x3), some (vI x4), some (vI z3)], [vI 256, vI z3], hp S1, 0, 0)) rfl ?_
      refine mv_icmp 36 rfl rfl (fun c => ?_) (fun c => ?_)
      · have F := F.1 c
        refine ev_bk 1 (S' := (38, [some (.ref 9), some (.ref a1), some (.ref a2), some (vI x3), some (vI x4), some (vI z3)], [vI z3], hp S1, 0, 0)) rfl ?_
        refine mv_if 58 rfl rfl (fun c => ?_) (fun c => ?_)
        · have F := F.1 c
          exact F
        · have F := F.2 c
          refine ev_bk 2 (S' := (46, [some (.ref 9), some (.ref a1), some (.ref a2), some (vI x3), some (vI x4), some (vI z3)], [vI 256, vI z3], hp S1, 0, 0)) rfl ?_
          refine mv_icmp 58 rfl rfl (fun c => ?_) (fun c => ?_)
          · have F := F.1 c
            exact F
          · have F := F.2 c
            refine ev_bk 2 (S' := (52, [some (.ref 9), some (.ref a1), some (.ref a2), some (vI x3), some (vI x4), some (vI z3)], [vI z3, .ref 9], hp S1, 0, 0)) rfl ?_
            obtain ⟨S4, e5, F⟩ := F
            refine mv_calv (as := [vI z3]) (rest := []) e5 (sh_9) rfl rfl rfl ⟨rfl, rfl⟩ rfl rfl rfl rfl rfl ?_
            refine mv_goto 78 rfl rfl ?_
            exact F
      · have F := F.2 c
        obtain ⟨rfl, rfl⟩ := F
        exact ev_ret rfl rfl
theorem vc_Blocks_openSymbols_58 {q : Nat × (Nat → Int32)} {S S' : ms} {r : Option Value} (x3 x4 x5 : Int) (a1 : Nat) (ha1 : isCode a1) (a2 : Nat) (ha2 : isCode a2)
    (F : ((w32 x5 ≤ 256) → EV q 133 78 [some (.ref 9), some (.ref a1), some (.ref a2), some (vI x3), some (vI x4), some (vI x5)] [] S r S') ∧ ((¬ w32 x5 ≤ 256) → ∃ (S1 : ms), EV q 135 0 [some (.ref 9), some (vI (x5 - 257)), some (.ref a2), some (vI x3), none, none, none, none, none] [] S none S1 ∧ EV q 133 78 [some (.ref 9), some (.ref a1), some (.ref a2), some (vI x3), some (vI x4), some (vI x5)] [] S1 r S')) : EV q 133 58 [some (.ref 9), some (.ref a1), some (.ref a2), some (vI x3), some (vI x4), some (vI x5)] [] S r S' := by
  unfold EV
  refine ev_bk 2 (S' := (63, [some (.ref 9), some (.ref a1), some (.ref a2), some (vI x3), some (vI x4), some (vI x5)], [vI 256, vI x5], hp S, 0, 0)) rfl ?_
  refine mv_icmp 78 rfl rfl (fun c => ?_) (fun c => ?_)
  · have F := F.1 c
    exact F
  · have F := F.2 c
    refine ev_bk 3 (S' := (72, [some (.ref 9), some (.ref a1), some (.ref a2), some (vI x3), some (vI x4), some (vI x5)], [vI 257, vI x5, .ref 9], hp S, 0, 0)) rfl ?_
    refine mv_isub rfl ?_
    refine ev_bk 2 (S' := (75, [some (.ref 9), some (.ref a1), some (.ref a2), some (vI x3), some (vI x4), some (vI x5)], [vI x3, .ref a2, vI (x5 - 257), .ref 9], hp S, 0, 0)) rfl ?_
    obtain ⟨S1, e2, F⟩ := F
    refine mv_cals (as := [.ref 9, vI (x5 - 257), .ref a2, vI x3]) (rest := []) e2 rfl rfl rfl ⟨rfl, rfl, rfl⟩ rfl rfl rfl rfl ?_
    exact F
theorem vc_Blocks_openSymbols_78 {q : Nat × (Nat → Int32)} {S S' : ms} {r : Option Value} (x3 x4 x5 : Int) (a1 : Nat) (ha1 : isCode a1) (a2 : Nat) (ha2 : isCode a2)
    (F : EV q 133 3 [some (.ref 9), some (.ref a1), some (.ref a2), some (vI x3), some (vI (x4 + 1)), none] [] S r S') : EV q 133 78 [some (.ref 9), some (.ref a1), some (.ref a2), some (vI x3), some (vI x4), some (vI x5)] [] S r S' := by
  unfold EV
  refine mv_inc (lv' := [some (.ref 9), some (.ref a1), some (.ref a2), some (vI x3), some (vI (x4 + 1)), some (vI x5)]) 4 1 rfl rfl rfl rfl ?_
  refine mv_goto 3 rfl rfl ?_
  exact ev_wk (le_s (le_s (le_s (le_s (le_s (le_n le_0)))))) F
theorem vc_Blocks_openMatch {q : Nat × (Nat → Int32)} {S S' : ms} {r : Option Value} (x1 x3 : Int) (a2 : Nat) (ha2 : isCode a2)
    (F : ((w32 x1 < 29) → (0 ≤ w32 x1 ∧ w32 x1 < (29 : Nat)) ∧ (0 ≤ w32 x1 ∧ w32 x1 < (29 : Nat)) ∧ ∃ (z5 : Int) (S3 : ms), EV q 123 0 [some (.ref 9), some (vI (sS 1 (w32 x1))), none, none, none] [] S (some (vL z5)) S3 ∧ ∃ (z8 : Int) (S6 : ms), EV q 134 0 [some (.ref 9), some (.ref a2), some (vI 11), none, none, none, none, none] [] S3 (some (vI z8)) S6 ∧ ((w32 z8 < 0) → EV q 135 52 [some (.ref 9), some (vI x1), some (.ref a2), some (vI x3), some (vL ((w32 (sS 0 (w32 x1))) + z5)), none, some (vI z8), none, none] [] S6 r S') ∧ ((¬ w32 z8 < 0) → ((w32 z8 < 30) → (0 ≤ w32 z8 ∧ w32 z8 < (30 : Nat)) ∧ (0 ≤ w32 z8 ∧ w32 z8 < (30 : Nat)) ∧ ∃ (z13 : Int) (S11 : ms), EV q 123 0 [some (.ref 9), some (vI (sS 5 (w32 z8))), none, none, none] [] S6 (some (vL z13)) S11 ∧ ∃ (o14 no14 : Nat), S11.2.2 9 1 = o14 ∧ isRow o14 no14 ∧ ((w64 (w32 (S11.1 o14 1)) < w64 ((w32 (sS 4 (w32 z8))) + z13)) → EV q 135 101 [some (.ref 9), some (vI x1), some (.ref a2), some (vI x3), some (vL ((w32 (sS 0 (w32 x1))) + z5)), none, some (vI z8), some (vL ((w32 (sS 4 (w32 z8))) + z13)), none] [] S11 r S') ∧ ((¬ w64 (w32 (S11.1 o14 1)) < w64 ((w32 (sS 4 (w32 z8))) + z13)) → ((w64 ((w32 (sS 4 (w32 z8))) + z13) ≤ w64 (w32 x3)) → EV q 135 107 [some (.ref 9), some (vI x1), some (.ref a2), some (vI x3), some (vL ((w32 (sS 0 (w32 x1))) + z5)), none, some (vI z8), some (vL ((w32 (sS 4 (w32 z8))) + z13)), none] [] S11 r S') ∧ ((¬ w64 ((w32 (sS 4 (w32 z8))) + z13) ≤ w64 (w32 x3)) → EV q 135 101 [some (.ref 9), some (vI x1), some (.ref a2), some (vI x3), some (vL ((w32 (sS 0 (w32 x1))) + z5)), none, some (vI z8), some (vL ((w32 (sS 4 (w32 z8))) + z13)), none] [] S11 r S'))) ∧ ((¬ w32 z8 < 30) → EV q 135 52 [some (.ref 9), some (vI x1), some (.ref a2), some (vI x3), some (vL ((w32 (sS 0 (w32 x1))) + z5)), none, some (vI z8), none, none] [] S6 r S'))) ∧ ((¬ w32 x1 < 29) → ∃ (S17 : ms), EV q 124 0 [some (.ref 9), some (vI 11)] [] S none S17 ∧ r = none ∧ S' = S17)) : EV q 135 0 [some (.ref 9), some (vI x1), some (.ref a2), some (vI x3), none, none, none, none, none] [] S r S' := by
  unfold EV
  refine ev_bk 2 (S' := (3, [some (.ref 9), some (vI x1), some (.ref a2), some (vI x3), none, none, none, none, none], [vI 29, vI x1], hp S, 0, 0)) rfl ?_
  refine mv_icmp 13 rfl rfl (fun c => ?_) (fun c => ?_)
  · have F := F.1 c
    refine mv_gs (k := 0) rfl rfl ?_
    refine ev_bk 1 (S' := (17, [some (.ref 9), some (vI x1), some (.ref a2), some (vI x3), none, none, none, none, none], [vI x1, .ref (en_b + 0)], hp S, 0, 0)) rfl ?_
    obtain ⟨b1, F⟩ := F
    refine mv_sal (k := 0) rfl rfl (by decide) b1 ?_
    refine mv_i2l rfl ?_
    refine ev_bk 1 (S' := (20, [some (.ref 9), some (vI x1), some (.ref a2), some (vI x3), none, none, none, none, none], [.ref 9, vL (w32 (sS 0 (w32 x1)))], hp S, 0, 0)) rfl ?_
    refine mv_gs (k := 1) rfl rfl ?_
    refine ev_bk 1 (S' := (24, [some (.ref 9), some (vI x1), some (.ref a2), some (vI x3), none, none, none, none, none], [vI x1, .ref (en_b + 1), .ref 9, vL (w32 (sS 0 (w32 x1)))], hp S, 0, 0)) rfl ?_
    obtain ⟨b2, F⟩ := F
    refine mv_sal (k := 1) rfl rfl (by decide) b2 ?_
    obtain ⟨z5, S3, e4, F⟩ := F
    refine mv_calv (as := [vI (sS 1 (w32 x1))]) (rest := [vL (w32 (sS 0 (w32 x1)))]) e4 (sh_9) rfl rfl rfl ⟨rfl, rfl⟩ rfl rfl rfl rfl rfl ?_
    refine mv_ladd rfl ?_
    refine ev_bk 4 (S' := (35, [some (.ref 9), some (vI x1), some (.ref a2), some (vI x3), some (vL ((w32 (sS 0 (w32 x1))) + z5)), none, none, none, none], [vI 11, .ref a2, .ref 9], hp S3, 0, 0)) rfl ?_
    obtain ⟨z8, S6, e7, F⟩ := F
    refine mv_calv (as := [.ref a2, vI 11]) (rest := []) e7 (sh_9) rfl rfl rfl ⟨rfl, rfl⟩ rfl rfl rfl rfl rfl ?_
    refine ev_bk 2 (S' := (42, [some (.ref 9), some (vI x1), some (.ref a2), some (vI x3), some (vL ((w32 (sS 0 (w32 x1))) + z5)), none, some (vI z8), none, none], [vI z8], hp S6, 0, 0)) rfl ?_
    refine mv_if 52 rfl rfl (fun c => ?_) (fun c => ?_)
    · have F := F.1 c
      exact F
    · have F := F.2 c
      refine ev_bk 2 (S' := (49, [some (.ref 9), some (vI x1), some (.ref a2), some (vI x3), some (vL ((w32 (sS 0 (w32 x1))) + z5)), none, some (vI z8), none, none], [vI 30, vI z8], hp S6, 0, 0)) rfl ?_
      refine mv_icmp 59 rfl rfl (fun c => ?_) (fun c => ?_)
      · have F := F.1 c
        refine mv_gs (k := 4) rfl rfl ?_
        refine ev_bk 1 (S' := (64, [some (.ref 9), some (vI x1), some (.ref a2), some (vI x3), some (vL ((w32 (sS 0 (w32 x1))) + z5)), none, some (vI z8), none, none], [vI z8, .ref (en_b + 4)], hp S6, 0, 0)) rfl ?_
        obtain ⟨b9, F⟩ := F
        refine mv_sal (k := 4) rfl rfl (by decide) b9 ?_
        refine mv_i2l rfl ?_
        refine ev_bk 1 (S' := (67, [some (.ref 9), some (vI x1), some (.ref a2), some (vI x3), some (vL ((w32 (sS 0 (w32 x1))) + z5)), none, some (vI z8), none, none], [.ref 9, vL (w32 (sS 4 (w32 z8)))], hp S6, 0, 0)) rfl ?_
        refine mv_gs (k := 5) rfl rfl ?_
        refine ev_bk 1 (S' := (72, [some (.ref 9), some (vI x1), some (.ref a2), some (vI x3), some (vL ((w32 (sS 0 (w32 x1))) + z5)), none, some (vI z8), none, none], [vI z8, .ref (en_b + 5), .ref 9, vL (w32 (sS 4 (w32 z8)))], hp S6, 0, 0)) rfl ?_
        obtain ⟨b10, F⟩ := F
        refine mv_sal (k := 5) rfl rfl (by decide) b10 ?_
        obtain ⟨z13, S11, e12, F⟩ := F
        refine mv_calv (as := [vI (sS 5 (w32 z8))]) (rest := [vL (w32 (sS 4 (w32 z8)))]) e12 (sh_9) rfl rfl rfl ⟨rfl, rfl⟩ rfl rfl rfl rfl rfl ?_
        refine mv_ladd rfl ?_
        refine ev_bk 3 (S' := (82, [some (.ref 9), some (vI x1), some (.ref a2), some (vI x3), some (vL ((w32 (sS 0 (w32 x1))) + z5)), none, some (vI z8), some (vL ((w32 (sS 4 (w32 z8))) + z13)), none], [.ref 9, vL ((w32 (sS 4 (w32 z8))) + z13)], hp S11, 0, 0)) rfl ?_
        obtain ⟨o14, no14, e16, h15, F⟩ := F
        refine mv_gfV rfl rfl (sh_9) (by decide) rfl e16 ?_
        refine mv_gfI rfl rfl (h15.1) (by decide) rfl ?_
        refine mv_i2l rfl ?_
        refine mv_lif 101 rfl rfl rfl (fun c => ?_) (fun c => ?_)
        · have F := F.1 c
          exact F
        · have F := F.2 c
          refine ev_bk 2 (S' := (96, [some (.ref 9), some (vI x1), some (.ref a2), some (vI x3), some (vL ((w32 (sS 0 (w32 x1))) + z5)), none, some (vI z8), some (vL ((w32 (sS 4 (w32 z8))) + z13)), none], [vI x3, vL ((w32 (sS 4 (w32 z8))) + z13)], hp S11, 0, 0)) rfl ?_
          refine mv_i2l rfl ?_
          refine mv_lif 107 rfl rfl rfl (fun c => ?_) (fun c => ?_)
          · have F := F.1 c
            exact F
          · have F := F.2 c
            exact F
      · have F := F.2 c
        exact F
  · have F := F.2 c
    refine ev_bk 2 (S' := (9, [some (.ref 9), some (vI x1), some (.ref a2), some (vI x3), none, none, none, none, none], [vI 11, .ref 9], hp S, 0, 0)) rfl ?_
    obtain ⟨S17, e18, F⟩ := F
    refine mv_calv (as := [vI 11]) (rest := []) e18 (sh_9) rfl rfl rfl ⟨rfl, rfl⟩ rfl rfl rfl rfl rfl ?_
    obtain ⟨rfl, rfl⟩ := F
    exact ev_ret rfl rfl
theorem vc_Blocks_openMatch_52 {q : Nat × (Nat → Int32)} {S S' : ms} {r : Option Value} (x1 x3 x4 x6 : Int) (a2 : Nat) (ha2 : isCode a2)
    (F : ∃ (S1 : ms), EV q 124 0 [some (.ref 9), some (vI 11)] [] S none S1 ∧ r = none ∧ S' = S1) : EV q 135 52 [some (.ref 9), some (vI x1), some (.ref a2), some (vI x3), some (vL x4), none, some (vI x6), none, none] [] S r S' := by
  unfold EV
  refine ev_bk 2 (S' := (55, [some (.ref 9), some (vI x1), some (.ref a2), some (vI x3), some (vL x4), none, some (vI x6), none, none], [vI 11, .ref 9], hp S, 0, 0)) rfl ?_
  obtain ⟨S1, e2, F⟩ := F
  refine mv_calv (as := [vI 11]) (rest := []) e2 (sh_9) rfl rfl rfl ⟨rfl, rfl⟩ rfl rfl rfl rfl rfl ?_
  obtain ⟨rfl, rfl⟩ := F
  exact ev_ret rfl rfl
theorem vc_Blocks_openMatch_101 {q : Nat × (Nat → Int32)} {S S' : ms} {r : Option Value} (x1 x3 x4 x6 x7 : Int) (a2 : Nat) (ha2 : isCode a2)
    (F : ∃ (S1 : ms), EV q 124 0 [some (.ref 9), some (vI 12)] [] S none S1 ∧ EV q 135 107 [some (.ref 9), some (vI x1), some (.ref a2), some (vI x3), some (vL x4), none, some (vI x6), some (vL x7), none] [] S1 r S') : EV q 135 101 [some (.ref 9), some (vI x1), some (.ref a2), some (vI x3), some (vL x4), none, some (vI x6), some (vL x7), none] [] S r S' := by
  unfold EV
  refine ev_bk 2 (S' := (104, [some (.ref 9), some (vI x1), some (.ref a2), some (vI x3), some (vL x4), none, some (vI x6), some (vL x7), none], [vI 12, .ref 9], hp S, 0, 0)) rfl ?_
  obtain ⟨S1, e2, F⟩ := F
  refine mv_calv (as := [vI 12]) (rest := []) e2 (sh_9) rfl rfl rfl ⟨rfl, rfl⟩ rfl rfl rfl rfl rfl ?_
  exact F
theorem vc_Blocks_openMatch_107 {q : Nat × (Nat → Int32)} {S S' : ms} {r : Option Value} (x1 x3 x4 x6 x7 : Int) (a2 : Nat) (ha2 : isCode a2)
    (F : ∃ (S1 : ms), EV q 128 0 [some (.ref 9), some (vL x7), none, some (vL x4), none, none, none] [] S none S1 ∧ r = none ∧ S' = S1) : EV q 135 107 [some (.ref 9), some (vI x1), some (.ref a2), some (vI x3), some (vL x4), none, some (vI x6), some (vL x7), none] [] S r S' := by
  unfold EV
  refine ev_bk 3 (S' := (112, [some (.ref 9), some (vI x1), some (.ref a2), some (vI x3), some (vL x4), none, some (vI x6), some (vL x7), none], [vL x4, vL x7, .ref 9], hp S, 0, 0)) rfl ?_
  obtain ⟨S1, e2, F⟩ := F
  refine mv_calv (as := [vL x7, vL x4]) (rest := []) e2 (sh_9) rfl rfl rfl ⟨rfl, rfl⟩ rfl rfl rfl rfl rfl ?_
  obtain ⟨rfl, rfl⟩ := F
  exact ev_ret rfl rfl
theorem vc_Blocks_openCodes {q : Nat × (Nat → Int32)} {S S' : ms} {r : Option Value}
    (F : ∃ (z3 : Int) (S1 : ms), EV q 123 0 [some (.ref 9), some (vI 5), none, none, none] [] S (some (vL z3)) S1 ∧ ∃ (z6 : Int) (S4 : ms), EV q 123 0 [some (.ref 9), some (vI 5), none, none, none] [] S1 (some (vL z6)) S4 ∧ ∃ (z9 : Int) (S7 : ms), EV q 123 0 [some (.ref 9), some (vI 4), none, none, none] [] S4 (some (vL z9)) S7 ∧ ((286 < w32 (z3 + 257)) → EV q 136 43 [some (.ref 30), some (.ref 9), some (vI (z3 + 257)), some (vI (z6 + 1)), some (vI (z9 + 4)), none] [] S7 r S') ∧ ((¬ 286 < w32 (z3 + 257)) → ((w32 (z6 + 1) ≤ 30) → EV q 136 48 [some (.ref 30), some (.ref 9), some (vI (z3 + 257)), some (vI (z6 + 1)), some (vI (z9 + 4)), none] [] S7 r S') ∧ ((¬ w32 (z6 + 1) ≤ 30) → EV q 136 43 [some (.ref 30), some (.ref 9), some (vI (z3 + 257)), some (vI (z6 + 1)), some (vI (z9 + 4)), none] [] S7 r S'))) : EV q 136 0 [some (.ref 30), some (.ref 9), none, none, none, none] [] S r S' := by
  unfold EV
  refine ev_bk 2 (S' := (2, [some (.ref 30), some (.ref 9), none, none, none, none], [vI 5, .ref 9], hp S, 0, 0)) rfl ?_
  obtain ⟨z3, S1, e2, F⟩ := F
  refine mv_calv (as := [vI 5]) (rest := []) e2 (sh_9) rfl rfl rfl ⟨rfl, rfl⟩ rfl rfl rfl rfl rfl ?_
  refine mv_l2i rfl ?_
  refine ev_bk 1 (S' := (9, [some (.ref 30), some (.ref 9), none, none, none, none], [vI 257, vI z3], hp S1, 0, 0)) rfl ?_
  refine mv_iadd rfl ?_
  refine ev_bk 3 (S' := (13, [some (.ref 30), some (.ref 9), some (vI (z3 + 257)), none, none, none], [vI 5, .ref 9], hp S1, 0, 0)) rfl ?_
  obtain ⟨z6, S4, e5, F⟩ := F
  refine mv_calv (as := [vI 5]) (rest := []) e5 (sh_9) rfl rfl rfl ⟨rfl, rfl⟩ rfl rfl rfl rfl rfl ?_
  refine mv_l2i rfl ?_
  refine ev_bk 1 (S' := (18, [some (.ref 30), some (.ref 9), some (vI (z3 + 257)), none, none, none], [vI 1, vI z6], hp S4, 0, 0)) rfl ?_
  refine mv_iadd rfl ?_
  refine ev_bk 3 (S' := (22, [some (.ref 30), some (.ref 9), some (vI (z3 + 257)), some (vI (z6 + 1)), none, none], [vI 4, .ref 9], hp S4, 0, 0)) rfl ?_
  obtain ⟨z9, S7, e8, F⟩ := F
  refine mv_calv (as := [vI 4]) (rest := []) e8 (sh_9) rfl rfl rfl ⟨rfl, rfl⟩ rfl rfl rfl rfl rfl ?_
  refine mv_l2i rfl ?_
  refine ev_bk 1 (S' := (27, [some (.ref 30), some (.ref 9), some (vI (z3 + 257)), some (vI (z6 + 1)), none, none], [vI 4, vI z9], hp S7, 0, 0)) rfl ?_
  refine mv_iadd rfl ?_
  refine ev_bk 3 (S' := (34, [some (.ref 30), some (.ref 9), some (vI (z3 + 257)), some (vI (z6 + 1)), some (vI (z9 + 4)), none], [vI 286, vI (z3 + 257)], hp S7, 0, 0)) rfl ?_
  refine mv_icmp 43 rfl rfl (fun c => ?_) (fun c => ?_)
  · have F := F.1 c
    exact F
  · have F := F.2 c
    refine ev_bk 2 (S' := (40, [some (.ref 30), some (.ref 9), some (vI (z3 + 257)), some (vI (z6 + 1)), some (vI (z9 + 4)), none], [vI 30, vI (z6 + 1)], hp S7, 0, 0)) rfl ?_
    refine mv_icmp 48 rfl rfl (fun c => ?_) (fun c => ?_)
    · have F := F.1 c
      exact F
    · have F := F.2 c
      exact F
theorem vc_Blocks_openCodes_43 {q : Nat × (Nat → Int32)} {S S' : ms} {r : Option Value} (x2 x3 x4 : Int)
    (F : ∃ (S1 : ms), EV q 124 0 [some (.ref 9), some (vI 4)] [] S none S1 ∧ EV q 136 48 [some (.ref 30), some (.ref 9), some (vI x2), some (vI x3), some (vI x4), none] [] S1 r S') : EV q 136 43 [some (.ref 30), some (.ref 9), some (vI x2), some (vI x3), some (vI x4), none] [] S r S' := by
  unfold EV
  refine ev_bk 2 (S' := (45, [some (.ref 30), some (.ref 9), some (vI x2), some (vI x3), some (vI x4), none], [vI 4, .ref 9], hp S, 0, 0)) rfl ?_
  obtain ⟨S1, e2, F⟩ := F
  refine mv_calv (as := [vI 4]) (rest := []) e2 (sh_9) rfl rfl rfl ⟨rfl, rfl⟩ rfl rfl rfl rfl rfl ?_
  exact F
theorem vc_Blocks_openCodes_48 {q : Nat × (Nat → Int32)} {S S' : ms} {r : Option Value} (x2 x3 x4 : Int)
    (F : EV q 136 51 [some (.ref 30), some (.ref 9), some (vI x2), some (vI x3), some (vI x4), some (vI 0)] [] S r S') : EV q 136 48 [some (.ref 30), some (.ref 9), some (vI x2), some (vI x3), some (vI x4), none] [] S r S' := by
  unfold EV
  refine ev_bk 2 (S' := (51, [some (.ref 30), some (.ref 9), some (vI x2), some (vI x3), some (vI x4), some (vI 0)], [], hp S, 0, 0)) rfl ?_
  exact F
theorem vc_Blocks_openCodes_51 {q : Nat × (Nat → Int32)} {S S' : ms} {r : Option Value} (x2 x3 x4 x5 : Int)
    (F : ((19 ≤ w32 x5) → ∃ (S1 : ms), EV q 10 0 [some (.ref 75), some (vI 19), none, none] [] S none S1 ∧ ∃ (z5 : Int) (S3 : ms), EV q 137 0 [some (.ref 75)] [] S1 (some (vI z5)) S3 ∧ ((¬ w32 z5 = 0) → EV q 136 119 [some (.ref 30), some (.ref 9), some (vI x2), some (vI x3), some (vI x4), some (vI x5)] [] S3 r S') ∧ ((¬ (¬ w32 z5 = 0)) → ∃ (S6 : ms), EV q 124 0 [some (.ref 9), some (vI 5)] [] S3 none S6 ∧ EV q 136 119 [some (.ref 30), some (.ref 9), some (vI x2), some (vI x3), some (vI x4), some (vI x5)] [] S6 r S')) ∧ ((¬ 19 ≤ w32 x5) → (0 ≤ w32 x5 ∧ w32 x5 < (19 : Nat)) ∧ ((w32 x4 ≤ w32 x5) → EV q 136 88 [some (.ref 30), some (.ref 9), some (vI x2), some (vI x3), some (vI x4), some (vI x5)] [vI 0, vI (sS 6 (w32 x5)), .ref 76] S r S') ∧ ((¬ w32 x4 ≤ w32 x5) → ∃ (z11 : Int) (S9 : ms), EV q 123 0 [some (.ref 9), some (vI 3), none, none, none] [] S (some (vL z11)) S9 ∧ EV q 136 88 [some (.ref 30), some (.ref 9), some (vI x2), some (vI x3), some (vI x4), some (vI x5)] [vI z11, vI (sS 6 (w32 x5)), .ref 76] S9 r S'))) : EV q 136 51 [some (.ref 30), some (.ref 9), some (vI x2), some (vI x3), some (vI x4), some (vI x5)] [] S r S' := by
  unfold EV
  refine ev_bk 2 (S' := (55, [some (.ref 30), some (.ref 9), some (vI x2), some (vI x3), some (vI x4), some (vI x5)], [vI 19, vI x5], hp S, 0, 0)) rfl ?_
  refine mv_icmp 95 rfl rfl (fun c => ?_) (fun c => ?_)
  · have F := F.1 c
    refine ev_bk 1 (S' := (96, [some (.ref 30), some (.ref 9), some (vI x2), some (vI x3), some (vI x4), some (vI x5)], [.ref 30], hp S, 0, 0)) rfl ?_
    refine mv_gfR rfl rfl (sh_30) (by decide) rfl ?_
    refine ev_bk 1 (S' := (101, [some (.ref 30), some (.ref 9), some (vI x2), some (vI x3), some (vI x4), some (vI x5)], [vI 19, .ref 75], hp S, 0, 0)) rfl ?_
    obtain ⟨S1, e2, F⟩ := F
    refine mv_calv (as := [vI 19]) (rest := []) e2 (sh_75) rfl rfl rfl ⟨rfl, rfl⟩ rfl rfl rfl rfl rfl ?_
    refine ev_bk 1 (S' := (105, [some (.ref 30), some (.ref 9), some (vI x2), some (vI x3), some (vI x4), some (vI x5)], [.ref 30], hp S1, 0, 0)) rfl ?_
    refine mv_gfR rfl rfl (sh_30) (by decide) rfl ?_
    obtain ⟨z5, S3, e4, F⟩ := F
    refine mv_calv (as := []) (rest := []) e4 (sh_75) rfl rfl rfl ⟨rfl, rfl⟩ rfl rfl rfl rfl rfl ?_
    refine mv_if 119 rfl rfl (fun c => ?_) (fun c => ?_)
    · have F := F.1 c
      exact F
    · have F := F.2 c
      refine ev_bk 2 (S' := (116, [some (.ref 30), some (.ref 9), some (vI x2), some (vI x3), some (vI x4), some (vI x5)], [vI 5, .ref 9], hp S3, 0, 0)) rfl ?_
      obtain ⟨S6, e7, F⟩ := F
      refine mv_calv (as := [vI 5]) (rest := []) e7 (sh_9) rfl rfl rfl ⟨rfl, rfl⟩ rfl rfl rfl rfl rfl ?_
      exact F
  · have F := F.2 c
    refine ev_bk 1 (S' := (59, [some (.ref 30), some (.ref 9), some (vI x2), some (vI x3), some (vI x4), some (vI x5)], [.ref 30], hp S, 0, 0)) rfl ?_
    refine mv_gfR rfl rfl (sh_30) (by decide) rfl ?_
    refine mv_gfR rfl rfl (sh_75) (by decide) rfl ?_
    refine mv_gs (k := 6) rfl rfl ?_
    refine ev_bk 1 (S' := (70, [some (.ref 30), some (.ref 9), some (vI x2), some (vI x3), some (vI x4), some (vI x5)], [vI x5, .ref (en_b + 6), .ref 76], hp S, 0, 0)) rfl ?_
    obtain ⟨b8, F⟩ := F
    refine mv_sal (k := 6) rfl rfl (by decide) b8 ?_
    refine ev_bk 2 (S' := (75, [some (.ref 30), some (.ref 9), some (vI x2), some (vI x3), some (vI x4), some (vI x5)], [vI x4, vI x5, vI (sS 6 (w32 x5)), .ref 76], hp S, 0, 0)) rfl ?_
    refine mv_icmp 87 rfl rfl (fun c => ?_) (fun c => ?_)
    · have F := F.1 c
      refine ev_bk 1 (S' := (88, [some (.ref 30), some (.ref 9), some (vI x2), some (vI x3), some (vI x4), some (vI x5)], [vI 0, vI (sS 6 (w32 x5)), .ref 76], hp S, 0, 0)) rfl ?_
      exact F
    · have F := F.2 c
      refine ev_bk 2 (S' := (80, [some (.ref 30), some (.ref 9), some (vI x2), some (vI x3), some (vI x4), some (vI x5)], [vI 3, .ref 9, vI (sS 6 (w32 x5)), .ref 76], hp S, 0, 0)) rfl ?_
      obtain ⟨z11, S9, e10, F⟩ := F
      refine mv_calv (as := [vI 3]) (rest := [vI (sS 6 (w32 x5)), .ref 76]) e10 (sh_9) rfl rfl rfl ⟨rfl, rfl⟩ rfl rfl rfl rfl rfl ?_
      refine mv_l2i rfl ?_
      refine mv_goto 88 rfl rfl ?_
      exact F
theorem vc_Blocks_openCodes_88 {q : Nat × (Nat → Int32)} {S S' : ms} {r : Option Value} (x2 x3 x4 x5 y0 y1 : Int)
    (F : (0 ≤ w32 y1 ∧ w32 y1 < (288 : Nat)) ∧ ∀ S2 : ms, S2 = wI S 76 (w32 y1) y0 → EV q 136 51 [some (.ref 30), some (.ref 9), some (vI x2), some (vI x3), some (vI x4), some (vI (x5 + 1))] [] S2 r S') : EV q 136 88 [some (.ref 30), some (.ref 9), some (vI x2), some (vI x3), some (vI x4), some (vI x5)] [vI y0, vI y1, .ref 76] S r S' := by
  unfold EV
  obtain ⟨b1, F⟩ := F
  refine mv_ias rfl (sh_76) b1 ?_
  have F := F _ rfl
  refine mv_inc (lv' := [some (.ref 30), some (.ref 9), some (vI x2), some (vI x3), some (vI x4), some (vI (x5 + 1))]) 5 1 rfl rfl rfl rfl ?_
  refine mv_goto 51 rfl rfl ?_
  exact F
theorem vc_Blocks_openCodes_119 {q : Nat × (Nat → Int32)} {S S' : ms} {r : Option Value} (x2 x3 x4 x5 : Int)
    (F : ((¬ w32 (S.1 9 5) = 0) → EV q 136 134 [some (.ref 30), some (.ref 9), some (vI x2), some (vI x3), some (vI x4), some (vI x5)] [] S r S') ∧ ((¬ (¬ w32 (S.1 9 5) = 0)) → ∃ (S1 : ms), EV q 138 0 [some (.ref 30), some (.ref 9), some (vI (x2 + x3)), none, none, none, none, none, none] [] S none S1 ∧ EV q 136 134 [some (.ref 30), some (.ref 9), some (vI x2), some (vI x3), some (vI x4), some (vI x5)] [] S1 r S')) : EV q 136 119 [some (.ref 30), some (.ref 9), some (vI x2), some (vI x3), some (vI x4), some (vI x5)] [] S r S' := by
  unfold EV
  refine ev_bk 1 (S' := (120, [some (.ref 30), some (.ref 9), some (vI x2), some (vI x3), some (vI x4), some (vI x5)], [.ref 9], hp S, 0, 0)) rfl ?_
  refine mv_gfI rfl rfl (sh_9) (by decide) rfl ?_
  refine mv_if 134 rfl rfl (fun c => ?_) (fun c => ?_)
  · have F := F.1 c
    exact F
  · have F := F.2 c
    refine ev_bk 4 (S' := (130, [some (.ref 30), some (.ref 9), some (vI x2), some (vI x3), some (vI x4), some (vI x5)], [vI x3, vI x2, .ref 9, .ref 30], hp S, 0, 0)) rfl ?_
    refine mv_iadd rfl ?_
    obtain ⟨S1, e2, F⟩ := F
    refine mv_calv (as := [.ref 9, vI (x2 + x3)]) (rest := []) e2 (sh_30) rfl rfl rfl ⟨rfl, rfl⟩ rfl rfl rfl rfl rfl ?_
    exact F
theorem vc_Blocks_openCodes_134 {q : Nat × (Nat → Int32)} {S S' : ms} {r : Option Value} (x2 x3 x4 x5 : Int)
    (F : ((¬ w32 (S.1 9 5) = 0) → r = none ∧ S' = S) ∧ ((¬ (¬ w32 (S.1 9 5) = 0)) → ∃ (S1 : ms), EV q 139 0 [some (.ref 30), some (.ref 9), some (vI x2), some (vI x3), none] [] S none S1 ∧ r = none ∧ S' = S1)) : EV q 136 134 [some (.ref 30), some (.ref 9), some (vI x2), some (vI x3), some (vI x4), some (vI x5)] [] S r S' := by
  unfold EV
  refine ev_bk 1 (S' := (135, [some (.ref 30), some (.ref 9), some (vI x2), some (vI x3), some (vI x4), some (vI x5)], [.ref 9], hp S, 0, 0)) rfl ?_
  refine mv_gfI rfl rfl (sh_9) (by decide) rfl ?_
  refine mv_if 148 rfl rfl (fun c => ?_) (fun c => ?_)
  · have F := F.1 c
    obtain ⟨rfl, rfl⟩ := F
    exact ev_ret rfl rfl
  · have F := F.2 c
    refine ev_bk 4 (S' := (145, [some (.ref 30), some (.ref 9), some (vI x2), some (vI x3), some (vI x4), some (vI x5)], [vI x3, vI x2, .ref 9, .ref 30], hp S, 0, 0)) rfl ?_
    obtain ⟨S1, e2, F⟩ := F
    refine mv_calv (as := [.ref 9, vI x2, vI x3]) (rest := []) e2 (sh_30) rfl rfl rfl ⟨rfl, rfl⟩ rfl rfl rfl rfl rfl ?_
    obtain ⟨rfl, rfl⟩ := F
    exact ev_ret rfl rfl
theorem vc_Blocks_openLengths {q : Nat × (Nat → Int32)} {S S' : ms} {r : Option Value} (x2 : Int)
    (F : EV q 138 5 [some (.ref 30), some (.ref 9), some (vI x2), some (vI 0), some (vI 0), none, none, none, none] [] S r S') : EV q 138 0 [some (.ref 30), some (.ref 9), some (vI x2), none, none, none, none, none, none] [] S r S' := by
  unfold EV
  refine ev_bk 4 (S' := (5, [some (.ref 30), some (.ref 9), some (vI x2), some (vI 0), some (vI 0), none, none, none, none], [], hp S, 0, 0)) rfl ?_
  exact F
theorem vc_Blocks_openLengths_5 {q : Nat × (Nat → Int32)} {S S' : ms} {r : Option Value} (x2 x3 x4 : Int)
    (F : ((w32 x2 ≤ w32 x4) → r = none ∧ S' = S) ∧ ((¬ w32 x2 ≤ w32 x4) → ((w32 x2 ≤ w32 x3) → r = none ∧ S' = S) ∧ ((¬ w32 x2 ≤ w32 x3) → ((¬ w32 (S.1 9 5) = 0) → r = none ∧ S' = S) ∧ ((¬ (¬ w32 (S.1 9 5) = 0)) → ∃ (z3 : Int) (S1 : ms), EV q 134 0 [some (.ref 9), some (.ref 75), some (vI 11), none, none, none, none, none] [] S (some (vI z3)) S1 ∧ ((¬ w32 z3 = 16) → EV q 138 52 [some (.ref 30), some (.ref 9), some (vI x2), some (vI x3), some (vI x4), some (vI z3), none, none, none] [] S1 r S') ∧ ((¬ (¬ w32 z3 = 16)) → ((¬ w32 x3 = 0) → EV q 138 52 [some (.ref 30), some (.ref 9), some (vI x2), some (vI x3), some (vI x4), some (vI z3), none, none, none] [] S1 r S') ∧ ((¬ (¬ w32 x3 = 0)) → ∃ (S4 : ms), EV q 124 0 [some (.ref 9), some (vI 8)] [] S1 none S4 ∧ EV q 138 52 [some (.ref 30), some (.ref 9), some (vI x2), some (vI x3), some (vI x4), some (vI z3), none, none, none] [] S4 r S')))))) : EV q 138 5 [some (.ref 30), some (.ref 9), some (vI x2), some (vI x3), some (vI x4), none, none, none, none] [] S r S' := by
  unfold EV
  refine ev_bk 2 (S' := (8, [some (.ref 30), some (.ref 9), some (vI x2), some (vI x3), some (vI x4), none, none, none, none], [vI x2, vI x4], hp S, 0, 0)) rfl ?_
  refine mv_icmp 180 rfl rfl (fun c => ?_) (fun c => ?_)
  · have F := F.1 c
    obtain ⟨rfl, rfl⟩ := F
    exact ev_ret rfl rfl
  · have F := F.2 c
    refine ev_bk 2 (S' := (13, [some (.ref 30), some (.ref 9), some (vI x2), some (vI x3), some (vI x4), none, none, none, none], [vI x2, vI x3], hp S, 0, 0)) rfl ?_
    refine mv_icmp 180 rfl rfl (fun c => ?_) (fun c => ?_)
    · have F := F.1 c
      obtain ⟨rfl, rfl⟩ := F
      exact ev_ret rfl rfl
    · have F := F.2 c
      refine ev_bk 1 (S' := (17, [some (.ref 30), some (.ref 9), some (vI x2), some (vI x3), some (vI x4), none, none, none, none], [.ref 9], hp S, 0, 0)) rfl ?_
      refine mv_gfI rfl rfl (sh_9) (by decide) rfl ?_
      refine mv_if 180 rfl rfl (fun c => ?_) (fun c => ?_)
      · have F := F.1 c
        obtain ⟨rfl, rfl⟩ := F
        exact ev_ret rfl rfl
      · have F := F.2 c
        refine ev_bk 2 (S' := (25, [some (.ref 30), some (.ref 9), some (vI x2), some (vI x3), some (vI x4), none, none, none, none], [.ref 30, .ref 9], hp S, 0, 0)) rfl ?_
        refine mv_gfR rfl rfl (sh_30) (by decide) rfl ?_
        refine ev_bk 1 (S' := (30, [some (.ref 30), some (.ref 9), some (vI x2), some (vI x3), some (vI x4), none, none, none, none], [vI 11, .ref 75, .ref 9], hp S, 0, 0)) rfl ?_
        obtain ⟨z3, S1, e2, F⟩ := F
        refine mv_calv (as := [.ref 75, vI 11]) (rest := []) e2 (sh_9) rfl rfl rfl ⟨rfl, rfl⟩ rfl rfl rfl rfl rfl ?_
        refine ev_bk 3 (S' := (39, [some (.ref 30), some (.ref 9), some (vI x2), some (vI x3), some (vI x4), some (vI z3), none, none, none], [vI 16, vI z3], hp S1, 0, 0)) rfl ?_
        refine mv_icmp 52 rfl rfl (fun c => ?_) (fun c => ?_)
        · have F := F.1 c
          exact F
        · have F := F.2 c
          refine ev_bk 1 (S' := (43, [some (.ref 30), some (.ref 9), some (vI x2), some (vI x3), some (vI x4), some (vI z3), none, none, none], [vI x3], hp S1, 0, 0)) rfl ?_
          refine mv_if 52 rfl rfl (fun c => ?_) (fun c => ?_)
          · have F := F.1 c
            exact F
          · have F := F.2 c
            refine ev_bk 2 (S' := (49, [some (.ref 30), some (.ref 9), some (vI x2), some (vI x3), some (vI x4), some (vI z3), none, none, none], [vI 8, .ref 9], hp S1, 0, 0)) rfl ?_
            obtain ⟨S4, e5, F⟩ := F
            refine mv_calv (as := [vI 8]) (rest := []) e5 (sh_9) rfl rfl rfl ⟨rfl, rfl⟩ rfl rfl rfl rfl rfl ?_
            exact F
theorem vc_Blocks_openLengths_52 {q : Nat × (Nat → Int32)} {S S' : ms} {r : Option Value} (x2 x3 x4 x5 : Int)
    (F : ((16 ≤ w32 x5) → ((¬ w32 x5 = 18) → EV q 138 76 [some (.ref 30), some (.ref 9), some (vI x2), some (vI x3), some (vI x4), some (vI x5), none, none, none] [vI 3] S r S') ∧ ((¬ (¬ w32 x5 = 18)) → EV q 138 76 [some (.ref 30), some (.ref 9), some (vI x2), some (vI x3), some (vI x4), some (vI x5), none, none, none] [vI 11] S r S')) ∧ ((¬ 16 ≤ w32 x5) → EV q 138 87 [some (.ref 30), some (.ref 9), some (vI x2), some (vI x3), some (vI x4), some (vI x5), none, none, none] [vI 1] S r S')) : EV q 138 52 [some (.ref 30), some (.ref 9), some (vI x2), some (vI x3), some (vI x4), some (vI x5), none, none, none] [] S r S' := by
  unfold EV
  refine ev_bk 2 (S' := (56, [some (.ref 30), some (.ref 9), some (vI x2), some (vI x3), some (vI x4), some (vI x5), none, none, none], [vI 16, vI x5], hp S, 0, 0)) rfl ?_
  refine mv_icmp 63 rfl rfl (fun c => ?_) (fun c => ?_)
  · have F := F.1 c
    refine ev_bk 2 (S' := (67, [some (.ref 30), some (.ref 9), some (vI x2), some (vI x3), some (vI x4), some (vI x5), none, none, none], [vI 18, vI x5], hp S, 0, 0)) rfl ?_
    refine mv_icmp 75 rfl rfl (fun c => ?_) (fun c => ?_)
    · have F := F.1 c
      refine ev_bk 1 (S' := (76, [some (.ref 30), some (.ref 9), some (vI x2), some (vI x3), some (vI x4), some (vI x5), none, none, none], [vI 3], hp S, 0, 0)) rfl ?_
      exact F
    · have F := F.2 c
      refine ev_bk 1 (S' := (72, [some (.ref 30), some (.ref 9), some (vI x2), some (vI x3), some (vI x4), some (vI x5), none, none, none], [vI 11], hp S, 0, 0)) rfl ?_
      refine mv_goto 76 rfl rfl ?_
      exact F
  · have F := F.2 c
    refine ev_bk 1 (S' := (60, [some (.ref 30), some (.ref 9), some (vI x2), some (vI x3), some (vI x4), some (vI x5), none, none, none], [vI 1], hp S, 0, 0)) rfl ?_
    refine mv_goto 87 rfl rfl ?_
    exact F
theorem vc_Blocks_openLengths_76 {q : Nat × (Nat → Int32)} {S S' : ms} {r : Option Value} (x2 x3 x4 x5 y0 : Int)
    (F : ∃ (z3 : Int) (S1 : ms), EV q 78 0 [some (vI x5)] [] S (some (vI z3)) S1 ∧ ∃ (z6 : Int) (S4 : ms), EV q 123 0 [some (.ref 9), some (vI z3), none, none, none] [] S1 (some (vL z6)) S4 ∧ EV q 138 87 [some (.ref 30), some (.ref 9), some (vI x2), some (vI x3), some (vI x4), some (vI x5), none, none, none] [vI (y0 + z6)] S4 r S') : EV q 138 76 [some (.ref 30), some (.ref 9), some (vI x2), some (vI x3), some (vI x4), some (vI x5), none, none, none] [vI y0] S r S' := by
  unfold EV
  refine ev_bk 2 (S' := (79, [some (.ref 30), some (.ref 9), some (vI x2), some (vI x3), some (vI x4), some (vI x5), none, none, none], [vI x5, .ref 9, vI y0], hp S, 0, 0)) rfl ?_
  obtain ⟨z3, S1, e2, F⟩ := F
  refine mv_cals (as := [vI x5]) (rest := [.ref 9, vI y0]) e2 rfl rfl rfl ⟨rfl, rfl, rfl⟩ rfl rfl rfl rfl ?_
  obtain ⟨z6, S4, e5, F⟩ := F
  refine mv_calv (as := [vI z3]) (rest := [vI y0]) e5 (sh_9) rfl rfl rfl ⟨rfl, rfl⟩ rfl rfl rfl rfl rfl ?_
  refine mv_l2i rfl ?_
  refine mv_iadd rfl ?_
  exact F
theorem vc_Blocks_openLengths_87 {q : Nat × (Nat → Int32)} {S S' : ms} {r : Option Value} (x2 x3 x4 x5 y0 : Int)
    (F : ((w32 y0 ≤ w32 (x2 - x3)) → EV q 138 103 [some (.ref 30), some (.ref 9), some (vI x2), some (vI x3), some (vI x4), some (vI x5), some (vI y0), none, none] [] S r S') ∧ ((¬ w32 y0 ≤ w32 (x2 - x3)) → ∃ (S1 : ms), EV q 124 0 [some (.ref 9), some (vI 9)] [] S none S1 ∧ EV q 138 103 [some (.ref 30), some (.ref 9), some (vI x2), some (vI x3), some (vI x4), some (vI x5), some (vI y0), none, none] [] S1 r S')) : EV q 138 87 [some (.ref 30), some (.ref 9), some (vI x2), some (vI x3), some (vI x4), some (vI x5), none, none, none] [vI y0] S r S' := by
  unfold EV
  refine ev_bk 4 (S' := (93, [some (.ref 30), some (.ref 9), some (vI x2), some (vI x3), some (vI x4), some (vI x5), some (vI y0), none, none], [vI x3, vI x2, vI y0], hp S, 0, 0)) rfl ?_
  refine mv_isub rfl ?_
  refine mv_icmp 103 rfl rfl (fun c => ?_) (fun c => ?_)
  · have F := F.1 c
    exact F
  · have F := F.2 c
    refine ev_bk 2 (S' := (100, [some (.ref 30), some (.ref 9), some (vI x2), some (vI x3), some (vI x4), some (vI x5), some (vI y0), none, none], [vI 9, .ref 9], hp S, 0, 0)) rfl ?_
    obtain ⟨S1, e2, F⟩ := F
    refine mv_calv (as := [vI 9]) (rest := []) e2 (sh_9) rfl rfl rfl ⟨rfl, rfl⟩ rfl rfl rfl rfl rfl ?_
    exact F
theorem vc_Blocks_openLengths_103 {q : Nat × (Nat → Int32)} {S S' : ms} {r : Option Value} (x2 x3 x4 x5 x6 : Int)
    (F : ((16 ≤ w32 x5) → ((¬ w32 x5 = 16) → EV q 138 137 [some (.ref 30), some (.ref 9), some (vI x2), some (vI x3), some (vI x4), some (vI x5), some (vI x6), none, none] [] S r S') ∧ ((¬ (¬ w32 x5 = 16)) → ((w32 x3 ≤ 0) → EV q 138 137 [some (.ref 30), some (.ref 9), some (vI x2), some (vI x3), some (vI x4), some (vI x5), some (vI x6), none, none] [] S r S') ∧ ((¬ w32 x3 ≤ 0) → (0 ≤ w32 (x3 - 1) ∧ w32 (x3 - 1) < (316 : Nat)) ∧ EV q 138 138 [some (.ref 30), some (.ref 9), some (vI x2), some (vI x3), some (vI x4), some (vI x5), some (vI x6), none, none] [vI (S.1 89 (w32 (x3 - 1)))] S r S'))) ∧ ((¬ 16 ≤ w32 x5) → EV q 138 138 [some (.ref 30), some (.ref 9), some (vI x2), some (vI x3), some (vI x4), some (vI x5), some (vI x6), none, none] [vI x5] S r S')) : EV q 138 103 [some (.ref 30), some (.ref 9), some (vI x2), some (vI x3), some (vI x4), some (vI x5), some (vI x6), none, none] [] S r S' := by
  unfold EV
  refine ev_bk 2 (S' := (107, [some (.ref 30), some (.ref 9), some (vI x2), some (vI x3), some (vI x4), some (vI x5), some (vI x6), none, none], [vI 16, vI x5], hp S, 0, 0)) rfl ?_
  refine mv_icmp 115 rfl rfl (fun c => ?_) (fun c => ?_)
  · have F := F.1 c
    refine ev_bk 2 (S' := (119, [some (.ref 30), some (.ref 9), some (vI x2), some (vI x3), some (vI x4), some (vI x5), some (vI x6), none, none], [vI 16, vI x5], hp S, 0, 0)) rfl ?_
    refine mv_icmp 137 rfl rfl (fun c => ?_) (fun c => ?_)
    · have F := F.1 c
      exact F
    · have F := F.2 c
      refine ev_bk 1 (S' := (123, [some (.ref 30), some (.ref 9), some (vI x2), some (vI x3), some (vI x4), some (vI x5), some (vI x6), none, none], [vI x3], hp S, 0, 0)) rfl ?_
      refine mv_if 137 rfl rfl (fun c => ?_) (fun c => ?_)
      · have F := F.1 c
        exact F
      · have F := F.2 c
        refine ev_bk 1 (S' := (127, [some (.ref 30), some (.ref 9), some (vI x2), some (vI x3), some (vI x4), some (vI x5), some (vI x6), none, none], [.ref 30], hp S, 0, 0)) rfl ?_
        refine mv_gfR rfl rfl (sh_30) (by decide) rfl ?_
        refine ev_bk 2 (S' := (132, [some (.ref 30), some (.ref 9), some (vI x2), some (vI x3), some (vI x4), some (vI x5), some (vI x6), none, none], [vI 1, vI x3, .ref 89], hp S, 0, 0)) rfl ?_
        refine mv_isub rfl ?_
        obtain ⟨b1, F⟩ := F
        refine mv_ial rfl (sh_89) b1 ?_
        refine mv_goto 138 rfl rfl ?_
        exact F
  · have F := F.2 c
    refine ev_bk 1 (S' := (112, [some (.ref 30), some (.ref 9), some (vI x2), some (vI x3), some (vI x4), some (vI x5), some (vI x6), none, none], [vI x5], hp S, 0, 0)) rfl ?_
    refine mv_goto 138 rfl rfl ?_
    exact F
theorem vc_Blocks_openLengths_137 {q : Nat × (Nat → Int32)} {S S' : ms} {r : Option Value} (x2 x3 x4 x5 x6 : Int)
    (F : EV q 138 138 [some (.ref 30), some (.ref 9), some (vI x2), some (vI x3), some (vI x4), some (vI x5), some (vI x6), none, none] [vI 0] S r S') : EV q 138 137 [some (.ref 30), some (.ref 9), some (vI x2), some (vI x3), some (vI x4), some (vI x5), some (vI x6), none, none] [] S r S' := by
  unfold EV
  refine ev_bk 1 (S' := (138, [some (.ref 30), some (.ref 9), some (vI x2), some (vI x3), some (vI x4), some (vI x5), some (vI x6), none, none], [vI 0], hp S, 0, 0)) rfl ?_
  exact F
theorem vc_Blocks_openLengths_138 {q : Nat × (Nat → Int32)} {S S' : ms} {r : Option Value} (x2 x3 x4 x5 x6 y0 : Int)
    (F : EV q 138 143 [some (.ref 30), some (.ref 9), some (vI x2), some (vI x3), some (vI x4), some (vI x5), some (vI x6), some (vI y0), some (vI 0)] [] S r S') : EV q 138 138 [some (.ref 30), some (.ref 9), some (vI x2), some (vI x3), some (vI x4), some (vI x5), some (vI x6), none, none] [vI y0] S r S' := by
  unfold EV
  refine ev_bk 3 (S' := (143, [some (.ref 30), some (.ref 9), some (vI x2), some (vI x3), some (vI x4), some (vI x5), some (vI x6), some (vI y0), some (vI 0)], [], hp S, 0, 0)) rfl ?_
  exact F
theorem vc_Blocks_openLengths_143 {q : Nat × (Nat → Int32)} {S S' : ms} {r : Option Value} (x2 x3 x4 x5 x6 x7 x8 : Int)
    (F : ((w32 x6 ≤ w32 x8) → EV q 138 174 [some (.ref 30), some (.ref 9), some (vI x2), some (vI x3), some (vI x4), some (vI x5), some (vI x6), some (vI x7), some (vI x8)] [] S r S') ∧ ((¬ w32 x6 ≤ w32 x8) → ((¬ w32 (S.1 9 5) = 0) → EV q 138 174 [some (.ref 30), some (.ref 9), some (vI x2), some (vI x3), some (vI x4), some (vI x5), some (vI x6), some (vI x7), some (vI x8)] [] S r S') ∧ ((¬ (¬ w32 (S.1 9 5) = 0)) → (0 ≤ w32 x3 ∧ w32 x3 < (316 : Nat)) ∧ ∀ S2 : ms, S2 = wI S 89 (w32 x3) x7 → EV q 138 143 [some (.ref 30), some (.ref 9), some (vI x2), some (vI (x3 + 1)), some (vI x4), some (vI x5), some (vI x6), some (vI x7), some (vI (x8 + 1))] [] S2 r S'))) : EV q 138 143 [some (.ref 30), some (.ref 9), some (vI x2), some (vI x3), some (vI x4), some (vI x5), some (vI x6), some (vI x7), some (vI x8)] [] S r S' := by
  unfold EV
  refine ev_bk 2 (S' := (147, [some (.ref 30), some (.ref 9), some (vI x2), some (vI x3), some (vI x4), some (vI x5), some (vI x6), some (vI x7), some (vI x8)], [vI x6, vI x8], hp S, 0, 0)) rfl ?_
  refine mv_icmp 174 rfl rfl (fun c => ?_) (fun c => ?_)
  · have F := F.1 c
    exact F
  · have F := F.2 c
    refine ev_bk 1 (S' := (151, [some (.ref 30), some (.ref 9), some (vI x2), some (vI x3), some (vI x4), some (vI x5), some (vI x6), some (vI x7), some (vI x8)], [.ref 9], hp S, 0, 0)) rfl ?_
    refine mv_gfI rfl rfl (sh_9) (by decide) rfl ?_
    refine mv_if 174 rfl rfl (fun c => ?_) (fun c => ?_)
    · have F := F.1 c
      exact F
    · have F := F.2 c
      refine ev_bk 1 (S' := (158, [some (.ref 30), some (.ref 9), some (vI x2), some (vI x3), some (vI x4), some (vI x5), some (vI x6), some (vI x7), some (vI x8)], [.ref 30], hp S, 0, 0)) rfl ?_
      refine mv_gfR rfl rfl (sh_30) (by decide) rfl ?_
      refine ev_bk 2 (S' := (164, [some (.ref 30), some (.ref 9), some (vI x2), some (vI x3), some (vI x4), some (vI x5), some (vI x6), some (vI x7), some (vI x8)], [vI x7, vI x3, .ref 89], hp S, 0, 0)) rfl ?_
      obtain ⟨b1, F⟩ := F
      refine mv_ias rfl (sh_89) b1 ?_
      have F := F _ rfl
      refine mv_inc (lv' := [some (.ref 30), some (.ref 9), some (vI x2), some (vI (x3 + 1)), some (vI x4), some (vI x5), some (vI x6), some (vI x7), some (vI x8)]) 3 1 rfl rfl rfl rfl ?_
      refine mv_inc (lv' := [some (.ref 30), some (.ref 9), some (vI x2), some (vI (x3 + 1)), some (vI x4), some (vI x5), some (vI x6), some (vI x7), some (vI (x8 + 1))]) 8 1 rfl rfl rfl rfl ?_
      refine mv_goto 143 rfl rfl ?_
      exact F
theorem vc_Blocks_openLengths_174 {q : Nat × (Nat → Int32)} {S S' : ms} {r : Option Value} (x2 x3 x4 x5 x6 x7 x8 : Int)
    (F : EV q 138 5 [some (.ref 30), some (.ref 9), some (vI x2), some (vI x3), some (vI (x4 + 1)), none, none, none, none] [] S r S') : EV q 138 174 [some (.ref 30), some (.ref 9), some (vI x2), some (vI x3), some (vI x4), some (vI x5), some (vI x6), some (vI x7), some (vI x8)] [] S r S' := by
  unfold EV
  refine mv_inc (lv' := [some (.ref 30), some (.ref 9), some (vI x2), some (vI x3), some (vI (x4 + 1)), some (vI x5), some (vI x6), some (vI x7), some (vI x8)]) 4 1 rfl rfl rfl rfl ?_
  refine mv_goto 5 rfl rfl ?_
  exact ev_wk (le_s (le_s (le_s (le_s (le_s (le_n (le_n (le_n (le_n le_0))))))))) F
theorem vc_Blocks_settleCodes {q : Nat × (Nat → Int32)} {S S' : ms} {r : Option Value} (x2 x3 : Int)
    (F : EV q 139 3 [some (.ref 30), some (.ref 9), some (vI x2), some (vI x3), some (vI 0)] [] S r S') : EV q 139 0 [some (.ref 30), some (.ref 9), some (vI x2), some (vI x3), none] [] S r S' := by
  unfold EV
  refine ev_bk 2 (S' := (3, [some (.ref 30), some (.ref 9), some (vI x2), some (vI x3), some (vI 0)], [], hp S, 0, 0)) rfl ?_
  exact F
theorem vc_Blocks_settleCodes_3 {q : Nat × (Nat → Int32)} {S S' : ms} {r : Option Value} (x2 x3 x4 : Int)
    (F : ((w32 x2 ≤ w32 x4) → EV q 139 35 [some (.ref 30), some (.ref 9), some (vI x2), some (vI x3), some (vI 0)] [] S r S') ∧ ((¬ w32 x2 ≤ w32 x4) → (0 ≤ w32 x4 ∧ w32 x4 < (316 : Nat)) ∧ (0 ≤ w32 x4 ∧ w32 x4 < (288 : Nat)) ∧ ∀ S3 : ms, S3 = wI S 54 (w32 x4) (S.1 89 (w32 x4)) → EV q 139 3 [some (.ref 30), some (.ref 9), some (vI x2), some (vI x3), some (vI (x4 + 1))] [] S3 r S')) : EV q 139 3 [some (.ref 30), some (.ref 9), some (vI x2), some (vI x3), some (vI x4)] [] S r S' := by
  unfold EV
  refine ev_bk 2 (S' := (6, [some (.ref 30), some (.ref 9), some (vI x2), some (vI x3), some (vI x4)], [vI x2, vI x4], hp S, 0, 0)) rfl ?_
  refine mv_icmp 32 rfl rfl (fun c => ?_) (fun c => ?_)
  · have F := F.1 c
    refine ev_bk 2 (S' := (35, [some (.ref 30), some (.ref 9), some (vI x2), some (vI x3), some (vI 0)], [], hp S, 0, 0)) rfl ?_
    exact F
  · have F := F.2 c
    refine ev_bk 1 (S' := (10, [some (.ref 30), some (.ref 9), some (vI x2), some (vI x3), some (vI x4)], [.ref 30], hp S, 0, 0)) rfl ?_
    refine mv_gfR rfl rfl (sh_30) (by decide) rfl ?_
    refine mv_gfR rfl rfl (sh_53) (by decide) rfl ?_
    refine ev_bk 2 (S' := (19, [some (.ref 30), some (.ref 9), some (vI x2), some (vI x3), some (vI x4)], [.ref 30, vI x4, .ref 54], hp S, 0, 0)) rfl ?_
    refine mv_gfR rfl rfl (sh_30) (by decide) rfl ?_
    refine ev_bk 1 (S' := (24, [some (.ref 30), some (.ref 9), some (vI x2), some (vI x3), some (vI x4)], [vI x4, .ref 89, vI x4, .ref 54], hp S, 0, 0)) rfl ?_
    obtain ⟨b1, F⟩ := F
    refine mv_ial rfl (sh_89) b1 ?_
    obtain ⟨b2, F⟩ := F
    refine mv_ias rfl (sh_54) b2 ?_
    have F := F _ rfl
    refine mv_inc (lv' := [some (.ref 30), some (.ref 9), some (vI x2), some (vI x3), some (vI (x4 + 1))]) 4 1 rfl rfl rfl rfl ?_
    refine mv_goto 3 rfl rfl ?_
    exact F
theorem vc_Blocks_settleCodes_35 {q : Nat × (Nat → Int32)} {S S' : ms} {r : Option Value} (x2 x3 x4 : Int)
    (F : ((w32 x3 ≤ w32 x4) → ∃ (S1 : ms), EV q 10 0 [some (.ref 53), some (vI x2), none, none] [] S none S1 ∧ ∃ (S3 : ms), EV q 10 0 [some (.ref 64), some (vI x3), none, none] [] S1 none S3 ∧ (0 ≤ w32 256 ∧ w32 256 < (316 : Nat)) ∧ ((¬ w32 (S3.1 89 (w32 256)) = 0) → EV q 139 99 [some (.ref 30), some (.ref 9), some (vI x2), some (vI x3), some (vI x4)] [] S3 r S') ∧ ((¬ (¬ w32 (S3.1 89 (w32 256)) = 0)) → ∃ (S6 : ms), EV q 124 0 [some (.ref 9), some (vI 10)] [] S3 none S6 ∧ EV q 139 99 [some (.ref 30), some (.ref 9), some (vI x2), some (vI x3), some (vI x4)] [] S6 r S')) ∧ ((¬ w32 x3 ≤ w32 x4) → (0 ≤ w32 (x2 + x4) ∧ w32 (x2 + x4) < (316 : Nat)) ∧ (0 ≤ w32 x4 ∧ w32 x4 < (288 : Nat)) ∧ ∀ S10 : ms, S10 = wI S 65 (w32 x4) (S.1 89 (w32 (x2 + x4))) → EV q 139 35 [some (.ref 30), some (.ref 9), some (vI x2), some (vI x3), some (vI (x4 + 1))] [] S10 r S')) : EV q 139 35 [some (.ref 30), some (.ref 9), some (vI x2), some (vI x3), some (vI x4)] [] S r S' := by
  unfold EV
  refine ev_bk 2 (S' := (38, [some (.ref 30), some (.ref 9), some (vI x2), some (vI x3), some (vI x4)], [vI x3, vI x4], hp S, 0, 0)) rfl ?_
  refine mv_icmp 66 rfl rfl (fun c => ?_) (fun c => ?_)
  · have F := F.1 c
    refine ev_bk 1 (S' := (67, [some (.ref 30), some (.ref 9), some (vI x2), some (vI x3), some (vI x4)], [.ref 30], hp S, 0, 0)) rfl ?_
    refine mv_gfR rfl rfl (sh_30) (by decide) rfl ?_
    refine ev_bk 1 (S' := (71, [some (.ref 30), some (.ref 9), some (vI x2), some (vI x3), some (vI x4)], [vI x2, .ref 53], hp S, 0, 0)) rfl ?_
    obtain ⟨S1, e2, F⟩ := F
    refine mv_calv (as := [vI x2]) (rest := []) e2 (sh_53) rfl rfl rfl ⟨rfl, rfl⟩ rfl rfl rfl rfl rfl ?_
    refine ev_bk 1 (S' := (75, [some (.ref 30), some (.ref 9), some (vI x2), some (vI x3), some (vI x4)], [.ref 30], hp S1, 0, 0)) rfl ?_
    refine mv_gfR rfl rfl (sh_30) (by decide) rfl ?_
    refine ev_bk 1 (S' := (79, [some (.ref 30), some (.ref 9), some (vI x2), some (vI x3), some (vI x4)], [vI x3, .ref 64], hp S1, 0, 0)) rfl ?_
    obtain ⟨S3, e4, F⟩ := F
    refine mv_calv (as := [vI x3]) (rest := []) e4 (sh_64) rfl rfl rfl ⟨rfl, rfl⟩ rfl rfl rfl rfl rfl ?_
    refine ev_bk 1 (S' := (83, [some (.ref 30), some (.ref 9), some (vI x2), some (vI x3), some (vI x4)], [.ref 30], hp S3, 0, 0)) rfl ?_
    refine mv_gfR rfl rfl (sh_30) (by decide) rfl ?_
    refine ev_bk 1 (S' := (89, [some (.ref 30), some (.ref 9), some (vI x2), some (vI x3), some (vI x4)], [vI 256, .ref 89], hp S3, 0, 0)) rfl ?_
    obtain ⟨b5, F⟩ := F
    refine mv_ial rfl (sh_89) b5 ?_
    refine mv_if 99 rfl rfl (fun c => ?_) (fun c => ?_)
    · have F := F.1 c
      exact F
    · have F := F.2 c
      refine ev_bk 2 (S' := (96, [some (.ref 30), some (.ref 9), some (vI x2), some (vI x3), some (vI x4)], [vI 10, .ref 9], hp S3, 0, 0)) rfl ?_
      obtain ⟨S6, e7, F⟩ := F
      refine mv_calv (as := [vI 10]) (rest := []) e7 (sh_9) rfl rfl rfl ⟨rfl, rfl⟩ rfl rfl rfl rfl rfl ?_
      exact F
  · have F := F.2 c
    refine ev_bk 1 (S' := (42, [some (.ref 30), some (.ref 9), some (vI x2), some (vI x3), some (vI x4)], [.ref 30], hp S, 0, 0)) rfl ?_
    refine mv_gfR rfl rfl (sh_30) (by decide) rfl ?_
    refine mv_gfR rfl rfl (sh_64) (by decide) rfl ?_
    refine ev_bk 2 (S' := (51, [some (.ref 30), some (.ref 9), some (vI x2), some (vI x3), some (vI x4)], [.ref 30, vI x4, .ref 65], hp S, 0, 0)) rfl ?_
    refine mv_gfR rfl rfl (sh_30) (by decide) rfl ?_
    refine ev_bk 2 (S' := (57, [some (.ref 30), some (.ref 9), some (vI x2), some (vI x3), some (vI x4)], [vI x4, vI x2, .ref 89, vI x4, .ref 65], hp S, 0, 0)) rfl ?_
    refine mv_iadd rfl ?_
    obtain ⟨b8, F⟩ := F
    refine mv_ial rfl (sh_89) b8 ?_
    obtain ⟨b9, F⟩ := F
    refine mv_ias rfl (sh_65) b9 ?_
    have F := F _ rfl
    refine mv_inc (lv' := [some (.ref 30), some (.ref 9), some (vI x2), some (vI x3), some (vI (x4 + 1))]) 4 1 rfl rfl rfl rfl ?_
    refine mv_goto 35 rfl rfl ?_
    exact F
theorem vc_Blocks_settleCodes_99 {q : Nat × (Nat → Int32)} {S S' : ms} {r : Option Value} (x2 x3 x4 : Int)
    (F : ∃ (z3 : Int) (S1 : ms), EV q 137 0 [some (.ref 53)] [] S (some (vI z3)) S1 ∧ ((¬ w32 z3 = 0) → EV q 139 125 [some (.ref 30), some (.ref 9), some (vI x2), some (vI x3), some (vI x4)] [] S1 r S') ∧ ((¬ (¬ w32 z3 = 0)) → ∃ (z6 : Int) (S4 : ms), EV q 140 0 [some (.ref 53)] [] S1 (some (vI z6)) S4 ∧ ((¬ w32 z6 = 0) → EV q 139 125 [some (.ref 30), some (.ref 9), some (vI x2), some (vI x3), some (vI x4)] [] S4 r S') ∧ ((¬ (¬ w32 z6 = 0)) → ∃ (S7 : ms), EV q 124 0 [some (.ref 9), some (vI 6)] [] S4 none S7 ∧ EV q 139 125 [some (.ref 30), some (.ref 9), some (vI x2), some (vI x3), some (vI x4)] [] S7 r S'))) : EV q 139 99 [some (.ref 30), some (.ref 9), some (vI x2), some (vI x3), some (vI x4)] [] S r S' := by
  unfold EV
  refine ev_bk 1 (S' := (100, [some (.ref 30), some (.ref 9), some (vI x2), some (vI x3), some (vI x4)], [.ref 30], hp S, 0, 0)) rfl ?_
  refine mv_gfR rfl rfl (sh_30) (by decide) rfl ?_
  obtain ⟨z3, S1, e2, F⟩ := F
  refine mv_calv (as := []) (rest := []) e2 (sh_53) rfl rfl rfl ⟨rfl, rfl⟩ rfl rfl rfl rfl rfl ?_
  refine mv_if 125 rfl rfl (fun c => ?_) (fun c => ?_)
  · have F := F.1 c
    exact F
  · have F := F.2 c
    refine ev_bk 1 (S' := (110, [some (.ref 30), some (.ref 9), some (vI x2), some (vI x3), some (vI x4)], [.ref 30], hp S1, 0, 0)) rfl ?_
    refine mv_gfR rfl rfl (sh_30) (by decide) rfl ?_
    obtain ⟨z6, S4, e5, F⟩ := F
    refine mv_calv (as := []) (rest := []) e5 (sh_53) rfl rfl rfl ⟨rfl, rfl⟩ rfl rfl rfl rfl rfl ?_
    refine mv_if 125 rfl rfl (fun c => ?_) (fun c => ?_)
    · have F := F.1 c
      exact F
    · have F := F.2 c
      refine ev_bk 2 (S' := (122, [some (.ref 30), some (.ref 9), some (vI x2), some (vI x3), some (vI x4)], [vI 6, .ref 9], hp S4, 0, 0)) rfl ?_
      obtain ⟨S7, e8, F⟩ := F
      refine mv_calv (as := [vI 6]) (rest := []) e8 (sh_9) rfl rfl rfl ⟨rfl, rfl⟩ rfl rfl rfl rfl rfl ?_
      exact F
theorem vc_Blocks_settleCodes_125 {q : Nat × (Nat → Int32)} {S S' : ms} {r : Option Value} (x2 x3 x4 : Int)
    (F : ∃ (z3 : Int) (S1 : ms), EV q 137 0 [some (.ref 64)] [] S (some (vI z3)) S1 ∧ ((¬ w32 z3 = 0) → r = none ∧ S' = S1) ∧ ((¬ (¬ w32 z3 = 0)) → ∃ (z6 : Int) (S4 : ms), EV q 140 0 [some (.ref 64)] [] S1 (some (vI z6)) S4 ∧ ((¬ w32 z6 = 0) → r = none ∧ S' = S4) ∧ ((¬ (¬ w32 z6 = 0)) → ∃ (z9 : Int) (S7 : ms), EV q 141 0 [some (.ref 64)] [] S4 (some (vI z9)) S7 ∧ ((¬ w32 z9 = 0) → r = none ∧ S' = S7) ∧ ((¬ (¬ w32 z9 = 0)) → ∃ (S10 : ms), EV q 124 0 [some (.ref 9), some (vI 7)] [] S7 none S10 ∧ r = none ∧ S' = S10)))) : EV q 139 125 [some (.ref 30), some (.ref 9), some (vI x2), some (vI x3), some (vI x4)] [] S r S' := by
  unfold EV
  refine ev_bk 1 (S' := (126, [some (.ref 30), some (.ref 9), some (vI x2), some (vI x3), some (vI x4)], [.ref 30], hp S, 0, 0)) rfl ?_
  refine mv_gfR rfl rfl (sh_30) (by decide) rfl ?_
  obtain ⟨z3, S1, e2, F⟩ := F
  refine mv_calv (as := []) (rest := []) e2 (sh_64) rfl rfl rfl ⟨rfl, rfl⟩ rfl rfl rfl rfl rfl ?_
  refine mv_if 161 rfl rfl (fun c => ?_) (fun c => ?_)
  · have F := F.1 c
    obtain ⟨rfl, rfl⟩ := F
    exact ev_ret rfl rfl
  · have F := F.2 c
    refine ev_bk 1 (S' := (136, [some (.ref 30), some (.ref 9), some (vI x2), some (vI x3), some (vI x4)], [.ref 30], hp S1, 0, 0)) rfl ?_
    refine mv_gfR rfl rfl (sh_30) (by decide) rfl ?_
    obtain ⟨z6, S4, e5, F⟩ := F
    refine mv_calv (as := []) (rest := []) e5 (sh_64) rfl rfl rfl ⟨rfl, rfl⟩ rfl rfl rfl rfl rfl ?_
    refine mv_if 161 rfl rfl (fun c => ?_) (fun c => ?_)
    · have F := F.1 c
      obtain ⟨rfl, rfl⟩ := F
      exact ev_ret rfl rfl
    · have F := F.2 c
      refine ev_bk 1 (S' := (146, [some (.ref 30), some (.ref 9), some (vI x2), some (vI x3), some (vI x4)], [.ref 30], hp S4, 0, 0)) rfl ?_
      refine mv_gfR rfl rfl (sh_30) (by decide) rfl ?_
      obtain ⟨z9, S7, e8, F⟩ := F
      refine mv_calv (as := []) (rest := []) e8 (sh_64) rfl rfl rfl ⟨rfl, rfl⟩ rfl rfl rfl rfl rfl ?_
      refine mv_if 161 rfl rfl (fun c => ?_) (fun c => ?_)
      · have F := F.1 c
        obtain ⟨rfl, rfl⟩ := F
        exact ev_ret rfl rfl
      · have F := F.2 c
        refine ev_bk 2 (S' := (158, [some (.ref 30), some (.ref 9), some (vI x2), some (vI x3), some (vI x4)], [vI 7, .ref 9], hp S7, 0, 0)) rfl ?_
        obtain ⟨S10, e11, F⟩ := F
        refine mv_calv (as := [vI 7]) (rest := []) e11 (sh_9) rfl rfl rfl ⟨rfl, rfl⟩ rfl rfl rfl rfl rfl ?_
        obtain ⟨rfl, rfl⟩ := F
        exact ev_ret rfl rfl
theorem vc_Blocks_openRim {q : Nat × (Nat → Int32)} {S S' : ms} {r : Option Value}
    (F : ∃ (z3 : Int) (S1 : ms), EV q 118 0 [some (.ref 9)] [] S (some (vI z3)) S1 ∧ ((¬ w32 (z3 % 16) = 8) → EV q 142 22 [some (.ref 30), some (.ref 9), some (vI z3), none, none, none] [] S1 r S') ∧ ((¬ (¬ w32 (z3 % 16) = 8)) → ((w32 (w32 z3 / 16) ≤ 7) → EV q 142 28 [some (.ref 30), some (.ref 9), some (vI z3), none, none, none] [] S1 r S') ∧ ((¬ w32 (w32 z3 / 16) ≤ 7) → EV q 142 22 [some (.ref 30), some (.ref 9), some (vI z3), none, none, none] [] S1 r S'))) : EV q 142 0 [some (.ref 30), some (.ref 9), none, none, none, none] [] S r S' := by
  unfold EV
  refine ev_bk 1 (S' := (1, [some (.ref 30), some (.ref 9), none, none, none, none], [.ref 9], hp S, 0, 0)) rfl ?_
  obtain ⟨z3, S1, e2, F⟩ := F
  refine mv_calv (as := []) (rest := []) e2 (sh_9) rfl rfl rfl ⟨rfl, rfl⟩ rfl rfl rfl rfl rfl ?_
  refine ev_bk 3 (S' := (8, [some (.ref 30), some (.ref 9), some (vI z3), none, none, none], [vI 15, vI z3], hp S1, 0, 0)) rfl ?_
  refine mv_iandm 16 4 (by decide) rfl rfl rfl ?_
  refine ev_bk 1 (S' := (11, [some (.ref 30), some (.ref 9), some (vI z3), none, none, none], [vI 8, vI (z3 % 16)], hp S1, 0, 0)) rfl ?_
  refine mv_icmp 22 rfl rfl (fun c => ?_) (fun c => ?_)
  · have F := F.1 c
    exact F
  · have F := F.2 c
    refine ev_bk 2 (S' := (16, [some (.ref 30), some (.ref 9), some (vI z3), none, none, none], [vI 4, vI z3], hp S1, 0, 0)) rfl ?_
    refine mv_ishr 16 rfl rfl ?_
    refine ev_bk 1 (S' := (19, [some (.ref 30), some (.ref 9), some (vI z3), none, none, none], [vI 7, vI (w32 z3 / 16)], hp S1, 0, 0)) rfl ?_
    refine mv_icmp 28 rfl rfl (fun c => ?_) (fun c => ?_)
    · have F := F.1 c
      exact F
    · have F := F.2 c
      exact F
theorem vc_Blocks_openRim_22 {q : Nat × (Nat → Int32)} {S S' : ms} {r : Option Value} (x2 : Int)
    (F : ∃ (S1 : ms), EV q 124 0 [some (.ref 9), some (vI 20)] [] S none S1 ∧ EV q 142 28 [some (.ref 30), some (.ref 9), some (vI x2), none, none, none] [] S1 r S') : EV q 142 22 [some (.ref 30), some (.ref 9), some (vI x2), none, none, none] [] S r S' := by
  unfold EV
  refine ev_bk 2 (S' := (25, [some (.ref 30), some (.ref 9), some (vI x2), none, none, none], [vI 20, .ref 9], hp S, 0, 0)) rfl ?_
  obtain ⟨S1, e2, F⟩ := F
  refine mv_calv (as := [vI 20]) (rest := []) e2 (sh_9) rfl rfl rfl ⟨rfl, rfl⟩ rfl rfl rfl rfl rfl ?_
  exact F
theorem vc_Blocks_openRim_28 {q : Nat × (Nat → Int32)} {S S' : ms} {r : Option Value} (x2 : Int)
    (F : ∃ (z3 : Int) (S1 : ms), EV q 118 0 [some (.ref 9)] [] S (some (vI z3)) S1 ∧ ((w32 (Int.tmod (w32 ((x2 * 256) + z3)) (w32 31)) = 0) → EV q 142 52 [some (.ref 30), some (.ref 9), some (vI x2), some (vI z3), none, none] [] S1 r S') ∧ ((¬ w32 (Int.tmod (w32 ((x2 * 256) + z3)) (w32 31)) = 0) → ∃ (S4 : ms), EV q 124 0 [some (.ref 9), some (vI 21)] [] S1 none S4 ∧ EV q 142 52 [some (.ref 30), some (.ref 9), some (vI x2), some (vI z3), none, none] [] S4 r S')) : EV q 142 28 [some (.ref 30), some (.ref 9), some (vI x2), none, none, none] [] S r S' := by
  unfold EV
  refine ev_bk 1 (S' := (29, [some (.ref 30), some (.ref 9), some (vI x2), none, none, none], [.ref 9], hp S, 0, 0)) rfl ?_
  obtain ⟨z3, S1, e2, F⟩ := F
  refine mv_calv (as := []) (rest := []) e2 (sh_9) rfl rfl rfl ⟨rfl, rfl⟩ rfl rfl rfl rfl rfl ?_
  refine ev_bk 3 (S' := (37, [some (.ref 30), some (.ref 9), some (vI x2), some (vI z3), none, none], [vI 256, vI x2], hp S1, 0, 0)) rfl ?_
  refine mv_imul rfl ?_
  refine ev_bk 1 (S' := (39, [some (.ref 30), some (.ref 9), some (vI x2), some (vI z3), none, none], [vI z3, vI (x2 * 256)], hp S1, 0, 0)) rfl ?_
  refine mv_iadd rfl ?_
  refine ev_bk 1 (S' := (42, [some (.ref 30), some (.ref 9), some (vI x2), some (vI z3), none, none], [vI 31, vI ((x2 * 256) + z3)], hp S1, 0, 0)) rfl ?_
  refine mv_irem (by decide) rfl ?_
  refine mv_if 52 rfl rfl (fun c => ?_) (fun c => ?_)
  · have F := F.1 c
    exact F
  · have F := F.2 c
    refine ev_bk 2 (S' := (49, [some (.ref 30), some (.ref 9), some (vI x2), some (vI z3), none, none], [vI 21, .ref 9], hp S1, 0, 0)) rfl ?_
    obtain ⟨S4, e5, F⟩ := F
    refine mv_calv (as := [vI 21]) (rest := []) e5 (sh_9) rfl rfl rfl ⟨rfl, rfl⟩ rfl rfl rfl rfl rfl ?_
    exact F
theorem vc_Blocks_openRim_52 {q : Nat × (Nat → Int32)} {S S' : ms} {r : Option Value} (x2 x3 : Int)
    (F : ((w32 (bA x3 32) = 0) → EV q 142 65 [some (.ref 30), some (.ref 9), some (vI x2), some (vI x3), none, none] [] S r S') ∧ ((¬ w32 (bA x3 32) = 0) → ∃ (S1 : ms), EV q 124 0 [some (.ref 9), some (vI 22)] [] S none S1 ∧ EV q 142 65 [some (.ref 30), some (.ref 9), some (vI x2), some (vI x3), none, none] [] S1 r S')) : EV q 142 52 [some (.ref 30), some (.ref 9), some (vI x2), some (vI x3), none, none] [] S r S' := by
  unfold EV
  refine ev_bk 2 (S' := (55, [some (.ref 30), some (.ref 9), some (vI x2), some (vI x3), none, none], [vI 32, vI x3], hp S, 0, 0)) rfl ?_
  refine mv_iand rfl ?_
  refine mv_if 65 rfl rfl (fun c => ?_) (fun c => ?_)
  · have F := F.1 c
    exact F
  · have F := F.2 c
    refine ev_bk 2 (S' := (62, [some (.ref 30), some (.ref 9), some (vI x2), some (vI x3), none, none], [vI 22, .ref 9], hp S, 0, 0)) rfl ?_
    obtain ⟨S1, e2, F⟩ := F
    refine mv_calv (as := [vI 22]) (rest := []) e2 (sh_9) rfl rfl rfl ⟨rfl, rfl⟩ rfl rfl rfl rfl rfl ?_
    exact F
theorem vc_Blocks_openRim_65 {q : Nat × (Nat → Int32)} {S S' : ms} {r : Option Value} (x2 x3 : Int)
    (F : ∃ (S1 : ms), EV q 129 0 [some (.ref 30), some (.ref 9), some (vI (1 * ((2 : Int) ^ (((w32 x2 / 16) + 8) % 32).toNat))), none, none] [] S none S1 ∧ ∃ (z5 : Int) (S3 : ms), EV q 143 0 [some (.ref 9), some (vI 4), none, none, none] [] S1 (some (vL z5)) S3 ∧ ∃ (o6 no6 : Nat), S3.2.2 9 1 = o6 ∧ isRow o6 no6 ∧ ∃ (o9 no9 : Nat), S3.2.2 9 1 = o9 ∧ isRow o9 no9 ∧ ∃ (z14 : Int) (S12 : ms), EV q 27 0 [some (.ref (o6 + 1)), some (vI 0), some (vI (S3.1 o9 1)), none, none, none] [] S3 (some (vI z14)) S12 ∧ ((w64 z5 = w64 ((w32 z14) % 4294967296)) → EV q 142 120 [some (.ref 30), some (.ref 9), some (vI x2), some (vI x3), some (vL z5), none] [] S12 r S') ∧ ((¬ w64 z5 = w64 ((w32 z14) % 4294967296)) → ∃ (S15 : ms), EV q 124 0 [some (.ref 9), some (vI 23)] [] S12 none S15 ∧ EV q 142 120 [some (.ref 30), some (.ref 9), some (vI x2), some (vI x3), some (vL z5), none] [] S15 r S')) : EV q 142 65 [some (.ref 30), some (.ref 9), some (vI x2), some (vI x3), none, none] [] S r S' := by
  unfold EV
  refine ev_bk 5 (S' := (70, [some (.ref 30), some (.ref 9), some (vI x2), some (vI x3), none, none], [vI 4, vI x2, vI 1, .ref 9, .ref 30], hp S, 0, 0)) rfl ?_
  refine mv_ishr 16 rfl rfl ?_
  refine ev_bk 1 (S' := (73, [some (.ref 30), some (.ref 9), some (vI x2), some (vI x3), none, none], [vI 8, vI (w32 x2 / 16), vI 1, .ref 9, .ref 30], hp S, 0, 0)) rfl ?_
  refine mv_iadd rfl ?_
  refine mv_ishl ((2 : Int) ^ (((w32 x2 / 16) + 8) % 32).toNat) rfl rfl ?_
  obtain ⟨S1, e2, F⟩ := F
  refine mv_calv (as := [.ref 9, vI (1 * ((2 : Int) ^ (((w32 x2 / 16) + 8) % 32).toNat))]) (rest := []) e2 (sh_30) rfl rfl rfl ⟨rfl, rfl⟩ rfl rfl rfl rfl rfl ?_
  refine ev_bk 2 (S' := (80, [some (.ref 30), some (.ref 9), some (vI x2), some (vI x3), none, none], [vI 4, .ref 9], hp S1, 0, 0)) rfl ?_
  obtain ⟨z5, S3, e4, F⟩ := F
  refine mv_calv (as := [vI 4]) (rest := []) e4 (sh_9) rfl rfl rfl ⟨rfl, rfl⟩ rfl rfl rfl rfl rfl ?_
  refine ev_bk 3 (S' := (88, [some (.ref 30), some (.ref 9), some (vI x2), some (vI x3), some (vL z5), none], [.ref 9, vL z5], hp S3, 0, 0)) rfl ?_
  obtain ⟨o6, no6, e8, h7, F⟩ := F
  refine mv_gfV rfl rfl (sh_9) (by decide) rfl e8 ?_
  refine mv_gfR rfl rfl (h7.1) (by decide) rfl ?_
  refine ev_bk 2 (S' := (96, [some (.ref 30), some (.ref 9), some (vI x2), some (vI x3), some (vL z5), none], [.ref 9, vI 0, .ref (o6 + 1), vL z5], hp S3, 0, 0)) rfl ?_
  obtain ⟨o9, no9, e11, h10, F⟩ := F
  refine mv_gfV rfl rfl (sh_9) (by decide) rfl e11 ?_
  refine mv_gfI rfl rfl (h10.1) (by decide) rfl ?_
  obtain ⟨z14, S12, e13, F⟩ := F
  refine mv_cals (as := [.ref (o6 + 1), vI 0, vI (S3.1 o9 1)]) (rest := [vL z5]) e13 rfl rfl rfl ⟨rfl, rfl, rfl⟩ rfl rfl rfl rfl ?_
  refine mv_i2l rfl ?_
  refine ev_bk 1 (S' := (109, [some (.ref 30), some (.ref 9), some (vI x2), some (vI x3), some (vL z5), none], [vL 4294967295, vL (w32 z14), vL z5], hp S12, 0, 0)) rfl ?_
  refine mv_landm 4294967296 32 (by decide) rfl rfl rfl ?_
  refine mv_lif 120 rfl rfl rfl (fun c => ?_) (fun c => ?_)
  · have F := F.1 c
    exact F
  · have F := F.2 c
    refine ev_bk 2 (S' := (117, [some (.ref 30), some (.ref 9), some (vI x2), some (vI x3), some (vL z5), none], [vI 23, .ref 9], hp S12, 0, 0)) rfl ?_
    obtain ⟨S15, e16, F⟩ := F
    refine mv_calv (as := [vI 23]) (rest := []) e16 (sh_9) rfl rfl rfl ⟨rfl, rfl⟩ rfl rfl rfl rfl rfl ?_
    exact F
theorem vc_Blocks_openRim_120 {q : Nat × (Nat → Int32)} {S S' : ms} {r : Option Value} (x2 x3 x4 : Int)
    (F : ∃ (S1 : ms), EV q 125 0 [some (.ref 9)] [] S none S1 ∧ r = none ∧ S' = S1) : EV q 142 120 [some (.ref 30), some (.ref 9), some (vI x2), some (vI x3), some (vL x4), none] [] S r S' := by
  unfold EV
  refine ev_bk 1 (S' := (121, [some (.ref 30), some (.ref 9), some (vI x2), some (vI x3), some (vL x4), none], [.ref 9], hp S, 0, 0)) rfl ?_
  obtain ⟨S1, e2, F⟩ := F
  refine mv_calv (as := []) (rest := []) e2 (sh_9) rfl rfl rfl ⟨rfl, rfl⟩ rfl rfl rfl rfl rfl ?_
  obtain ⟨rfl, rfl⟩ := F
  exact ev_ret rfl rfl
theorem vc_Blocks_openMember {q : Nat × (Nat → Int32)} {S S' : ms} {r : Option Value}
    (F : ∃ (S1 : ms), EV q 145 0 [some (.ref 9), none, none] [] S none S1 ∧ ∃ (S3 : ms), EV q 129 0 [some (.ref 30), some (.ref 9), some (vI 32768), none, none] [] S1 none S3 ∧ ∃ (z7 : Int) (S5 : ms), EV q 132 0 [some (.ref 9), some (vI 4), none, none, none] [] S3 (some (vL z7)) S5 ∧ ∃ (o8 no8 : Nat), S5.2.2 9 1 = o8 ∧ isRow o8 no8 ∧ ∃ (o11 no11 : Nat), S5.2.2 9 1 = o11 ∧ isRow o11 no11 ∧ ∃ (z16 : Int) (S14 : ms), EV q 28 0 [some (.ref (o8 + 1)), some (vI 0), some (vI (S5.1 o11 1)), none, none] [] S5 (some (vI z16)) S14 ∧ ((w64 z7 = w64 ((w32 z16) % 4294967296)) → EV q 144 51 [some (.ref 30), some (.ref 9), some (vL z7), none, none, none] [] S14 r S') ∧ ((¬ w64 z7 = w64 ((w32 z16) % 4294967296)) → ∃ (S17 : ms), EV q 124 0 [some (.ref 9), some (vI 34)] [] S14 none S17 ∧ EV q 144 51 [some (.ref 30), some (.ref 9), some (vL z7), none, none, none] [] S17 r S')) : EV q 144 0 [some (.ref 30), some (.ref 9), none, none, none, none] [] S r S' := by
  unfold EV
  refine ev_bk 1 (S' := (1, [some (.ref 30), some (.ref 9), none, none, none, none], [.ref 9], hp S, 0, 0)) rfl ?_
  obtain ⟨S1, e2, F⟩ := F
  refine mv_cals (as := [.ref 9]) (rest := []) e2 rfl rfl rfl ⟨rfl, rfl, rfl⟩ rfl rfl rfl rfl ?_
  refine ev_bk 3 (S' := (8, [some (.ref 30), some (.ref 9), none, none, none, none], [vI 32768, .ref 9, .ref 30], hp S1, 0, 0)) rfl ?_
  obtain ⟨S3, e4, F⟩ := F
  refine mv_calv (as := [.ref 9, vI 32768]) (rest := []) e4 (sh_30) rfl rfl rfl ⟨rfl, rfl⟩ rfl rfl rfl rfl rfl ?_
  refine ev_bk 2 (S' := (13, [some (.ref 30), some (.ref 9), none, none, none, none], [vI 4, .ref 9], hp S3, 0, 0)) rfl ?_
  obtain ⟨z7, S5, e6, F⟩ := F
  refine mv_calv (as := [vI 4]) (rest := []) e6 (sh_9) rfl rfl rfl ⟨rfl, rfl⟩ rfl rfl rfl rfl rfl ?_
  refine ev_bk 3 (S' := (19, [some (.ref 30), some (.ref 9), some (vL z7), none, none, none], [.ref 9, vL z7], hp S5, 0, 0)) rfl ?_
  obtain ⟨o8, no8, e10, h9, F⟩ := F
  refine mv_gfV rfl rfl (sh_9) (by decide) rfl e10 ?_
  refine mv_gfR rfl rfl (h9.1) (by decide) rfl ?_
  refine ev_bk 2 (S' := (27, [some (.ref 30), some (.ref 9), some (vL z7), none, none, none], [.ref 9, vI 0, .ref (o8 + 1), vL z7], hp S5, 0, 0)) rfl ?_
  obtain ⟨o11, no11, e13, h12, F⟩ := F
  refine mv_gfV rfl rfl (sh_9) (by decide) rfl e13 ?_
  refine mv_gfI rfl rfl (h12.1) (by decide) rfl ?_
  obtain ⟨z16, S14, e15, F⟩ := F
  refine mv_cals (as := [.ref (o8 + 1), vI 0, vI (S5.1 o11 1)]) (rest := [vL z7]) e15 rfl rfl rfl ⟨rfl, rfl, rfl⟩ rfl rfl rfl rfl ?_
  refine mv_i2l rfl ?_
  refine ev_bk 1 (S' := (40, [some (.ref 30), some (.ref 9), some (vL z7), none, none, none], [vL 4294967295, vL (w32 z16), vL z7], hp S14, 0, 0)) rfl ?_
  refine mv_landm 4294967296 32 (by decide) rfl rfl rfl ?_
  refine mv_lif 51 rfl rfl rfl (fun c => ?_) (fun c => ?_)
  · have F := F.1 c
    exact F
  · have F := F.2 c
    refine ev_bk 2 (S' := (48, [some (.ref 30), some (.ref 9), some (vL z7), none, none, none], [vI 34, .ref 9], hp S14, 0, 0)) rfl ?_
    obtain ⟨S17, e18, F⟩ := F
    refine mv_calv (as := [vI 34]) (rest := []) e18 (sh_9) rfl rfl rfl ⟨rfl, rfl⟩ rfl rfl rfl rfl rfl ?_
    exact F
theorem vc_Blocks_openMember_51 {q : Nat × (Nat → Int32)} {S S' : ms} {r : Option Value} (x2 : Int)
    (F : ∃ (z3 : Int) (S1 : ms), EV q 132 0 [some (.ref 9), some (vI 4), none, none, none] [] S (some (vL z3)) S1 ∧ ∃ (o4 no4 : Nat), S1.2.2 9 1 = o4 ∧ isRow o4 no4 ∧ ((w64 z3 = w64 (w32 (S1.1 o4 1))) → EV q 144 78 [some (.ref 30), some (.ref 9), some (vL x2), none, some (vL z3), none] [] S1 r S') ∧ ((¬ w64 z3 = w64 (w32 (S1.1 o4 1))) → ∃ (S7 : ms), EV q 124 0 [some (.ref 9), some (vI 35)] [] S1 none S7 ∧ EV q 144 78 [some (.ref 30), some (.ref 9), some (vL x2), none, some (vL z3), none] [] S7 r S')) : EV q 144 51 [some (.ref 30), some (.ref 9), some (vL x2), none, none, none] [] S r S' := by
  unfold EV
  refine ev_bk 2 (S' := (53, [some (.ref 30), some (.ref 9), some (vL x2), none, none, none], [vI 4, .ref 9], hp S, 0, 0)) rfl ?_
  obtain ⟨z3, S1, e2, F⟩ := F
  refine mv_calv (as := [vI 4]) (rest := []) e2 (sh_9) rfl rfl rfl ⟨rfl, rfl⟩ rfl rfl rfl rfl rfl ?_
  refine ev_bk 3 (S' := (61, [some (.ref 30), some (.ref 9), some (vL x2), none, some (vL z3), none], [.ref 9, vL z3], hp S1, 0, 0)) rfl ?_
  obtain ⟨o4, no4, e6, h5, F⟩ := F
  refine mv_gfV rfl rfl (sh_9) (by decide) rfl e6 ?_
  refine mv_gfI rfl rfl (h5.1) (by decide) rfl ?_
  refine mv_i2l rfl ?_
  refine mv_lif 78 rfl rfl rfl (fun c => ?_) (fun c => ?_)
  · have F := F.1 c
    exact F
  · have F := F.2 c
    refine ev_bk 2 (S' := (75, [some (.ref 30), some (.ref 9), some (vL x2), none, some (vL z3), none], [vI 35, .ref 9], hp S1, 0, 0)) rfl ?_
    obtain ⟨S7, e8, F⟩ := F
    refine mv_calv (as := [vI 35]) (rest := []) e8 (sh_9) rfl rfl rfl ⟨rfl, rfl⟩ rfl rfl rfl rfl rfl ?_
    exact F
theorem vc_Blocks_openMember_78 {q : Nat × (Nat → Int32)} {S S' : ms} {r : Option Value} (x2 x4 : Int)
    (F : ∃ (S1 : ms), EV q 125 0 [some (.ref 9)] [] S none S1 ∧ r = none ∧ S' = S1) : EV q 144 78 [some (.ref 30), some (.ref 9), some (vL x2), none, some (vL x4), none] [] S r S' := by
  unfold EV
  refine ev_bk 1 (S' := (79, [some (.ref 30), some (.ref 9), some (vL x2), none, some (vL x4), none], [.ref 9], hp S, 0, 0)) rfl ?_
  obtain ⟨S1, e2, F⟩ := F
  refine mv_calv (as := []) (rest := []) e2 (sh_9) rfl rfl rfl ⟨rfl, rfl⟩ rfl rfl rfl rfl rfl ?_
  obtain ⟨rfl, rfl⟩ := F
  exact ev_ret rfl rfl
theorem vc_Blocks_openMemberHead {q : Nat × (Nat → Int32)} {S S' : ms} {r : Option Value}
    (F : ∃ (S1 : ms), EV q 146 0 [some (.ref 9), some (vI 31), some (vI 30), none] [] S none S1 ∧ ∃ (S3 : ms), EV q 146 0 [some (.ref 9), some (vI 139), some (vI 30), none] [] S1 none S3 ∧ ∃ (S5 : ms), EV q 146 0 [some (.ref 9), some (vI 8), some (vI 31), none] [] S3 none S5 ∧ ∃ (z9 : Int) (S7 : ms), EV q 118 0 [some (.ref 9)] [] S5 (some (vI z9)) S7 ∧ ((w32 z9 < 32) → EV q 145 42 [some (.ref 9), some (vI z9), none] [] S7 r S') ∧ ((¬ w32 z9 < 32) → ∃ (S10 : ms), EV q 124 0 [some (.ref 9), some (vI 32)] [] S7 none S10 ∧ EV q 145 42 [some (.ref 9), some (vI z9), none] [] S10 r S')) : EV q 145 0 [some (.ref 9), none, none] [] S r S' := by
  unfold EV
  refine ev_bk 3 (S' := (5, [some (.ref 9), none, none], [vI 30, vI 31, .ref 9], hp S, 0, 0)) rfl ?_
  obtain ⟨S1, e2, F⟩ := F
  refine mv_calv (as := [vI 31, vI 30]) (rest := []) e2 (sh_9) rfl rfl rfl ⟨rfl, rfl⟩ rfl rfl rfl rfl rfl ?_
  refine ev_bk 3 (S' := (14, [some (.ref 9), none, none], [vI 30, vI 139, .ref 9], hp S1, 0, 0)) rfl ?_
  obtain ⟨S3, e4, F⟩ := F
  refine mv_calv (as := [vI 139, vI 30]) (rest := []) e4 (sh_9) rfl rfl rfl ⟨rfl, rfl⟩ rfl rfl rfl rfl rfl ?_
  refine ev_bk 3 (S' := (22, [some (.ref 9), none, none], [vI 31, vI 8, .ref 9], hp S3, 0, 0)) rfl ?_
  obtain ⟨S5, e6, F⟩ := F
  refine mv_calv (as := [vI 8, vI 31]) (rest := []) e6 (sh_9) rfl rfl rfl ⟨rfl, rfl⟩ rfl rfl rfl rfl rfl ?_
  refine ev_bk 1 (S' := (26, [some (.ref 9), none, none], [.ref 9], hp S5, 0, 0)) rfl ?_
  obtain ⟨z9, S7, e8, F⟩ := F
  refine mv_calv (as := []) (rest := []) e8 (sh_9) rfl rfl rfl ⟨rfl, rfl⟩ rfl rfl rfl rfl rfl ?_
  refine ev_bk 3 (S' := (33, [some (.ref 9), some (vI z9), none], [vI 32, vI z9], hp S7, 0, 0)) rfl ?_
  refine mv_icmp 42 rfl rfl (fun c => ?_) (fun c => ?_)
  · have F := F.1 c
    exact F
  · have F := F.2 c
    refine ev_bk 2 (S' := (39, [some (.ref 9), some (vI z9), none], [vI 32, .ref 9], hp S7, 0, 0)) rfl ?_
    obtain ⟨S10, e11, F⟩ := F
    refine mv_calv (as := [vI 32]) (rest := []) e11 (sh_9) rfl rfl rfl ⟨rfl, rfl⟩ rfl rfl rfl rfl rfl ?_
    exact F
theorem vc_Blocks_openMemberHead_42 {q : Nat × (Nat → Int32)} {S S' : ms} {r : Option Value} (x1 : Int)
    (F : ∃ (S1 : ms), EV q 147 0 [some (.ref 9), some (vI 6), none] [] S none S1 ∧ ((w32 (bA x1 4) = 0) → EV q 145 64 [some (.ref 9), some (vI x1), none] [] S1 r S') ∧ ((¬ w32 (bA x1 4) = 0) → ∃ (z5 : Int) (S3 : ms), EV q 132 0 [some (.ref 9), some (vI 2), none, none, none] [] S1 (some (vL z5)) S3 ∧ ∃ (S6 : ms), EV q 147 0 [some (.ref 9), some (vI z5), none] [] S3 none S6 ∧ EV q 145 64 [some (.ref 9), some (vI x1), none] [] S6 r S')) : EV q 145 42 [some (.ref 9), some (vI x1), none] [] S r S' := by
  unfold EV
  refine ev_bk 2 (S' := (45, [some (.ref 9), some (vI x1), none], [vI 6, .ref 9], hp S, 0, 0)) rfl ?_
  obtain ⟨S1, e2, F⟩ := F
  refine mv_calv (as := [vI 6]) (rest := []) e2 (sh_9) rfl rfl rfl ⟨rfl, rfl⟩ rfl rfl rfl rfl rfl ?_
  refine ev_bk 2 (S' := (50, [some (.ref 9), some (vI x1), none], [vI 4, vI x1], hp S1, 0, 0)) rfl ?_
  refine mv_iand rfl ?_
  refine mv_if 64 rfl rfl (fun c => ?_) (fun c => ?_)
  · have F := F.1 c
    exact F
  · have F := F.2 c
    refine ev_bk 3 (S' := (57, [some (.ref 9), some (vI x1), none], [vI 2, .ref 9, .ref 9], hp S1, 0, 0)) rfl ?_
    obtain ⟨z5, S3, e4, F⟩ := F
    refine mv_calv (as := [vI 2]) (rest := [.ref 9]) e4 (sh_9) rfl rfl rfl ⟨rfl, rfl⟩ rfl rfl rfl rfl rfl ?_
    refine mv_l2i rfl ?_
    obtain ⟨S6, e7, F⟩ := F
    refine mv_calv (as := [vI z5]) (rest := []) e7 (sh_9) rfl rfl rfl ⟨rfl, rfl⟩ rfl rfl rfl rfl rfl ?_
    exact F
theorem vc_Blocks_openMemberHead_64 {q : Nat × (Nat → Int32)} {S S' : ms} {r : Option Value} (x1 : Int)
    (F : ((w32 (bA x1 8) = 0) → EV q 145 75 [some (.ref 9), some (vI x1), none] [] S r S') ∧ ((¬ w32 (bA x1 8) = 0) → ∃ (S1 : ms), EV q 148 0 [some (.ref 9), none, none] [] S none S1 ∧ EV q 145 75 [some (.ref 9), some (vI x1), none] [] S1 r S')) : EV q 145 64 [some (.ref 9), some (vI x1), none] [] S r S' := by
  unfold EV
  refine ev_bk 2 (S' := (67, [some (.ref 9), some (vI x1), none], [vI 8, vI x1], hp S, 0, 0)) rfl ?_
  refine mv_iand rfl ?_
  refine mv_if 75 rfl rfl (fun c => ?_) (fun c => ?_)
  · have F := F.1 c
    exact F
  · have F := F.2 c
    refine ev_bk 1 (S' := (72, [some (.ref 9), some (vI x1), none], [.ref 9], hp S, 0, 0)) rfl ?_
    obtain ⟨S1, e2, F⟩ := F
    refine mv_cals (as := [.ref 9]) (rest := []) e2 rfl rfl rfl ⟨rfl, rfl, rfl⟩ rfl rfl rfl rfl ?_
    exact F
theorem vc_Blocks_openMemberHead_75 {q : Nat × (Nat → Int32)} {S S' : ms} {r : Option Value} (x1 : Int)
    (F : ((w32 (bA x1 16) = 0) → EV q 145 86 [some (.ref 9), some (vI x1), none] [] S r S') ∧ ((¬ w32 (bA x1 16) = 0) → ∃ (S1 : ms), EV q 148 0 [some (.ref 9), none, none] [] S none S1 ∧ EV q 145 86 [some (.ref 9), some (vI x1), none] [] S1 r S')) : EV q 145 75 [some (.ref 9), some (vI x1), none] [] S r S' := by
  unfold EV
  refine ev_bk 2 (S' := (78, [some (.ref 9), some (vI x1), none], [vI 16, vI x1], hp S, 0, 0)) rfl ?_
  refine mv_iand rfl ?_
  refine mv_if 86 rfl rfl (fun c => ?_) (fun c => ?_)
  · have F := F.1 c
    exact F
  · have F := F.2 c
    refine ev_bk 1 (S' := (83, [some (.ref 9), some (vI x1), none], [.ref 9], hp S, 0, 0)) rfl ?_
    obtain ⟨S1, e2, F⟩ := F
    refine mv_cals (as := [.ref 9]) (rest := []) e2 rfl rfl rfl ⟨rfl, rfl, rfl⟩ rfl rfl rfl rfl ?_
    exact F
theorem vc_Blocks_openMemberHead_86 {q : Nat × (Nat → Int32)} {S S' : ms} {r : Option Value} (x1 : Int)
    (F : ((w32 (bA x1 2) = 0) → r = none ∧ S' = S) ∧ ((¬ w32 (bA x1 2) = 0) → ((¬ w32 (S.1 9 5) = 0) → r = none ∧ S' = S) ∧ ((¬ (¬ w32 (S.1 9 5) = 0)) → ∃ (z3 : Int) (S1 : ms), EV q 28 0 [some (.ref 2), some (vI 0), some (vI (S.1 9 3)), none, none] [] S (some (vI z3)) S1 ∧ ∃ (z6 : Int) (S4 : ms), EV q 132 0 [some (.ref 9), some (vI 2), none, none, none] [] S1 (some (vL z6)) S4 ∧ ((w64 z6 = w64 (w32 (z3 % 65536))) → r = none ∧ S' = S4) ∧ ((¬ w64 z6 = w64 (w32 (z3 % 65536))) → ∃ (S7 : ms), EV q 124 0 [some (.ref 9), some (vI 33)] [] S4 none S7 ∧ r = none ∧ S' = S7)))) : EV q 145 86 [some (.ref 9), some (vI x1), none] [] S r S' := by
  unfold EV
  refine ev_bk 2 (S' := (88, [some (.ref 9), some (vI x1), none], [vI 2, vI x1], hp S, 0, 0)) rfl ?_
  refine mv_iand rfl ?_
  refine mv_if 133 rfl rfl (fun c => ?_) (fun c => ?_)
  · have F := F.1 c
    obtain ⟨rfl, rfl⟩ := F
    exact ev_ret rfl rfl
  · have F := F.2 c
    refine ev_bk 1 (S' := (93, [some (.ref 9), some (vI x1), none], [.ref 9], hp S, 0, 0)) rfl ?_
    refine mv_gfI rfl rfl (sh_9) (by decide) rfl ?_
    refine mv_if 133 rfl rfl (fun c => ?_) (fun c => ?_)
    · have F := F.1 c
      obtain ⟨rfl, rfl⟩ := F
      exact ev_ret rfl rfl
    · have F := F.2 c
      refine ev_bk 1 (S' := (100, [some (.ref 9), some (vI x1), none], [.ref 9], hp S, 0, 0)) rfl ?_
      refine mv_gfR rfl rfl (sh_9) (by decide) rfl ?_
      refine ev_bk 2 (S' := (105, [some (.ref 9), some (vI x1), none], [.ref 9, vI 0, .ref 2], hp S, 0, 0)) rfl ?_
      refine mv_gfI rfl rfl (sh_9) (by decide) rfl ?_
      obtain ⟨z3, S1, e2, F⟩ := F
      refine mv_cals (as := [.ref 2, vI 0, vI (S.1 9 3)]) (rest := []) e2 rfl rfl rfl ⟨rfl, rfl, rfl⟩ rfl rfl rfl rfl ?_
      refine ev_bk 1 (S' := (114, [some (.ref 9), some (vI x1), none], [vI 65535, vI z3], hp S1, 0, 0)) rfl ?_
      refine mv_iandm 65536 16 (by decide) rfl rfl rfl ?_
      refine ev_bk 3 (S' := (118, [some (.ref 9), some (vI x1), some (vI (z3 % 65536))], [vI 2, .ref 9], hp S1, 0, 0)) rfl ?_
      obtain ⟨z6, S4, e5, F⟩ := F
      refine mv_calv (as := [vI 2]) (rest := []) e5 (sh_9) rfl rfl rfl ⟨rfl, rfl⟩ rfl rfl rfl rfl rfl ?_
      refine ev_bk 1 (S' := (122, [some (.ref 9), some (vI x1), some (vI (z3 % 65536))], [vI (z3 % 65536), vL z6], hp S4, 0, 0)) rfl ?_
      refine mv_i2l rfl ?_
      refine mv_lif 133 rfl rfl rfl (fun c => ?_) (fun c => ?_)
      · have F := F.1 c
        obtain ⟨rfl, rfl⟩ := F
        exact ev_ret rfl rfl
      · have F := F.2 c
        refine ev_bk 2 (S' := (130, [some (.ref 9), some (vI x1), some (vI (z3 % 65536))], [vI 33, .ref 9], hp S4, 0, 0)) rfl ?_
        obtain ⟨S7, e8, F⟩ := F
        refine mv_calv (as := [vI 33]) (rest := []) e8 (sh_9) rfl rfl rfl ⟨rfl, rfl⟩ rfl rfl rfl rfl rfl ?_
        obtain ⟨rfl, rfl⟩ := F
        exact ev_ret rfl rfl
theorem vc_Blocks_passText {q : Nat × (Nat → Int32)} {S S' : ms} {r : Option Value}
    (F : EV q 148 4 [some (.ref 9), some (vI 1), some (vI 0)] [] S r S') : EV q 148 0 [some (.ref 9), none, none] [] S r S' := by
  unfold EV
  refine ev_bk 4 (S' := (4, [some (.ref 9), some (vI 1), some (vI 0)], [], hp S, 0, 0)) rfl ?_
  exact F
theorem vc_Blocks_passText_4 {q : Nat × (Nat → Int32)} {S S' : ms} {r : Option Value} (x1 x2 : Int)
    (F : ((6001 ≤ w32 x2) → r = none ∧ S' = S) ∧ ((¬ 6001 ≤ w32 x2) → ((w32 x1 = 0) → r = none ∧ S' = S) ∧ ((¬ w32 x1 = 0) → ∃ (z3 : Int) (S1 : ms), EV q 118 0 [some (.ref 9)] [] S (some (vI z3)) S1 ∧ EV q 148 4 [some (.ref 9), some (vI z3), some (vI (x2 + 1))] [] S1 r S'))) : EV q 148 4 [some (.ref 9), some (vI x1), some (vI x2)] [] S r S' := by
  unfold EV
  refine ev_bk 2 (S' := (8, [some (.ref 9), some (vI x1), some (vI x2)], [vI 6001, vI x2], hp S, 0, 0)) rfl ?_
  refine mv_icmp 26 rfl rfl (fun c => ?_) (fun c => ?_)
  · have F := F.1 c
    obtain ⟨rfl, rfl⟩ := F
    exact ev_ret rfl rfl
  · have F := F.2 c
    refine ev_bk 1 (S' := (12, [some (.ref 9), some (vI x1), some (vI x2)], [vI x1], hp S, 0, 0)) rfl ?_
    refine mv_if 26 rfl rfl (fun c => ?_) (fun c => ?_)
    · have F := F.1 c
      obtain ⟨rfl, rfl⟩ := F
      exact ev_ret rfl rfl
    · have F := F.2 c
      refine ev_bk 1 (S' := (16, [some (.ref 9), some (vI x1), some (vI x2)], [.ref 9], hp S, 0, 0)) rfl ?_
      obtain ⟨z3, S1, e2, F⟩ := F
      refine mv_calv (as := []) (rest := []) e2 (sh_9) rfl rfl rfl ⟨rfl, rfl⟩ rfl rfl rfl rfl rfl ?_
      refine ev_bk 1 (S' := (20, [some (.ref 9), some (vI z3), some (vI x2)], [], hp S1, 0, 0)) rfl ?_
      refine mv_inc (lv' := [some (.ref 9), some (vI z3), some (vI (x2 + 1))]) 2 1 rfl rfl rfl rfl ?_
      refine mv_goto 4 rfl rfl ?_
      exact F
theorem vc_Copies_openFast {q : Nat × (Nat → Int32)} {S S' : ms} {r : Option Value} (x2 : Int)
    (F : ∃ (o1 no1 : Nat), S.2.2 9 1 = o1 ∧ isRow o1 no1 ∧ EV q 149 11 [some (.ref 29), some (.ref 9), some (vI x2), some (vI (S.1 o1 1)), some (vI 0), none, none] [] S r S') : EV q 149 0 [some (.ref 29), some (.ref 9), some (vI x2), none, none, none, none] [] S r S' := by
  unfold EV
  refine ev_bk 1 (S' := (1, [some (.ref 29), some (.ref 9), some (vI x2), none, none, none, none], [.ref 9], hp S, 0, 0)) rfl ?_
  obtain ⟨o1, no1, e3, h2, F⟩ := F
  refine mv_gfV rfl rfl (sh_9) (by decide) rfl e3 ?_
  refine mv_gfI rfl rfl (h2.1) (by decide) rfl ?_
  refine ev_bk 3 (S' := (11, [some (.ref 29), some (.ref 9), some (vI x2), some (vI (S.1 o1 1)), some (vI 0), none, none], [], hp S, 0, 0)) rfl ?_
  exact F
theorem vc_Copies_openFast_11 {q : Nat × (Nat → Int32)} {S S' : ms} {r : Option Value} (x2 x3 x4 : Int)
    (F : ((1000000 ≤ w32 x4) → r = none ∧ S' = S) ∧ ((¬ 1000000 ≤ w32 x4) → ((¬ w32 (S.1 9 5) = 0) → r = none ∧ S' = S) ∧ ((¬ (¬ w32 (S.1 9 5) = 0)) → ∃ (z3 : Int) (S1 : ms), EV q 118 0 [some (.ref 9)] [] S (some (vI z3)) S1 ∧ ∃ (z6 : Int) (S4 : ms), EV q 150 0 [some (.ref 9), some (vI (w32 z3 / 16)), none, none, none] [] S1 (some (vI z6)) S4 ∧ ∃ (S7 : ms), EV q 119 0 [some (.ref 9), some (vL (w32 z6)), none, none, none] [] S4 none S7 ∧ ((¬ w32 (S7.1 9 5) = 0) → r = none ∧ S' = S7) ∧ ((¬ (¬ w32 (S7.1 9 5) = 0)) → ((w32 (S7.1 9 3) < w32 (S7.1 9 2)) → ∃ (z11 : Int) (S9 : ms), EV q 132 0 [some (.ref 9), some (vI 2), none, none, none] [] S7 (some (vL z11)) S9 ∧ ((¬ w32 (S9.1 9 5) = 0) → EV q 149 102 [some (.ref 29), some (.ref 9), some (vI x2), some (vI x3), some (vI x4), some (vI z3), some (vI z11)] [] S9 r S') ∧ ((¬ (¬ w32 (S9.1 9 5) = 0)) → ((w32 x2 = 0) → EV q 149 102 [some (.ref 29), some (.ref 9), some (vI x2), some (vI x3), some (vI x4), some (vI z3), some (vI z11)] [] S9 r S') ∧ ((¬ w32 x2 = 0) → ∃ (o12 no12 : Nat), S9.2.2 9 1 = o12 ∧ isRow o12 no12 ∧ ((w32 z11 ≤ w32 ((S9.1 o12 1) - x3)) → EV q 149 102 [some (.ref 29), some (.ref 9), some (vI x2), some (vI x3), some (vI x4), some (vI z3), some (vI z11)] [] S9 r S') ∧ ((¬ w32 z11 ≤ w32 ((S9.1 o12 1) - x3)) → ∃ (S15 : ms), EV q 124 0 [some (.ref 9), some (vI 42)] [] S9 none S15 ∧ EV q 149 102 [some (.ref 29), some (.ref 9), some (vI x2), some (vI x3), some (vI x4), some (vI z3), some (vI z11)] [] S15 r S')))) ∧ ((¬ w32 (S7.1 9 3) < w32 (S7.1 9 2)) → r = none ∧ S' = S7))))) : EV q 149 11 [some (.ref 29), some (.ref 9), some (vI x2), some (vI x3), some (vI x4), none, none] [] S r S' := by
  unfold EV
  refine ev_bk 2 (S' := (15, [some (.ref 29), some (.ref 9), some (vI x2), some (vI x3), some (vI x4), none, none], [vI 1000000, vI x4], hp S, 0, 0)) rfl ?_
  refine mv_icmp 157 rfl rfl (fun c => ?_) (fun c => ?_)
  · have F := F.1 c
    obtain ⟨rfl, rfl⟩ := F
    exact ev_ret rfl rfl
  · have F := F.2 c
    refine ev_bk 1 (S' := (19, [some (.ref 29), some (.ref 9), some (vI x2), some (vI x3), some (vI x4), none, none], [.ref 9], hp S, 0, 0)) rfl ?_
    refine mv_gfI rfl rfl (sh_9) (by decide) rfl ?_
    refine mv_if 157 rfl rfl (fun c => ?_) (fun c => ?_)
    · have F := F.1 c
      obtain ⟨rfl, rfl⟩ := F
      exact ev_ret rfl rfl
    · have F := F.2 c
      refine ev_bk 1 (S' := (26, [some (.ref 29), some (.ref 9), some (vI x2), some (vI x3), some (vI x4), none, none], [.ref 9], hp S, 0, 0)) rfl ?_
      obtain ⟨z3, S1, e2, F⟩ := F
      refine mv_calv (as := []) (rest := []) e2 (sh_9) rfl rfl rfl ⟨rfl, rfl⟩ rfl rfl rfl rfl rfl ?_
      refine ev_bk 5 (S' := (36, [some (.ref 29), some (.ref 9), some (vI x2), some (vI x3), some (vI x4), some (vI z3), none], [vI 4, vI z3, .ref 9, .ref 9], hp S1, 0, 0)) rfl ?_
      refine mv_ishr 16 rfl rfl ?_
      obtain ⟨z6, S4, e5, F⟩ := F
      refine mv_cals (as := [.ref 9, vI (w32 z3 / 16)]) (rest := [.ref 9]) e5 rfl rfl rfl ⟨rfl, rfl, rfl⟩ rfl rfl rfl rfl ?_
      refine mv_i2l rfl ?_
      obtain ⟨S7, e8, F⟩ := F
      refine mv_calv (as := [vL (w32 z6)]) (rest := []) e8 (sh_9) rfl rfl rfl ⟨rfl, rfl⟩ rfl rfl rfl rfl rfl ?_
      refine ev_bk 1 (S' := (45, [some (.ref 29), some (.ref 9), some (vI x2), some (vI x3), some (vI x4), some (vI z3), none], [.ref 9], hp S7, 0, 0)) rfl ?_
      refine mv_gfI rfl rfl (sh_9) (by decide) rfl ?_
      refine mv_if 62 rfl rfl (fun c => ?_) (fun c => ?_)
      · have F := F.1 c
        obtain ⟨rfl, rfl⟩ := F
        exact ev_ret rfl rfl
      · have F := F.2 c
        refine ev_bk 1 (S' := (52, [some (.ref 29), some (.ref 9), some (vI x2), some (vI x3), some (vI x4), some (vI z3), none], [.ref 9], hp S7, 0, 0)) rfl ?_
        refine mv_gfI rfl rfl (sh_9) (by decide) rfl ?_
        refine ev_bk 1 (S' := (56, [some (.ref 29), some (.ref 9), some (vI x2), some (vI x3), some (vI x4), some (vI z3), none], [.ref 9, vI (S7.1 9 3)], hp S7, 0, 0)) rfl ?_
        refine mv_gfI rfl rfl (sh_9) (by decide) rfl ?_
        refine mv_icmp 63 rfl rfl (fun c => ?_) (fun c => ?_)
        · have F := F.1 c
          refine ev_bk 2 (S' := (65, [some (.ref 29), some (.ref 9), some (vI x2), some (vI x3), some (vI x4), some (vI z3), none], [vI 2, .ref 9], hp S7, 0, 0)) rfl ?_
          obtain ⟨z11, S9, e10, F⟩ := F
          refine mv_calv (as := [vI 2]) (rest := []) e10 (sh_9) rfl rfl rfl ⟨rfl, rfl⟩ rfl rfl rfl rfl rfl ?_
          refine mv_l2i rfl ?_
          refine ev_bk 2 (S' := (72, [some (.ref 29), some (.ref 9), some (vI x2), some (vI x3), some (vI x4), some (vI z3), some (vI z11)], [.ref 9], hp S9, 0, 0)) rfl ?_
          refine mv_gfI rfl rfl (sh_9) (by decide) rfl ?_
          refine mv_if 102 rfl rfl (fun c => ?_) (fun c => ?_)
          · have F := F.1 c
            exact F
          · have F := F.2 c
            refine ev_bk 1 (S' := (79, [some (.ref 29), some (.ref 9), some (vI x2), some (vI x3), some (vI x4), some (vI z3), some (vI z11)], [vI x2], hp S9, 0, 0)) rfl ?_
            refine mv_if 102 rfl rfl (fun c => ?_) (fun c => ?_)
            · have F := F.1 c
              exact F
            · have F := F.2 c
              refine ev_bk 2 (S' := (85, [some (.ref 29), some (.ref 9), some (vI x2), some (vI x3), some (vI x4), some (vI z3), some (vI z11)], [.ref 9, vI z11], hp S9, 0, 0)) rfl ?_
              obtain ⟨o12, no12, e14, h13, F⟩ := F
              refine mv_gfV rfl rfl (sh_9) (by decide) rfl e14 ?_
              refine mv_gfI rfl rfl (h13.1) (by decide) rfl ?_
              refine ev_bk 1 (S' := (92, [some (.ref 29), some (.ref 9), some (vI x2), some (vI x3), some (vI x4), some (vI z3), some (vI z11)], [vI x3, vI (S9.1 o12 1), vI z11], hp S9, 0, 0)) rfl ?_
              refine mv_isub rfl ?_
              refine mv_icmp 102 rfl rfl (fun c => ?_) (fun c => ?_)
              · have F := F.1 c
                exact F
              · have F := F.2 c
                refine ev_bk 2 (S' := (99, [some (.ref 29), some (.ref 9), some (vI x2), some (vI x3), some (vI x4), some (vI z3), some (vI z11)], [vI 42, .ref 9], hp S9, 0, 0)) rfl ?_
                obtain ⟨S15, e16, F⟩ := F
                refine mv_calv (as := [vI 42]) (rest := []) e16 (sh_9) rfl rfl rfl ⟨rfl, rfl⟩ rfl rfl rfl rfl rfl ?_
                exact F
        · have F := F.2 c
          obtain ⟨rfl, rfl⟩ := F
          exact ev_ret rfl rfl
theorem vc_Copies_openFast_102 {q : Nat × (Nat → Int32)} {S S' : ms} {r : Option Value} (x2 x3 x4 x5 x6 : Int)
    (F : ((¬ w32 (S.1 9 5) = 0) → EV q 149 132 [some (.ref 29), some (.ref 9), some (vI x2), some (vI x3), some (vI x4), some (vI x5), some (vI x6)] [] S r S') ∧ ((¬ (¬ w32 (S.1 9 5) = 0)) → ((w32 x6 = 0) → EV q 149 126 [some (.ref 29), some (.ref 9), some (vI x2), some (vI x3), some (vI x4), some (vI x5), some (vI x6)] [] S r S') ∧ ((¬ w32 x6 = 0) → ∃ (o1 no1 : Nat), S.2.2 9 1 = o1 ∧ isRow o1 no1 ∧ ((w32 x6 ≤ w32 (S.1 o1 1)) → EV q 149 132 [some (.ref 29), some (.ref 9), some (vI x2), some (vI x3), some (vI x4), some (vI x5), some (vI x6)] [] S r S') ∧ ((¬ w32 x6 ≤ w32 (S.1 o1 1)) → EV q 149 126 [some (.ref 29), some (.ref 9), some (vI x2), some (vI x3), some (vI x4), some (vI x5), some (vI x6)] [] S r S')))) : EV q 149 102 [some (.ref 29), some (.ref 9), some (vI x2), some (vI x3), some (vI x4), some (vI x5), some (vI x6)] [] S r S' := by
  unfold EV
  refine ev_bk 1 (S' := (103, [some (.ref 29), some (.ref 9), some (vI x2), some (vI x3), some (vI x4), some (vI x5), some (vI x6)], [.ref 9], hp S, 0, 0)) rfl ?_
  refine mv_gfI rfl rfl (sh_9) (by decide) rfl ?_
  refine mv_if 132 rfl rfl (fun c => ?_) (fun c => ?_)
  · have F := F.1 c
    exact F
  · have F := F.2 c
    refine ev_bk 1 (S' := (111, [some (.ref 29), some (.ref 9), some (vI x2), some (vI x3), some (vI x4), some (vI x5), some (vI x6)], [vI x6], hp S, 0, 0)) rfl ?_
    refine mv_if 126 rfl rfl (fun c => ?_) (fun c => ?_)
    · have F := F.1 c
      exact F
    · have F := F.2 c
      refine ev_bk 2 (S' := (117, [some (.ref 29), some (.ref 9), some (vI x2), some (vI x3), some (vI x4), some (vI x5), some (vI x6)], [.ref 9, vI x6], hp S, 0, 0)) rfl ?_
      obtain ⟨o1, no1, e3, h2, F⟩ := F
      refine mv_gfV rfl rfl (sh_9) (by decide) rfl e3 ?_
      refine mv_gfI rfl rfl (h2.1) (by decide) rfl ?_
      refine mv_icmp 132 rfl rfl (fun c => ?_) (fun c => ?_)
      · have F := F.1 c
        exact F
      · have F := F.2 c
        exact F
theorem vc_Copies_openFast_126 {q : Nat × (Nat → Int32)} {S S' : ms} {r : Option Value} (x2 x3 x4 x5 x6 : Int)
    (F : ∃ (S1 : ms), EV q 124 0 [some (.ref 9), some (vI 41)] [] S none S1 ∧ EV q 149 132 [some (.ref 29), some (.ref 9), some (vI x2), some (vI x3), some (vI x4), some (vI x5), some (vI x6)] [] S1 r S') : EV q 149 126 [some (.ref 29), some (.ref 9), some (vI x2), some (vI x3), some (vI x4), some (vI x5), some (vI x6)] [] S r S' := by
  unfold EV
  refine ev_bk 2 (S' := (129, [some (.ref 29), some (.ref 9), some (vI x2), some (vI x3), some (vI x4), some (vI x5), some (vI x6)], [vI 41, .ref 9], hp S, 0, 0)) rfl ?_
  obtain ⟨S1, e2, F⟩ := F
  refine mv_calv (as := [vI 41]) (rest := []) e2 (sh_9) rfl rfl rfl ⟨rfl, rfl⟩ rfl rfl rfl rfl rfl ?_
  exact F
theorem vc_Copies_openFast_132 {q : Nat × (Nat → Int32)} {S S' : ms} {r : Option Value} (x2 x3 x4 x5 x6 : Int)
    (F : ∃ (z3 : Int) (S1 : ms), EV q 150 0 [some (.ref 9), some (vI (x5 % 16)), none, none, none] [] S (some (vI z3)) S1 ∧ ∃ (S4 : ms), EV q 128 0 [some (.ref 9), some (vL (w32 x6)), none, some (vL (w32 (z3 + 4))), none, none, none] [] S1 none S4 ∧ EV q 149 11 [some (.ref 29), some (.ref 9), some (vI x2), some (vI x3), some (vI (x4 + 1)), none, none] [] S4 r S') : EV q 149 132 [some (.ref 29), some (.ref 9), some (vI x2), some (vI x3), some (vI x4), some (vI x5), some (vI x6)] [] S r S' := by
  unfold EV
  refine ev_bk 2 (S' := (135, [some (.ref 29), some (.ref 9), some (vI x2), some (vI x3), some (vI x4), some (vI x5), some (vI x6)], [vI x6, .ref 9], hp S, 0, 0)) rfl ?_
  refine mv_i2l rfl ?_
  refine ev_bk 3 (S' := (141, [some (.ref 29), some (.ref 9), some (vI x2), some (vI x3), some (vI x4), some (vI x5), some (vI x6)], [vI 15, vI x5, .ref 9, vL (w32 x6), .ref 9], hp S, 0, 0)) rfl ?_
  refine mv_iandm 16 4 (by decide) rfl rfl rfl ?_
  obtain ⟨z3, S1, e2, F⟩ := F
  refine mv_cals (as := [.ref 9, vI (x5 % 16)]) (rest := [vL (w32 x6), .ref 9]) e2 rfl rfl rfl ⟨rfl, rfl, rfl⟩ rfl rfl rfl rfl ?_
  refine ev_bk 1 (S' := (146, [some (.ref 29), some (.ref 9), some (vI x2), some (vI x3), some (vI x4), some (vI x5), some (vI x6)], [vI 4, vI z3, vL (w32 x6), .ref 9], hp S1, 0, 0)) rfl ?_
  refine mv_iadd rfl ?_
  refine mv_i2l rfl ?_
  obtain ⟨S4, e5, F⟩ := F
  refine mv_calv (as := [vL (w32 x6), vL (w32 (z3 + 4))]) (rest := []) e5 (sh_9) rfl rfl rfl ⟨rfl, rfl⟩ rfl rfl rfl rfl rfl ?_
  refine mv_inc (lv' := [some (.ref 29), some (.ref 9), some (vI x2), some (vI x3), some (vI (x4 + 1)), some (vI x5), some (vI x6)]) 4 1 rfl rfl rfl rfl ?_
  refine mv_goto 11 rfl rfl ?_
  exact ev_wk (le_s (le_s (le_s (le_s (le_s (le_n (le_n le_0))))))) F
theorem vc_Copies_openMore {q : Nat × (Nat → Int32)} {S S' : ms} {r : Option Value} (x1 : Int)
    (F : ((¬ w32 x1 = 15) → EV q 150 15 [some (.ref 9), some (vI x1), some (vI x1), none, none] [vI 0] S r S') ∧ ((¬ (¬ w32 x1 = 15)) → EV q 150 15 [some (.ref 9), some (vI x1), some (vI x1), none, none] [vI 255] S r S')) : EV q 150 0 [some (.ref 9), some (vI x1), none, none, none] [] S r S' := by
  unfold EV
  refine ev_bk 4 (S' := (5, [some (.ref 9), some (vI x1), some (vI x1), none, none], [vI 15, vI x1], hp S, 0, 0)) rfl ?_
  refine mv_icmp 14 rfl rfl (fun c => ?_) (fun c => ?_)
  · have F := F.1 c
    refine ev_bk 1 (S' := (15, [some (.ref 9), some (vI x1), some (vI x1), none, none], [vI 0], hp S, 0, 0)) rfl ?_
    exact F
  · have F := F.2 c
    refine ev_bk 1 (S' := (11, [some (.ref 9), some (vI x1), some (vI x1), none, none], [vI 255], hp S, 0, 0)) rfl ?_
    refine mv_goto 15 rfl rfl ?_
    exact F
theorem vc_Copies_openMore_15 {q : Nat × (Nat → Int32)} {S S' : ms} {r : Option Value} (x1 x2 y0 : Int)
    (F : EV q 150 19 [some (.ref 9), some (vI x1), some (vI x2), some (vI y0), some (vI 0)] [] S r S') : EV q 150 15 [some (.ref 9), some (vI x1), some (vI x2), none, none] [vI y0] S r S' := by
  unfold EV
  refine ev_bk 3 (S' := (19, [some (.ref 9), some (vI x1), some (vI x2), some (vI y0), some (vI 0)], [], hp S, 0, 0)) rfl ?_
  exact F
theorem vc_Copies_openMore_19 {q : Nat × (Nat → Int32)} {S S' : ms} {r : Option Value} (x1 x2 x3 x4 : Int)
    (F : ((1000000 ≤ w32 x4) → r = some (vI x2) ∧ S' = S) ∧ ((¬ 1000000 ≤ w32 x4) → ((¬ w32 x3 = 255) → r = some (vI x2) ∧ S' = S) ∧ ((¬ (¬ w32 x3 = 255)) → ((¬ w32 (S.1 9 5) = 0) → r = some (vI x2) ∧ S' = S) ∧ ((¬ (¬ w32 (S.1 9 5) = 0)) → ∃ (z3 : Int) (S1 : ms), EV q 118 0 [some (.ref 9)] [] S (some (vI z3)) S1 ∧ EV q 150 19 [some (.ref 9), some (vI x1), some (vI (x2 + z3)), some (vI z3), some (vI (x4 + 1))] [] S1 r S')))) : EV q 150 19 [some (.ref 9), some (vI x1), some (vI x2), some (vI x3), some (vI x4)] [] S r S' := by
  unfold EV
  refine ev_bk 2 (S' := (23, [some (.ref 9), some (vI x1), some (vI x2), some (vI x3), some (vI x4)], [vI 1000000, vI x4], hp S, 0, 0)) rfl ?_
  refine mv_icmp 55 rfl rfl (fun c => ?_) (fun c => ?_)
  · have F := F.1 c
    refine ev_bk 1 (S' := (56, [some (.ref 9), some (vI x1), some (vI x2), some (vI x3), some (vI x4)], [vI x2], hp S, 0, 0)) rfl ?_
    obtain ⟨rfl, rfl⟩ := F
    exact ev_ret rfl rfl
  · have F := F.2 c
    refine ev_bk 2 (S' := (30, [some (.ref 9), some (vI x1), some (vI x2), some (vI x3), some (vI x4)], [vI 255, vI x3], hp S, 0, 0)) rfl ?_
    refine mv_icmp 55 rfl rfl (fun c => ?_) (fun c => ?_)
    · have F := F.1 c
      refine ev_bk 1 (S' := (56, [some (.ref 9), some (vI x1), some (vI x2), some (vI x3), some (vI x4)], [vI x2], hp S, 0, 0)) rfl ?_
      obtain ⟨rfl, rfl⟩ := F
      exact ev_ret rfl rfl
    · have F := F.2 c
      refine ev_bk 1 (S' := (34, [some (.ref 9), some (vI x1), some (vI x2), some (vI x3), some (vI x4)], [.ref 9], hp S, 0, 0)) rfl ?_
      refine mv_gfI rfl rfl (sh_9) (by decide) rfl ?_
      refine mv_if 55 rfl rfl (fun c => ?_) (fun c => ?_)
      · have F := F.1 c
        refine ev_bk 1 (S' := (56, [some (.ref 9), some (vI x1), some (vI x2), some (vI x3), some (vI x4)], [vI x2], hp S, 0, 0)) rfl ?_
        obtain ⟨rfl, rfl⟩ := F
        exact ev_ret rfl rfl
      · have F := F.2 c
        refine ev_bk 1 (S' := (41, [some (.ref 9), some (vI x1), some (vI x2), some (vI x3), some (vI x4)], [.ref 9], hp S, 0, 0)) rfl ?_
        obtain ⟨z3, S1, e2, F⟩ := F
        refine mv_calv (as := []) (rest := []) e2 (sh_9) rfl rfl rfl ⟨rfl, rfl⟩ rfl rfl rfl rfl rfl ?_
        refine ev_bk 3 (S' := (47, [some (.ref 9), some (vI x1), some (vI x2), some (vI z3), some (vI x4)], [vI z3, vI x2], hp S1, 0, 0)) rfl ?_
        refine mv_iadd rfl ?_
        refine ev_bk 1 (S' := (49, [some (.ref 9), some (vI x1), some (vI (x2 + z3)), some (vI z3), some (vI x4)], [], hp S1, 0, 0)) rfl ?_
        refine mv_inc (lv' := [some (.ref 9), some (vI x1), some (vI (x2 + z3)), some (vI z3), some (vI (x4 + 1))]) 4 1 rfl rfl rfl rfl ?_
        refine mv_goto 19 rfl rfl ?_
        exact F
theorem vc_Copies_openFrame {q : Nat × (Nat → Int32)} {S S' : ms} {r : Option Value}
    (F : ∃ (S1 : ms), EV q 152 0 [some (.ref 29), some (.ref 9), none] [] S none S1 ∧ EV q 151 7 [some (.ref 29), some (.ref 9), some (vI 0), none, none] [] S1 r S') : EV q 151 0 [some (.ref 29), some (.ref 9), none, none, none] [] S r S' := by
  unfold EV
  refine ev_bk 2 (S' := (2, [some (.ref 29), some (.ref 9), none, none, none], [.ref 9, .ref 29], hp S, 0, 0)) rfl ?_
  obtain ⟨S1, e2, F⟩ := F
  refine mv_calv (as := [.ref 9]) (rest := []) e2 (sh_29) rfl rfl rfl ⟨rfl, rfl⟩ rfl rfl rfl rfl rfl ?_
  refine ev_bk 2 (S' := (7, [some (.ref 29), some (.ref 9), some (vI 0), none, none], [], hp S1, 0, 0)) rfl ?_
  exact F
theorem vc_Copies_openFrame_7 {q : Nat × (Nat → Int32)} {S S' : ms} {r : Option Value} (x2 : Int)
    (F : ((1000000 ≤ w32 x2) → EV q 151 47 [some (.ref 29), some (.ref 9), some (vI x2), none, none] [] S r S') ∧ ((¬ 1000000 ≤ w32 x2) → ((¬ w32 (S.1 9 5) = 0) → EV q 151 47 [some (.ref 29), some (.ref 9), some (vI x2), none, none] [] S r S') ∧ ((¬ (¬ w32 (S.1 9 5) = 0)) → ∃ (z3 : Int) (S1 : ms), EV q 132 0 [some (.ref 9), some (vI 4), none, none, none] [] S (some (vL z3)) S1 ∧ ((¬ w64 z3 = w64 0) → ∃ (S4 : ms), EV q 153 0 [some (.ref 29), some (.ref 9), some (vL z3), none, none, none, none, none] [] S1 none S4 ∧ EV q 151 7 [some (.ref 29), some (.ref 9), some (vI (x2 + 1)), none, none] [] S4 r S') ∧ ((¬ (¬ w64 z3 = w64 0)) → EV q 151 47 [some (.ref 29), some (.ref 9), some (vI x2), none, none] [] S1 r S')))) : EV q 151 7 [some (.ref 29), some (.ref 9), some (vI x2), none, none] [] S r S' := by
  unfold EV
  refine ev_bk 2 (S' := (10, [some (.ref 29), some (.ref 9), some (vI x2), none, none], [vI 1000000, vI x2], hp S, 0, 0)) rfl ?_
  refine mv_icmp 47 rfl rfl (fun c => ?_) (fun c => ?_)
  · have F := F.1 c
    exact F
  · have F := F.2 c
    refine ev_bk 1 (S' := (14, [some (.ref 29), some (.ref 9), some (vI x2), none, none], [.ref 9], hp S, 0, 0)) rfl ?_
    refine mv_gfI rfl rfl (sh_9) (by decide) rfl ?_
    refine mv_if 47 rfl rfl (fun c => ?_) (fun c => ?_)
    · have F := F.1 c
      exact F
    · have F := F.2 c
      refine ev_bk 2 (S' := (22, [some (.ref 29), some (.ref 9), some (vI x2), none, none], [vI 4, .ref 9], hp S, 0, 0)) rfl ?_
      obtain ⟨z3, S1, e2, F⟩ := F
      refine mv_calv (as := [vI 4]) (rest := []) e2 (sh_9) rfl rfl rfl ⟨rfl, rfl⟩ rfl rfl rfl rfl rfl ?_
      refine ev_bk 3 (S' := (28, [some (.ref 29), some (.ref 9), some (vI x2), some (vL z3), none], [vL 0, vL z3], hp S1, 0, 0)) rfl ?_
      refine mv_lif 35 rfl rfl rfl (fun c => ?_) (fun c => ?_)
      · have F := F.1 c
        refine ev_bk 3 (S' := (38, [some (.ref 29), some (.ref 9), some (vI x2), some (vL z3), none], [vL z3, .ref 9, .ref 29], hp S1, 0, 0)) rfl ?_
        obtain ⟨S4, e5, F⟩ := F
        refine mv_calv (as := [.ref 9, vL z3]) (rest := []) e5 (sh_29) rfl rfl rfl ⟨rfl, rfl⟩ rfl rfl rfl rfl rfl ?_
        refine mv_inc (lv' := [some (.ref 29), some (.ref 9), some (vI (x2 + 1)), some (vL z3), none]) 2 1 rfl rfl rfl rfl ?_
        refine mv_goto 7 rfl rfl ?_
        exact ev_wk (le_s (le_s (le_s (le_n (le_s le_0))))) F
      · have F := F.2 c
        refine mv_goto 47 rfl rfl ?_
        exact ev_wk (le_s (le_s (le_s (le_n (le_s le_0))))) F
theorem vc_Copies_openFrame_47 {q : Nat × (Nat → Int32)} {S S' : ms} {r : Option Value} (x2 : Int)
    (F : ((¬ w32 (S.1 9 5) = 0) → EV q 151 103 [some (.ref 29), some (.ref 9), none, none, none] [] S r S') ∧ ((¬ (¬ w32 (S.1 9 5) = 0)) → ((w32 (bA (S.1 29 2) 4) = 0) → EV q 151 103 [some (.ref 29), some (.ref 9), none, none, none] [] S r S') ∧ ((¬ w32 (bA (S.1 29 2) 4) = 0) → ∃ (z3 : Int) (S1 : ms), EV q 132 0 [some (.ref 9), some (vI 4), none, none, none] [] S (some (vL z3)) S1 ∧ ∃ (o4 no4 : Nat), S1.2.2 9 1 = o4 ∧ isRow o4 no4 ∧ ∃ (o7 no7 : Nat), S1.2.2 9 1 = o7 ∧ isRow o7 no7 ∧ ∃ (z12 : Int) (S10 : ms), EV q 30 0 [some (.ref (o4 + 1)), some (vI 0), some (vI (S1.1 o7 1)), none, none, none, none, none, none] [] S1 (some (vI z12)) S10 ∧ ((w64 z3 = w64 ((w32 z12) % 4294967296)) → EV q 151 103 [some (.ref 29), some (.ref 9), none, none, none] [] S10 r S') ∧ ((¬ w64 z3 = w64 ((w32 z12) % 4294967296)) → ∃ (S13 : ms), EV q 124 0 [some (.ref 9), some (vI 47)] [] S10 none S13 ∧ EV q 151 103 [some (.ref 29), some (.ref 9), none, none, none] [] S13 r S')))) : EV q 151 47 [some (.ref 29), some (.ref 9), some (vI x2), none, none] [] S r S' := by
  unfold EV
  refine ev_bk 1 (S' := (48, [some (.ref 29), some (.ref 9), some (vI x2), none, none], [.ref 9], hp S, 0, 0)) rfl ?_
  refine mv_gfI rfl rfl (sh_9) (by decide) rfl ?_
  refine mv_if 103 rfl rfl (fun c => ?_) (fun c => ?_)
  · have F := F.1 c
    exact ev_wk (le_s (le_s (le_n (le_s (le_s le_0))))) F
  · have F := F.2 c
    refine ev_bk 1 (S' := (55, [some (.ref 29), some (.ref 9), some (vI x2), none, none], [.ref 29], hp S, 0, 0)) rfl ?_
    refine mv_gfI rfl rfl (sh_29) (by decide) rfl ?_
    refine ev_bk 1 (S' := (59, [some (.ref 29), some (.ref 9), some (vI x2), none, none], [vI 4, vI (S.1 29 2)], hp S, 0, 0)) rfl ?_
    refine mv_iand rfl ?_
    refine mv_if 103 rfl rfl (fun c => ?_) (fun c => ?_)
    · have F := F.1 c
      exact ev_wk (le_s (le_s (le_n (le_s (le_s le_0))))) F
    · have F := F.2 c
      refine ev_bk 2 (S' := (65, [some (.ref 29), some (.ref 9), some (vI x2), none, none], [vI 4, .ref 9], hp S, 0, 0)) rfl ?_
      obtain ⟨z3, S1, e2, F⟩ := F
      refine mv_calv (as := [vI 4]) (rest := []) e2 (sh_9) rfl rfl rfl ⟨rfl, rfl⟩ rfl rfl rfl rfl rfl ?_
      refine ev_bk 3 (S' := (71, [some (.ref 29), some (.ref 9), some (vL z3), none, none], [.ref 9, vL z3], hp S1, 0, 0)) rfl ?_
      obtain ⟨o4, no4, e6, h5, F⟩ := F
      refine mv_gfV rfl rfl (sh_9) (by decide) rfl e6 ?_
      refine mv_gfR rfl rfl (h5.1) (by decide) rfl ?_
      refine ev_bk 2 (S' := (79, [some (.ref 29), some (.ref 9), some (vL z3), none, none], [.ref 9, vI 0, .ref (o4 + 1), vL z3], hp S1, 0, 0)) rfl ?_
      obtain ⟨o7, no7, e9, h8, F⟩ := F
      refine mv_gfV rfl rfl (sh_9) (by decide) rfl e9 ?_
      refine mv_gfI rfl rfl (h8.1) (by decide) rfl ?_
      obtain ⟨z12, S10, e11, F⟩ := F
      refine mv_cals (as := [.ref (o4 + 1), vI 0, vI (S1.1 o7 1)]) (rest := [vL z3]) e11 rfl rfl rfl ⟨rfl, rfl, rfl⟩ rfl rfl rfl rfl ?_
      refine mv_i2l rfl ?_
      refine ev_bk 1 (S' := (92, [some (.ref 29), some (.ref 9), some (vL z3), none, none], [vL 4294967295, vL (w32 z12), vL z3], hp S10, 0, 0)) rfl ?_
      refine mv_landm 4294967296 32 (by decide) rfl rfl rfl ?_
      refine mv_lif 103 rfl rfl rfl (fun c => ?_) (fun c => ?_)
      · have F := F.1 c
        exact ev_wk (le_s (le_s (le_n (le_s (le_s le_0))))) F
      · have F := F.2 c
        refine ev_bk 2 (S' := (100, [some (.ref 29), some (.ref 9), some (vL z3), none, none], [vI 47, .ref 9], hp S10, 0, 0)) rfl ?_
        obtain ⟨S13, e14, F⟩ := F
        refine mv_calv (as := [vI 47]) (rest := []) e14 (sh_9) rfl rfl rfl ⟨rfl, rfl⟩ rfl rfl rfl rfl rfl ?_
        exact ev_wk (le_s (le_s (le_n (le_s (le_s le_0))))) F
theorem vc_Copies_openFrame_103 {q : Nat × (Nat → Int32)} {S S' : ms} {r : Option Value}
    (F : ((w32 (bA (S.1 29 2) 8) = 0) → EV q 151 135 [some (.ref 29), some (.ref 9), none, none, none] [] S r S') ∧ ((¬ w32 (bA (S.1 29 2) 8) = 0) → ∃ (o1 no1 : Nat), S.2.2 9 1 = o1 ∧ isRow o1 no1 ∧ ((w64 (S.2.1 29 3) = w64 (w32 (S.1 o1 1))) → EV q 151 135 [some (.ref 29), some (.ref 9), none, none, none] [] S r S') ∧ ((¬ w64 (S.2.1 29 3) = w64 (w32 (S.1 o1 1))) → ∃ (S4 : ms), EV q 124 0 [some (.ref 9), some (vI 48)] [] S none S4 ∧ EV q 151 135 [some (.ref 29), some (.ref 9), none, none, none] [] S4 r S'))) : EV q 151 103 [some (.ref 29), some (.ref 9), none, none, none] [] S r S' := by
  unfold EV
  refine ev_bk 1 (S' := (104, [some (.ref 29), some (.ref 9), none, none, none], [.ref 29], hp S, 0, 0)) rfl ?_
  refine mv_gfI rfl rfl (sh_29) (by decide) rfl ?_
  refine ev_bk 1 (S' := (109, [some (.ref 29), some (.ref 9), none, none, none], [vI 8, vI (S.1 29 2)], hp S, 0, 0)) rfl ?_
  refine mv_iand rfl ?_
  refine mv_if 135 rfl rfl (fun c => ?_) (fun c => ?_)
  · have F := F.1 c
    exact F
  · have F := F.2 c
    refine ev_bk 1 (S' := (114, [some (.ref 29), some (.ref 9), none, none, none], [.ref 29], hp S, 0, 0)) rfl ?_
    refine mv_gfJ rfl rfl (sh_29) (by decide) rfl ?_
    refine ev_bk 1 (S' := (118, [some (.ref 29), some (.ref 9), none, none, none], [.ref 9, vL (S.2.1 29 3)], hp S, 0, 0)) rfl ?_
    obtain ⟨o1, no1, e3, h2, F⟩ := F
    refine mv_gfV rfl rfl (sh_9) (by decide) rfl e3 ?_
    refine mv_gfI rfl rfl (h2.1) (by decide) rfl ?_
    refine mv_i2l rfl ?_
    refine mv_lif 135 rfl rfl rfl (fun c => ?_) (fun c => ?_)
    · have F := F.1 c
      exact F
    · have F := F.2 c
      refine ev_bk 2 (S' := (132, [some (.ref 29), some (.ref 9), none, none, none], [vI 48, .ref 9], hp S, 0, 0)) rfl ?_
      obtain ⟨S4, e5, F⟩ := F
      refine mv_calv (as := [vI 48]) (rest := []) e5 (sh_9) rfl rfl rfl ⟨rfl, rfl⟩ rfl rfl rfl rfl rfl ?_
      exact F
theorem vc_Copies_openFrame_135 {q : Nat × (Nat → Int32)} {S S' : ms} {r : Option Value}
    (F : ∃ (S1 : ms), EV q 125 0 [some (.ref 9)] [] S none S1 ∧ r = none ∧ S' = S1) : EV q 151 135 [some (.ref 29), some (.ref 9), none, none, none] [] S r S' := by
  unfold EV
  refine ev_bk 1 (S' := (136, [some (.ref 29), some (.ref 9), none, none, none], [.ref 9], hp S, 0, 0)) rfl ?_
  obtain ⟨S1, e2, F⟩ := F
  refine mv_calv (as := []) (rest := []) e2 (sh_9) rfl rfl rfl ⟨rfl, rfl⟩ rfl rfl rfl rfl rfl ?_
  obtain ⟨rfl, rfl⟩ := F
  exact ev_ret rfl rfl
theorem vc_Copies_openFrameHead {q : Nat × (Nat → Int32)} {S S' : ms} {r : Option Value}
    (F : ∃ (S1 : ms), EV q 146 0 [some (.ref 9), some (vI 4), some (vI 43), none] [] S none S1 ∧ ∃ (S3 : ms), EV q 146 0 [some (.ref 9), some (vI 34), some (vI 43), none] [] S1 none S3 ∧ ∃ (S5 : ms), EV q 146 0 [some (.ref 9), some (vI 77), some (vI 43), none] [] S3 none S5 ∧ ∃ (S7 : ms), EV q 146 0 [some (.ref 9), some (vI 24), some (vI 43), none] [] S5 none S7 ∧ ∃ (z11 : Int) (S9 : ms), EV q 118 0 [some (.ref 9)] [] S7 (some (vI z11)) S9 ∧ ∀ S12 : ms, S12 = wI S9 29 2 z11 → ((¬ w32 (w32 (S12.1 29 2) / 64) = 1) → EV q 152 59 [some (.ref 29), some (.ref 9), none] [] S12 r S') ∧ ((¬ (¬ w32 (w32 (S12.1 29 2) / 64) = 1)) → ((w32 ((S12.1 29 2) % 4) = 0) → EV q 152 65 [some (.ref 29), some (.ref 9), none] [] S12 r S') ∧ ((¬ w32 ((S12.1 29 2) % 4) = 0) → EV q 152 59 [some (.ref 29), some (.ref 9), none] [] S12 r S'))) : EV q 152 0 [some (.ref 29), some (.ref 9), none] [] S r S' := by
  unfold EV
  refine ev_bk 3 (S' := (4, [some (.ref 29), some (.ref 9), none], [vI 43, vI 4, .ref 9], hp S, 0, 0)) rfl ?_
  obtain ⟨S1, e2, F⟩ := F
  refine mv_calv (as := [vI 4, vI 43]) (rest := []) e2 (sh_9) rfl rfl rfl ⟨rfl, rfl⟩ rfl rfl rfl rfl rfl ?_
  refine ev_bk 3 (S' := (12, [some (.ref 29), some (.ref 9), none], [vI 43, vI 34, .ref 9], hp S1, 0, 0)) rfl ?_
  obtain ⟨S3, e4, F⟩ := F
  refine mv_calv (as := [vI 34, vI 43]) (rest := []) e4 (sh_9) rfl rfl rfl ⟨rfl, rfl⟩ rfl rfl rfl rfl rfl ?_
  refine ev_bk 3 (S' := (20, [some (.ref 29), some (.ref 9), none], [vI 43, vI 77, .ref 9], hp S3, 0, 0)) rfl ?_
  obtain ⟨S5, e6, F⟩ := F
  refine mv_calv (as := [vI 77, vI 43]) (rest := []) e6 (sh_9) rfl rfl rfl ⟨rfl, rfl⟩ rfl rfl rfl rfl rfl ?_
  refine ev_bk 3 (S' := (28, [some (.ref 29), some (.ref 9), none], [vI 43, vI 24, .ref 9], hp S5, 0, 0)) rfl ?_
  obtain ⟨S7, e8, F⟩ := F
  refine mv_calv (as := [vI 24, vI 43]) (rest := []) e8 (sh_9) rfl rfl rfl ⟨rfl, rfl⟩ rfl rfl rfl rfl rfl ?_
  refine ev_bk 2 (S' := (33, [some (.ref 29), some (.ref 9), none], [.ref 9, .ref 29], hp S7, 0, 0)) rfl ?_
  obtain ⟨z11, S9, e10, F⟩ := F
  refine mv_calv (as := []) (rest := [.ref 29]) e10 (sh_9) rfl rfl rfl ⟨rfl, rfl⟩ rfl rfl rfl rfl rfl ?_
  refine mv_pfI rfl rfl (sh_29) (by decide) rfl rfl ?_
  have F := F _ rfl
  refine ev_bk 1 (S' := (40, [some (.ref 29), some (.ref 9), none], [.ref 29], hp (wI S9 29 2 z11), 0, 0)) rfl ?_
  refine mv_gfI rfl rfl (sh_29) (by decide) rfl ?_
  refine ev_bk 1 (S' := (45, [some (.ref 29), some (.ref 9), none], [vI 6, vI ((wI S9 29 2 z11).1 29 2)], hp (wI S9 29 2 z11), 0, 0)) rfl ?_
  refine mv_ishr 64 rfl rfl ?_
  refine ev_bk 1 (S' := (47, [some (.ref 29), some (.ref 9), none], [vI 1, vI (w32 ((wI S9 29 2 z11).1 29 2) / 64)], hp (wI S9 29 2 z11), 0, 0)) rfl ?_
  refine mv_icmp 59 rfl rfl (fun c => ?_) (fun c => ?_)
  · have F := F.1 c
    exact F
  · have F := F.2 c
    refine ev_bk 1 (S' := (51, [some (.ref 29), some (.ref 9), none], [.ref 29], hp (wI S9 29 2 z11), 0, 0)) rfl ?_
    refine mv_gfI rfl rfl (sh_29) (by decide) rfl ?_
    refine ev_bk 1 (S' := (55, [some (.ref 29), some (.ref 9), none], [vI 3, vI ((wI S9 29 2 z11).1 29 2)], hp (wI S9 29 2 z11), 0, 0)) rfl ?_
    refine mv_iandm 4 2 (by decide) rfl rfl rfl ?_
    refine mv_if 65 rfl rfl (fun c => ?_) (fun c => ?_)
    · have F := F.1 c
      exact F
    · have F := F.2 c
      exact F
theorem vc_Copies_openFrameHead_59 {q : Nat × (Nat → Int32)} {S S' : ms} {r : Option Value}
    (F : ∃ (S1 : ms), EV q 124 0 [some (.ref 9), some (vI 44)] [] S none S1 ∧ EV q 152 65 [some (.ref 29), some (.ref 9), none] [] S1 r S') : EV q 152 59 [some (.ref 29), some (.ref 9), none] [] S r S' := by
  unfold EV
  refine ev_bk 2 (S' := (62, [some (.ref 29), some (.ref 9), none], [vI 44, .ref 9], hp S, 0, 0)) rfl ?_
  obtain ⟨S1, e2, F⟩ := F
  refine mv_calv (as := [vI 44]) (rest := []) e2 (sh_9) rfl rfl rfl ⟨rfl, rfl⟩ rfl rfl rfl rfl rfl ?_
  exact F
theorem vc_Copies_openFrameHead_65 {q : Nat × (Nat → Int32)} {S S' : ms} {r : Option Value}
    (F : ∃ (z3 : Int) (S1 : ms), EV q 118 0 [some (.ref 9)] [] S (some (vI z3)) S1 ∧ ((¬ w32 (bA z3 143) = 0) → EV q 152 84 [some (.ref 29), some (.ref 9), some (vI z3)] [] S1 r S') ∧ ((¬ (¬ w32 (bA z3 143) = 0)) → ((64 ≤ w32 z3) → EV q 152 90 [some (.ref 29), some (.ref 9), some (vI z3)] [] S1 r S') ∧ ((¬ 64 ≤ w32 z3) → EV q 152 84 [some (.ref 29), some (.ref 9), some (vI z3)] [] S1 r S'))) : EV q 152 65 [some (.ref 29), some (.ref 9), none] [] S r S' := by
  unfold EV
  refine ev_bk 1 (S' := (66, [some (.ref 29), some (.ref 9), none], [.ref 9], hp S, 0, 0)) rfl ?_
  obtain ⟨z3, S1, e2, F⟩ := F
  refine mv_calv (as := []) (rest := []) e2 (sh_9) rfl rfl rfl ⟨rfl, rfl⟩ rfl rfl rfl rfl rfl ?_
  refine ev_bk 3 (S' := (74, [some (.ref 29), some (.ref 9), some (vI z3)], [vI 143, vI z3], hp S1, 0, 0)) rfl ?_
  refine mv_iand rfl ?_
  refine mv_if 84 rfl rfl (fun c => ?_) (fun c => ?_)
  · have F := F.1 c
    exact F
  · have F := F.2 c
    refine ev_bk 2 (S' := (81, [some (.ref 29), some (.ref 9), some (vI z3)], [vI 64, vI z3], hp S1, 0, 0)) rfl ?_
    refine mv_icmp 90 rfl rfl (fun c => ?_) (fun c => ?_)
    · have F := F.1 c
      exact F
    · have F := F.2 c
      exact F
theorem vc_Copies_openFrameHead_84 {q : Nat × (Nat → Int32)} {S S' : ms} {r : Option Value} (x2 : Int)
    (F : ∃ (S1 : ms), EV q 124 0 [some (.ref 9), some (vI 44)] [] S none S1 ∧ EV q 152 90 [some (.ref 29), some (.ref 9), some (vI x2)] [] S1 r S') : EV q 152 84 [some (.ref 29), some (.ref 9), some (vI x2)] [] S r S' := by
  unfold EV
  refine ev_bk 2 (S' := (87, [some (.ref 29), some (.ref 9), some (vI x2)], [vI 44, .ref 9], hp S, 0, 0)) rfl ?_
  obtain ⟨S1, e2, F⟩ := F
  refine mv_calv (as := [vI 44]) (rest := []) e2 (sh_9) rfl rfl rfl ⟨rfl, rfl⟩ rfl rfl rfl rfl rfl ?_
  exact F
theorem vc_Copies_openFrameHead_90 {q : Nat × (Nat → Int32)} {S S' : ms} {r : Option Value} (x2 : Int)
    (F : ((w32 (bA (S.1 29 2) 8) = 0) → EV q 152 111 [some (.ref 29), some (.ref 9), some (vI x2)] [vL 0, .ref 29] S r S') ∧ ((¬ w32 (bA (S.1 29 2) 8) = 0) → ∃ (z3 : Int) (S1 : ms), EV q 132 0 [some (.ref 9), some (vI 8), none, none, none] [] S (some (vL z3)) S1 ∧ EV q 152 111 [some (.ref 29), some (.ref 9), some (vI x2)] [vL z3, .ref 29] S1 r S')) : EV q 152 90 [some (.ref 29), some (.ref 9), some (vI x2)] [] S r S' := by
  unfold EV
  refine ev_bk 2 (S' := (92, [some (.ref 29), some (.ref 9), some (vI x2)], [.ref 29, .ref 29], hp S, 0, 0)) rfl ?_
  refine mv_gfI rfl rfl (sh_29) (by decide) rfl ?_
  refine ev_bk 1 (S' := (97, [some (.ref 29), some (.ref 9), some (vI x2)], [vI 8, vI (S.1 29 2), .ref 29], hp S, 0, 0)) rfl ?_
  refine mv_iand rfl ?_
  refine mv_if 110 rfl rfl (fun c => ?_) (fun c => ?_)
  · have F := F.1 c
    refine ev_bk 1 (S' := (111, [some (.ref 29), some (.ref 9), some (vI x2)], [vL 0, .ref 29], hp S, 0, 0)) rfl ?_
    exact F
  · have F := F.2 c
    refine ev_bk 2 (S' := (104, [some (.ref 29), some (.ref 9), some (vI x2)], [vI 8, .ref 9, .ref 29], hp S, 0, 0)) rfl ?_
    obtain ⟨z3, S1, e2, F⟩ := F
    refine mv_calv (as := [vI 8]) (rest := [.ref 29]) e2 (sh_9) rfl rfl rfl ⟨rfl, rfl⟩ rfl rfl rfl rfl rfl ?_
    refine mv_goto 111 rfl rfl ?_
    exact F
theorem vc_Copies_openFrameHead_111 {q : Nat × (Nat → Int32)} {S S' : ms} {r : Option Value} (x2 y0 : Int)
    (F : ∀ S1 : ms, S1 = wJ S 29 3 y0 → ((¬ w32 (S1.1 9 5) = 0) → r = none ∧ S' = S1) ∧ ((¬ (¬ w32 (S1.1 9 5) = 0)) → ∃ (z4 : Int) (S2 : ms), EV q 30 0 [some (.ref 2), some (vI 4), some (vI (S1.1 9 3)), none, none, none, none, none, none] [] S1 (some (vI z4)) S2 ∧ ∃ (S5 : ms), EV q 146 0 [some (.ref 9), some (vI ((z4 % 4294967296 / 256) % 256)), some (vI 45), none] [] S2 none S5 ∧ r = none ∧ S' = S5)) : EV q 152 111 [some (.ref 29), some (.ref 9), some (vI x2)] [vL y0, .ref 29] S r S' := by
  unfold EV
  refine mv_pfJ rfl rfl (sh_29) (by decide) rfl rfl ?_
  have F := F _ rfl
  refine ev_bk 1 (S' := (115, [some (.ref 29), some (.ref 9), some (vI x2)], [.ref 9], hp (wJ S 29 3 y0), 0, 0)) rfl ?_
  refine mv_gfI rfl rfl (sh_9) (by decide) rfl ?_
  refine mv_if 146 rfl rfl (fun c => ?_) (fun c => ?_)
  · have F := F.1 c
    obtain ⟨rfl, rfl⟩ := F
    exact ev_ret rfl rfl
  · have F := F.2 c
    refine ev_bk 2 (S' := (123, [some (.ref 29), some (.ref 9), some (vI x2)], [.ref 9, .ref 9], hp (wJ S 29 3 y0), 0, 0)) rfl ?_
    refine mv_gfR rfl rfl (sh_9) (by decide) rfl ?_
    refine ev_bk 2 (S' := (128, [some (.ref 29), some (.ref 9), some (vI x2)], [.ref 9, vI 4, .ref 2, .ref 9], hp (wJ S 29 3 y0), 0, 0)) rfl ?_
    refine mv_gfI rfl rfl (sh_9) (by decide) rfl ?_
    obtain ⟨z4, S2, e3, F⟩ := F
    refine mv_cals (as := [.ref 2, vI 4, vI ((wJ S 29 3 y0).1 9 3)]) (rest := [.ref 9]) e3 rfl rfl rfl ⟨rfl, rfl, rfl⟩ rfl rfl rfl rfl ?_
    refine ev_bk 1 (S' := (136, [some (.ref 29), some (.ref 9), some (vI x2)], [vI 8, vI z4, .ref 9], hp S2, 0, 0)) rfl ?_
    refine mv_iushr 256 rfl rfl ?_
    refine ev_bk 1 (S' := (140, [some (.ref 29), some (.ref 9), some (vI x2)], [vI 255, vI (z4 % 4294967296 / 256), .ref 9], hp S2, 0, 0)) rfl ?_
    refine mv_iandm 256 8 (by decide) rfl rfl rfl ?_
    refine ev_bk 1 (S' := (143, [some (.ref 29), some (.ref 9), some (vI x2)], [vI 45, vI ((z4 % 4294967296 / 256) % 256), .ref 9], hp S2, 0, 0)) rfl ?_
    obtain ⟨S5, e6, F⟩ := F
    refine mv_calv (as := [vI ((z4 % 4294967296 / 256) % 256), vI 45]) (rest := []) e6 (sh_9) rfl rfl rfl ⟨rfl, rfl⟩ rfl rfl rfl rfl rfl ?_
    obtain ⟨rfl, rfl⟩ := F
    exact ev_ret rfl rfl
theorem vc_Copies_openFrameBlock {q : Nat × (Nat → Int32)} {S S' : ms} {r : Option Value} (x2 : Int)
    (F : ((w32 (min (w64 (x2 % 2147483648)) (w64 65537)) = 0) → EV q 153 26 [some (.ref 29), some (.ref 9), some (vL x2), none, some (vI (min (w64 (x2 % 2147483648)) (w64 65537))), none, none, none] [] S r S') ∧ ((¬ w32 (min (w64 (x2 % 2147483648)) (w64 65537)) = 0) → ((w32 (min (w64 (x2 % 2147483648)) (w64 65537)) ≤ 65536) → EV q 153 32 [some (.ref 29), some (.ref 9), some (vL x2), none, some (vI (min (w64 (x2 % 2147483648)) (w64 65537))), none, none, none] [] S r S') ∧ ((¬ w32 (min (w64 (x2 % 2147483648)) (w64 65537)) ≤ 65536) → EV q 153 26 [some (.ref 29), some (.ref 9), some (vL x2), none, some (vI (min (w64 (x2 % 2147483648)) (w64 65537))), none, none, none] [] S r S'))) : EV q 153 0 [some (.ref 29), some (.ref 9), some (vL x2), none, none, none, none, none] [] S r S' := by
  unfold EV
  refine ev_bk 2 (S' := (4, [some (.ref 29), some (.ref 9), some (vL x2), none, none, none, none, none], [vL 2147483647, vL x2], hp S, 0, 0)) rfl ?_
  refine mv_landm 2147483648 31 (by decide) rfl rfl rfl ?_
  refine ev_bk 1 (S' := (8, [some (.ref 29), some (.ref 9), some (vL x2), none, none, none, none, none], [vL 65537, vL (x2 % 2147483648)], hp S, 0, 0)) rfl ?_
  refine mv_lmin rfl rfl rfl ?_
  refine mv_l2i rfl ?_
  refine ev_bk 2 (S' := (16, [some (.ref 29), some (.ref 9), some (vL x2), none, some (vI (min (w64 (x2 % 2147483648)) (w64 65537))), none, none, none], [vI (min (w64 (x2 % 2147483648)) (w64 65537))], hp S, 0, 0)) rfl ?_
  refine mv_if 26 rfl rfl (fun c => ?_) (fun c => ?_)
  · have F := F.1 c
    exact F
  · have F := F.2 c
    refine ev_bk 2 (S' := (23, [some (.ref 29), some (.ref 9), some (vL x2), none, some (vI (min (w64 (x2 % 2147483648)) (w64 65537))), none, none, none], [vI 65536, vI (min (w64 (x2 % 2147483648)) (w64 65537))], hp S, 0, 0)) rfl ?_
    refine mv_icmp 32 rfl rfl (fun c => ?_) (fun c => ?_)
    · have F := F.1 c
      exact F
    · have F := F.2 c
      exact F
theorem vc_Copies_openFrameBlock_26 {q : Nat × (Nat → Int32)} {S S' : ms} {r : Option Value} (x2 x4 : Int)
    (F : ∃ (S1 : ms), EV q 124 0 [some (.ref 9), some (vI 46)] [] S none S1 ∧ EV q 153 32 [some (.ref 29), some (.ref 9), some (vL x2), none, some (vI x4), none, none, none] [] S1 r S') : EV q 153 26 [some (.ref 29), some (.ref 9), some (vL x2), none, some (vI x4), none, none, none] [] S r S' := by
  unfold EV
  refine ev_bk 2 (S' := (29, [some (.ref 29), some (.ref 9), some (vL x2), none, some (vI x4), none, none, none], [vI 46, .ref 9], hp S, 0, 0)) rfl ?_
  obtain ⟨S1, e2, F⟩ := F
  refine mv_calv (as := [vI 46]) (rest := []) e2 (sh_9) rfl rfl rfl ⟨rfl, rfl⟩ rfl rfl rfl rfl rfl ?_
  exact F
theorem vc_Copies_openFrameBlock_32 {q : Nat × (Nat → Int32)} {S S' : ms} {r : Option Value} (x2 x4 : Int)
    (F : ((w32 (bA (S.1 29 2) 16) = 0) → EV q 153 64 [some (.ref 29), some (.ref 9), some (vL x2), none, some (vI x4), some (vI (S.1 9 2)), some (vI (S.1 9 3)), none] [vI 0, vI (S.1 9 3 + x4)] S r S') ∧ ((¬ w32 (bA (S.1 29 2) 16) = 0) → EV q 153 64 [some (.ref 29), some (.ref 9), some (vL x2), none, some (vI x4), some (vI (S.1 9 2)), some (vI (S.1 9 3)), none] [vI 4, vI (S.1 9 3 + x4)] S r S')) : EV q 153 32 [some (.ref 29), some (.ref 9), some (vL x2), none, some (vI x4), none, none, none] [] S r S' := by
  unfold EV
  refine ev_bk 1 (S' := (33, [some (.ref 29), some (.ref 9), some (vL x2), none, some (vI x4), none, none, none], [.ref 9], hp S, 0, 0)) rfl ?_
  refine mv_gfI rfl rfl (sh_9) (by decide) rfl ?_
  refine ev_bk 2 (S' := (39, [some (.ref 29), some (.ref 9), some (vL x2), none, some (vI x4), some (vI (S.1 9 2)), none, none], [.ref 9], hp S, 0, 0)) rfl ?_
  refine mv_gfI rfl rfl (sh_9) (by decide) rfl ?_
  refine ev_bk 3 (S' := (48, [some (.ref 29), some (.ref 9), some (vL x2), none, some (vI x4), some (vI (S.1 9 2)), some (vI (S.1 9 3)), none], [vI x4, vI (S.1 9 3)], hp S, 0, 0)) rfl ?_
  refine mv_iadd rfl ?_
  refine ev_bk 1 (S' := (50, [some (.ref 29), some (.ref 9), some (vL x2), none, some (vI x4), some (vI (S.1 9 2)), some (vI (S.1 9 3)), none], [.ref 29, vI (S.1 9 3 + x4)], hp S, 0, 0)) rfl ?_
  refine mv_gfI rfl rfl (sh_29) (by decide) rfl ?_
  refine ev_bk 1 (S' := (55, [some (.ref 29), some (.ref 9), some (vL x2), none, some (vI x4), some (vI (S.1 9 2)), some (vI (S.1 9 3)), none], [vI 16, vI (S.1 29 2), vI (S.1 9 3 + x4)], hp S, 0, 0)) rfl ?_
  refine mv_iand rfl ?_
  refine mv_if 63 rfl rfl (fun c => ?_) (fun c => ?_)
  · have F := F.1 c
    refine ev_bk 1 (S' := (64, [some (.ref 29), some (.ref 9), some (vL x2), none, some (vI x4), some (vI (S.1 9 2)), some (vI (S.1 9 3)), none], [vI 0, vI (S.1 9 3 + x4)], hp S, 0, 0)) rfl ?_
    exact F
  · have F := F.2 c
    refine ev_bk 1 (S' := (60, [some (.ref 29), some (.ref 9), some (vL x2), none, some (vI x4), some (vI (S.1 9 2)), some (vI (S.1 9 3)), none], [vI 4, vI (S.1 9 3 + x4)], hp S, 0, 0)) rfl ?_
    refine mv_goto 64 rfl rfl ?_
    exact F
theorem vc_Copies_openFrameBlock_64 {q : Nat × (Nat → Int32)} {S S' : ms} {r : Option Value} (x2 x4 x5 x6 y0 y1 : Int)
    (F : ((w32 (y1 + y0) ≤ w32 x5) → EV q 153 81 [some (.ref 29), some (.ref 9), some (vL x2), none, some (vI x4), some (vI x5), some (vI x6), some (vI (y1 + y0))] [] S r S') ∧ ((¬ w32 (y1 + y0) ≤ w32 x5) → ∃ (S1 : ms), EV q 126 0 [some (.ref 9), some (vI 1), some (vI x5)] [] S none S1 ∧ EV q 153 81 [some (.ref 29), some (.ref 9), some (vL x2), none, some (vI x4), some (vI x5), some (vI x6), some (vI (y1 + y0))] [] S1 r S')) : EV q 153 64 [some (.ref 29), some (.ref 9), some (vL x2), none, some (vI x4), some (vI x5), some (vI x6), none] [vI y0, vI y1] S r S' := by
  unfold EV
  refine mv_iadd rfl ?_
  refine ev_bk 3 (S' := (71, [some (.ref 29), some (.ref 9), some (vL x2), none, some (vI x4), some (vI x5), some (vI x6), some (vI (y1 + y0))], [vI x5, vI (y1 + y0)], hp S, 0, 0)) rfl ?_
  refine mv_icmp 81 rfl rfl (fun c => ?_) (fun c => ?_)
  · have F := F.1 c
    exact F
  · have F := F.2 c
    refine ev_bk 3 (S' := (78, [some (.ref 29), some (.ref 9), some (vL x2), none, some (vI x4), some (vI x5), some (vI x6), some (vI (y1 + y0))], [vI x5, vI 1, .ref 9], hp S, 0, 0)) rfl ?_
    obtain ⟨S1, e2, F⟩ := F
    refine mv_calv (as := [vI 1, vI x5]) (rest := []) e2 (sh_9) rfl rfl rfl ⟨rfl, rfl⟩ rfl rfl rfl rfl rfl ?_
    exact F
theorem vc_Copies_openFrameBlock_81 {q : Nat × (Nat → Int32)} {S S' : ms} {r : Option Value} (x2 x4 x5 x6 x7 : Int)
    (F : ((w32 (S.1 9 5) = 0) → ((w32 (bA (S.1 29 2) 16) = 0) → EV q 153 149 [some (.ref 29), some (.ref 9), some (vL x2), none, some (vI x4), some (vI x5), some (vI x6), some (vI x7)] [] S r S') ∧ ((¬ w32 (bA (S.1 29 2) 16) = 0) → ∀ S1 : ms, S1 = wI S 9 4 (x7 - 1) → ∃ (z4 : Int) (S2 : ms), EV q 155 0 [some (.ref 2), some (vI (x6 + x4)), some (vI 4), none, none, none] [] S1 (some (vL z4)) S2 ∧ ∃ (z7 : Int) (S5 : ms), EV q 30 0 [some (.ref 2), some (vI x6), some (vI (x6 + x4)), none, none, none, none, none, none] [] S2 (some (vI z7)) S5 ∧ ((w64 z4 = w64 ((w32 z7) % 4294967296)) → EV q 153 149 [some (.ref 29), some (.ref 9), some (vL x2), none, some (vI x4), some (vI x5), some (vI x6), some (vI x7)] [] S5 r S') ∧ ((¬ w64 z4 = w64 ((w32 z7) % 4294967296)) → ∃ (S8 : ms), EV q 124 0 [some (.ref 9), some (vI 47)] [] S5 none S8 ∧ EV q 153 149 [some (.ref 29), some (.ref 9), some (vL x2), none, some (vI x4), some (vI x5), some (vI x6), some (vI x7)] [] S8 r S'))) ∧ ((¬ w32 (S.1 9 5) = 0) → r = none ∧ S' = S)) : EV q 153 81 [some (.ref 29), some (.ref 9), some (vL x2), none, some (vI x4), some (vI x5), some (vI x6), some (vI x7)] [] S r S' := by
  unfold EV
  refine ev_bk 1 (S' := (82, [some (.ref 29), some (.ref 9), some (vL x2), none, some (vI x4), some (vI x5), some (vI x6), some (vI x7)], [.ref 9], hp S, 0, 0)) rfl ?_
  refine mv_gfI rfl rfl (sh_9) (by decide) rfl ?_
  refine mv_if 89 rfl rfl (fun c => ?_) (fun c => ?_)
  · have F := F.1 c
    refine ev_bk 1 (S' := (90, [some (.ref 29), some (.ref 9), some (vL x2), none, some (vI x4), some (vI x5), some (vI x6), some (vI x7)], [.ref 29], hp S, 0, 0)) rfl ?_
    refine mv_gfI rfl rfl (sh_29) (by decide) rfl ?_
    refine ev_bk 1 (S' := (95, [some (.ref 29), some (.ref 9), some (vL x2), none, some (vI x4), some (vI x5), some (vI x6), some (vI x7)], [vI 16, vI (S.1 29 2)], hp S, 0, 0)) rfl ?_
    refine mv_iand rfl ?_
    refine mv_if 149 rfl rfl (fun c => ?_) (fun c => ?_)
    · have F := F.1 c
      exact F
    · have F := F.2 c
      refine ev_bk 3 (S' := (103, [some (.ref 29), some (.ref 9), some (vL x2), none, some (vI x4), some (vI x5), some (vI x6), some (vI x7)], [vI 1, vI x7, .ref 9], hp S, 0, 0)) rfl ?_
      refine mv_isub rfl ?_
      refine mv_pfI rfl rfl (sh_9) (by decide) rfl rfl ?_
      have F := F _ rfl
      refine ev_bk 1 (S' := (108, [some (.ref 29), some (.ref 9), some (vL x2), none, some (vI x4), some (vI x5), some (vI x6), some (vI x7)], [.ref 9], hp (wI S 9 4 (x7 - 1)), 0, 0)) rfl ?_
      refine mv_gfR rfl rfl (sh_9) (by decide) rfl ?_
      refine ev_bk 2 (S' := (115, [some (.ref 29), some (.ref 9), some (vL x2), none, some (vI x4), some (vI x5), some (vI x6), some (vI x7)], [vI x4, vI x6, .ref 2], hp (wI S 9 4 (x7 - 1)), 0, 0)) rfl ?_
      refine mv_iadd rfl ?_
      refine ev_bk 1 (S' := (117, [some (.ref 29), some (.ref 9), some (vL x2), none, some (vI x4), some (vI x5), some (vI x6), some (vI x7)], [vI 4, vI (x6 + x4), .ref 2], hp (wI S 9 4 (x7 - 1)), 0, 0)) rfl ?_
      obtain ⟨z4, S2, e3, F⟩ := F
      refine mv_cals (as := [.ref 2, vI (x6 + x4), vI 4]) (rest := []) e3 rfl rfl rfl ⟨rfl, rfl, rfl⟩ rfl rfl rfl rfl ?_
      refine ev_bk 1 (S' := (121, [some (.ref 29), some (.ref 9), some (vL x2), none, some (vI x4), some (vI x5), some (vI x6), some (vI x7)], [.ref 9, vL z4], hp S2, 0, 0)) rfl ?_
      refine mv_gfR rfl rfl (sh_9) (by decide) rfl ?_
      refine ev_bk 3 (S' := (130, [some (.ref 29), some (.ref 9), some (vL x2), none, some (vI x4), some (vI x5), some (vI x6), some (vI x7)], [vI x4, vI x6, vI x6, .ref 2, vL z4], hp S2, 0, 0)) rfl ?_
      refine mv_iadd rfl ?_
      obtain ⟨z7, S5, e6, F⟩ := F
      refine mv_cals (as := [.ref 2, vI x6, vI (x6 + x4)]) (rest := [vL z4]) e6 rfl rfl rfl ⟨rfl, rfl, rfl⟩ rfl rfl rfl rfl ?_
      refine mv_i2l rfl ?_
      refine ev_bk 1 (S' := (138, [some (.ref 29), some (.ref 9), some (vL x2), none, some (vI x4), some (vI x5), some (vI x6), some (vI x7)], [vL 4294967295, vL (w32 z7), vL z4], hp S5, 0, 0)) rfl ?_
      refine mv_landm 4294967296 32 (by decide) rfl rfl rfl ?_
      refine mv_lif 149 rfl rfl rfl (fun c => ?_) (fun c => ?_)
      · have F := F.1 c
        exact F
      · have F := F.2 c
        refine ev_bk 2 (S' := (146, [some (.ref 29), some (.ref 9), some (vL x2), none, some (vI x4), some (vI x5), some (vI x6), some (vI x7)], [vI 47, .ref 9], hp S5, 0, 0)) rfl ?_
        obtain ⟨S8, e9, F⟩ := F
        refine mv_calv (as := [vI 47]) (rest := []) e9 (sh_9) rfl rfl rfl ⟨rfl, rfl⟩ rfl rfl rfl rfl rfl ?_
        exact F
  · have F := F.2 c
    obtain ⟨rfl, rfl⟩ := F
    exact ev_ret rfl rfl
theorem vc_Copies_openFrameBlock_149 {q : Nat × (Nat → Int32)} {S S' : ms} {r : Option Value} (x2 x4 x5 x6 x7 : Int)
    (F : ∃ (S1 : ms), EV q 156 0 [some (.ref 9), some (vI x6), some (vI (x6 + x4))] [] S none S1 ∧ ((w64 x2 ≤ w64 2147483647) → ((w32 (bA (S1.1 29 2) 32) = 0) → EV q 153 195 [some (.ref 29), some (.ref 9), some (vL x2), none, some (vI x4), some (vI x5), some (vI x6), some (vI x7)] [vI 0, .ref 9, .ref 29] S1 r S') ∧ ((¬ w32 (bA (S1.1 29 2) 32) = 0) → EV q 153 195 [some (.ref 29), some (.ref 9), some (vL x2), none, some (vI x4), some (vI x5), some (vI x6), some (vI x7)] [vI 1, .ref 9, .ref 29] S1 r S')) ∧ ((¬ w64 x2 ≤ w64 2147483647) → ∃ (S3 : ms), EV q 119 0 [some (.ref 9), some (vL (w32 x4)), none, none, none] [] S1 none S3 ∧ EV q 153 198 [some (.ref 29), some (.ref 9), some (vL x2), none, some (vI x4), some (vI x5), some (vI x6), some (vI x7)] [] S3 r S')) : EV q 153 149 [some (.ref 29), some (.ref 9), some (vL x2), none, some (vI x4), some (vI x5), some (vI x6), some (vI x7)] [] S r S' := by
  unfold EV
  refine ev_bk 4 (S' := (156, [some (.ref 29), some (.ref 9), some (vL x2), none, some (vI x4), some (vI x5), some (vI x6), some (vI x7)], [vI x4, vI x6, vI x6, .ref 9], hp S, 0, 0)) rfl ?_
  refine mv_iadd rfl ?_
  obtain ⟨S1, e2, F⟩ := F
  refine mv_calv (as := [vI x6, vI (x6 + x4)]) (rest := []) e2 (sh_9) rfl rfl rfl ⟨rfl, rfl⟩ rfl rfl rfl rfl rfl ?_
  refine ev_bk 2 (S' := (164, [some (.ref 29), some (.ref 9), some (vL x2), none, some (vI x4), some (vI x5), some (vI x6), some (vI x7)], [vL 2147483647, vL x2], hp S1, 0, 0)) rfl ?_
  refine mv_lif 178 rfl rfl rfl (fun c => ?_) (fun c => ?_)
  · have F := F.1 c
    refine ev_bk 3 (S' := (181, [some (.ref 29), some (.ref 9), some (vL x2), none, some (vI x4), some (vI x5), some (vI x6), some (vI x7)], [.ref 29, .ref 9, .ref 29], hp S1, 0, 0)) rfl ?_
    refine mv_gfI rfl rfl (sh_29) (by decide) rfl ?_
    refine ev_bk 1 (S' := (186, [some (.ref 29), some (.ref 9), some (vL x2), none, some (vI x4), some (vI x5), some (vI x6), some (vI x7)], [vI 32, vI (S1.1 29 2), .ref 9, .ref 29], hp S1, 0, 0)) rfl ?_
    refine mv_iand rfl ?_
    refine mv_if 194 rfl rfl (fun c => ?_) (fun c => ?_)
    · have F := F.1 c
      refine ev_bk 1 (S' := (195, [some (.ref 29), some (.ref 9), some (vL x2), none, some (vI x4), some (vI x5), some (vI x6), some (vI x7)], [vI 0, .ref 9, .ref 29], hp S1, 0, 0)) rfl ?_
      exact F
    · have F := F.2 c
      refine ev_bk 1 (S' := (191, [some (.ref 29), some (.ref 9), some (vL x2), none, some (vI x4), some (vI x5), some (vI x6), some (vI x7)], [vI 1, .ref 9, .ref 29], hp S1, 0, 0)) rfl ?_
      refine mv_goto 195 rfl rfl ?_
      exact F
  · have F := F.2 c
    refine ev_bk 2 (S' := (171, [some (.ref 29), some (.ref 9), some (vL x2), none, some (vI x4), some (vI x5), some (vI x6), some (vI x7)], [vI x4, .ref 9], hp S1, 0, 0)) rfl ?_
    refine mv_i2l rfl ?_
    obtain ⟨S3, e4, F⟩ := F
    refine mv_calv (as := [vL (w32 x4)]) (rest := []) e4 (sh_9) rfl rfl rfl ⟨rfl, rfl⟩ rfl rfl rfl rfl rfl ?_
    refine mv_goto 198 rfl rfl ?_
    exact F
theorem vc_Copies_openFrameBlock_195 {q : Nat × (Nat → Int32)} {S S' : ms} {r : Option Value} (x2 x4 x5 x6 x7 y0 : Int)
    (F : ∃ (S1 : ms), EV q 149 0 [some (.ref 29), some (.ref 9), some (vI y0), none, none, none, none] [] S none S1 ∧ EV q 153 198 [some (.ref 29), some (.ref 9), some (vL x2), none, some (vI x4), some (vI x5), some (vI x6), some (vI x7)] [] S1 r S') : EV q 153 195 [some (.ref 29), some (.ref 9), some (vL x2), none, some (vI x4), some (vI x5), some (vI x6), some (vI x7)] [vI y0, .ref 9, .ref 29] S r S' := by
  unfold EV
  obtain ⟨S1, e2, F⟩ := F
  refine mv_calv (as := [.ref 9, vI y0]) (rest := []) e2 (sh_29) rfl rfl rfl ⟨rfl, rfl⟩ rfl rfl rfl rfl rfl ?_
  exact F
theorem vc_Copies_openFrameBlock_198 {q : Nat × (Nat → Int32)} {S S' : ms} {r : Option Value} (x2 x4 x5 x6 x7 : Int)
    (F : ∃ (S1 : ms), EV q 156 0 [some (.ref 9), some (vI x7), some (vI x5)] [] S none S1 ∧ r = none ∧ S' = S1) : EV q 153 198 [some (.ref 29), some (.ref 9), some (vL x2), none, some (vI x4), some (vI x5), some (vI x6), some (vI x7)] [] S r S' := by
  unfold EV
  refine ev_bk 3 (S' := (203, [some (.ref 29), some (.ref 9), some (vL x2), none, some (vI x4), some (vI x5), some (vI x6), some (vI x7)], [vI x5, vI x7, .ref 9], hp S, 0, 0)) rfl ?_
  obtain ⟨S1, e2, F⟩ := F
  refine mv_calv (as := [vI x7, vI x5]) (rest := []) e2 (sh_9) rfl rfl rfl ⟨rfl, rfl⟩ rfl rfl rfl rfl rfl ?_
  obtain ⟨rfl, rfl⟩ := F
  exact ev_ret rfl rfl
theorem vc_Copies_openCopies {q : Nat × (Nat → Int32)} {S S' : ms} {r : Option Value}
    (F : ∃ (z3 : Int) (S1 : ms), EV q 158 0 [some (.ref 9), none, none, none, none] [] S (some (vL z3)) S1 ∧ ((w64 z3 ≤ w64 12000) → EV q 157 19 [some (.ref 29), some (.ref 9), some (vL z3), none, none, none] [] S1 r S') ∧ ((¬ w64 z3 ≤ w64 12000) → ∃ (S4 : ms), EV q 124 0 [some (.ref 9), some (vI 13)] [] S1 none S4 ∧ EV q 157 19 [some (.ref 29), some (.ref 9), some (vL z3), none, none, none] [] S4 r S')) : EV q 157 0 [some (.ref 29), some (.ref 9), none, none, none, none] [] S r S' := by
  unfold EV
  refine ev_bk 1 (S' := (1, [some (.ref 29), some (.ref 9), none, none, none, none], [.ref 9], hp S, 0, 0)) rfl ?_
  obtain ⟨z3, S1, e2, F⟩ := F
  refine mv_calv (as := []) (rest := []) e2 (sh_9) rfl rfl rfl ⟨rfl, rfl⟩ rfl rfl rfl rfl rfl ?_
  refine ev_bk 3 (S' := (9, [some (.ref 29), some (.ref 9), some (vL z3), none, none, none], [vL 12000, vL z3], hp S1, 0, 0)) rfl ?_
  refine mv_lif 19 rfl rfl rfl (fun c => ?_) (fun c => ?_)
  · have F := F.1 c
    exact F
  · have F := F.2 c
    refine ev_bk 2 (S' := (16, [some (.ref 29), some (.ref 9), some (vL z3), none, none, none], [vI 13, .ref 9], hp S1, 0, 0)) rfl ?_
    obtain ⟨S4, e5, F⟩ := F
    refine mv_calv (as := [vI 13]) (rest := []) e5 (sh_9) rfl rfl rfl ⟨rfl, rfl⟩ rfl rfl rfl rfl rfl ?_
    exact F
theorem vc_Copies_openCopies_19 {q : Nat × (Nat → Int32)} {S S' : ms} {r : Option Value} (x2 : Int)
    (F : EV q 157 22 [some (.ref 29), some (.ref 9), some (vL x2), none, some (vI 0), none] [] S r S') : EV q 157 19 [some (.ref 29), some (.ref 9), some (vL x2), none, none, none] [] S r S' := by
  unfold EV
  refine ev_bk 2 (S' := (22, [some (.ref 29), some (.ref 9), some (vL x2), none, some (vI 0), none], [], hp S, 0, 0)) rfl ?_
  exact F
theorem vc_Copies_openCopies_22 {q : Nat × (Nat → Int32)} {S S' : ms} {r : Option Value} (x2 x4 : Int)
    (F : ((1000000 ≤ w32 x4) → EV q 157 85 [some (.ref 29), some (.ref 9), some (vL x2), none, some (vI x4), none] [] S r S') ∧ ((¬ 1000000 ≤ w32 x4) → ((¬ w32 (S.1 9 5) = 0) → EV q 157 85 [some (.ref 29), some (.ref 9), some (vL x2), none, some (vI x4), none] [] S r S') ∧ ((¬ (¬ w32 (S.1 9 5) = 0)) → ((w32 (S.1 9 2) ≤ w32 (S.1 9 3)) → EV q 157 85 [some (.ref 29), some (.ref 9), some (vL x2), none, some (vI x4), none] [] S r S') ∧ ((¬ w32 (S.1 9 2) ≤ w32 (S.1 9 3)) → ∃ (z3 : Int) (S1 : ms), EV q 118 0 [some (.ref 9)] [] S (some (vI z3)) S1 ∧ ((¬ w32 (z3 % 4) = 0) → ∃ (S4 : ms), EV q 160 0 [some (.ref 9), some (vI z3), some (vL x2), none, none, none, none, none] [] S1 none S4 ∧ EV q 157 79 [some (.ref 29), some (.ref 9), some (vL x2), none, some (vI x4), some (vI z3)] [] S4 r S') ∧ ((¬ (¬ w32 (z3 % 4) = 0)) → ∃ (S6 : ms), EV q 159 0 [some (.ref 9), some (vI (w32 z3 / 4)), some (vL x2), none, none, none] [] S1 none S6 ∧ EV q 157 79 [some (.ref 29), some (.ref 9), some (vL x2), none, some (vI x4), some (vI z3)] [] S6 r S'))))) : EV q 157 22 [some (.ref 29), some (.ref 9), some (vL x2), none, some (vI x4), none] [] S r S' := by
  unfold EV
  refine ev_bk 2 (S' := (26, [some (.ref 29), some (.ref 9), some (vL x2), none, some (vI x4), none], [vI 1000000, vI x4], hp S, 0, 0)) rfl ?_
  refine mv_icmp 85 rfl rfl (fun c => ?_) (fun c => ?_)
  · have F := F.1 c
    exact F
  · have F := F.2 c
    refine ev_bk 1 (S' := (30, [some (.ref 29), some (.ref 9), some (vL x2), none, some (vI x4), none], [.ref 9], hp S, 0, 0)) rfl ?_
    refine mv_gfI rfl rfl (sh_9) (by decide) rfl ?_
    refine mv_if 85 rfl rfl (fun c => ?_) (fun c => ?_)
    · have F := F.1 c
      exact F
    · have F := F.2 c
      refine ev_bk 1 (S' := (37, [some (.ref 29), some (.ref 9), some (vL x2), none, some (vI x4), none], [.ref 9], hp S, 0, 0)) rfl ?_
      refine mv_gfI rfl rfl (sh_9) (by decide) rfl ?_
      refine ev_bk 1 (S' := (41, [some (.ref 29), some (.ref 9), some (vL x2), none, some (vI x4), none], [.ref 9, vI (S.1 9 3)], hp S, 0, 0)) rfl ?_
      refine mv_gfI rfl rfl (sh_9) (by decide) rfl ?_
      refine mv_icmp 85 rfl rfl (fun c => ?_) (fun c => ?_)
      · have F := F.1 c
        exact F
      · have F := F.2 c
        refine ev_bk 1 (S' := (48, [some (.ref 29), some (.ref 9), some (vL x2), none, some (vI x4), none], [.ref 9], hp S, 0, 0)) rfl ?_
        obtain ⟨z3, S1, e2, F⟩ := F
        refine mv_calv (as := []) (rest := []) e2 (sh_9) rfl rfl rfl ⟨rfl, rfl⟩ rfl rfl rfl rfl rfl ?_
        refine ev_bk 3 (S' := (56, [some (.ref 29), some (.ref 9), some (vL x2), none, some (vI x4), some (vI z3)], [vI 3, vI z3], hp S1, 0, 0)) rfl ?_
        refine mv_iandm 4 2 (by decide) rfl rfl rfl ?_
        refine mv_if 72 rfl rfl (fun c => ?_) (fun c => ?_)
        · have F := F.1 c
          refine ev_bk 3 (S' := (76, [some (.ref 29), some (.ref 9), some (vL x2), none, some (vI x4), some (vI z3)], [vL x2, vI z3, .ref 9], hp S1, 0, 0)) rfl ?_
          obtain ⟨S4, e5, F⟩ := F
          refine mv_cals (as := [.ref 9, vI z3, vL x2]) (rest := []) e5 rfl rfl rfl ⟨rfl, rfl, rfl⟩ rfl rfl rfl rfl ?_
          exact F
        · have F := F.2 c
          refine ev_bk 3 (S' := (64, [some (.ref 29), some (.ref 9), some (vL x2), none, some (vI x4), some (vI z3)], [vI 2, vI z3, .ref 9], hp S1, 0, 0)) rfl ?_
          refine mv_ishr 4 rfl rfl ?_
          refine ev_bk 1 (S' := (66, [some (.ref 29), some (.ref 9), some (vL x2), none, some (vI x4), some (vI z3)], [vL x2, vI (w32 z3 / 4), .ref 9], hp S1, 0, 0)) rfl ?_
          obtain ⟨S6, e7, F⟩ := F
          refine mv_cals (as := [.ref 9, vI (w32 z3 / 4), vL x2]) (rest := []) e7 rfl rfl rfl ⟨rfl, rfl, rfl⟩ rfl rfl rfl rfl ?_
          refine mv_goto 79 rfl rfl ?_
          exact F
theorem vc_Copies_openCopies_79 {q : Nat × (Nat → Int32)} {S S' : ms} {r : Option Value} (x2 x4 x5 : Int)
    (F : EV q 157 22 [some (.ref 29), some (.ref 9), some (vL x2), none, some (vI (x4 + 1)), none] [] S r S') : EV q 157 79 [some (.ref 29), some (.ref 9), some (vL x2), none, some (vI x4), some (vI x5)] [] S r S' := by
  unfold EV
  refine mv_inc (lv' := [some (.ref 29), some (.ref 9), some (vL x2), none, some (vI (x4 + 1)), some (vI x5)]) 4 1 rfl rfl rfl rfl ?_
  refine mv_goto 22 rfl rfl ?_
  exact ev_wk (le_s (le_s (le_s (le_s (le_s (le_n le_0)))))) F
theorem vc_Copies_openCopies_85 {q : Nat × (Nat → Int32)} {S S' : ms} {r : Option Value} (x2 x4 : Int)
    (F : ∃ (o1 no1 : Nat), S.2.2 9 1 = o1 ∧ isRow o1 no1 ∧ ((w64 x2 ≤ w64 (w32 (S.1 o1 1))) → r = none ∧ S' = S) ∧ ((¬ w64 x2 ≤ w64 (w32 (S.1 o1 1))) → ∃ (S4 : ms), EV q 126 0 [some (.ref 9), some (vI 54), some (vI (S.1 9 2))] [] S none S4 ∧ r = none ∧ S' = S4)) : EV q 157 85 [some (.ref 29), some (.ref 9), some (vL x2), none, some (vI x4), none] [] S r S' := by
  unfold EV
  refine ev_bk 1 (S' := (86, [some (.ref 29), some (.ref 9), some (vL x2), none, some (vI x4), none], [.ref 9], hp S, 0, 0)) rfl ?_
  obtain ⟨o1, no1, e3, h2, F⟩ := F
  refine mv_gfV rfl rfl (sh_9) (by decide) rfl e3 ?_
  refine mv_gfI rfl rfl (h2.1) (by decide) rfl ?_
  refine mv_i2l rfl ?_
  refine ev_bk 1 (S' := (94, [some (.ref 29), some (.ref 9), some (vL x2), none, some (vI x4), none], [vL x2, vL (w32 (S.1 o1 1))], hp S, 0, 0)) rfl ?_
  refine mv_lif 108 rfl rfl rfl (fun c => ?_) (fun c => ?_)
  · have F := F.1 c
    obtain ⟨rfl, rfl⟩ := F
    exact ev_ret rfl rfl
  · have F := F.2 c
    refine ev_bk 3 (S' := (102, [some (.ref 29), some (.ref 9), some (vL x2), none, some (vI x4), none], [.ref 9, vI 54, .ref 9], hp S, 0, 0)) rfl ?_
    refine mv_gfI rfl rfl (sh_9) (by decide) rfl ?_
    obtain ⟨S4, e5, F⟩ := F
    refine mv_calv (as := [vI 54, vI (S.1 9 2)]) (rest := []) e5 (sh_9) rfl rfl rfl ⟨rfl, rfl⟩ rfl rfl rfl rfl rfl ?_
    obtain ⟨rfl, rfl⟩ := F
    exact ev_ret rfl rfl
theorem vc_Copies_openLiterals {q : Nat × (Nat → Int32)} {S S' : ms} {r : Option Value} (x1 x2 : Int)
    (F : ((60 ≤ w32 x1) → ∃ (z3 : Int) (S1 : ms), EV q 132 0 [some (.ref 9), some (vI (x1 - 59)), none, none, none] [] S (some (vL z3)) S1 ∧ EV q 159 19 [some (.ref 9), some (vI x1), some (vL x2), none, none, none] [vL z3] S1 r S') ∧ ((¬ 60 ≤ w32 x1) → EV q 159 19 [some (.ref 9), some (vI x1), some (vL x2), none, none, none] [vL (w32 x1)] S r S')) : EV q 159 0 [some (.ref 9), some (vI x1), some (vL x2), none, none, none] [] S r S' := by
  unfold EV
  refine ev_bk 2 (S' := (3, [some (.ref 9), some (vI x1), some (vL x2), none, none, none], [vI 60, vI x1], hp S, 0, 0)) rfl ?_
  refine mv_icmp 11 rfl rfl (fun c => ?_) (fun c => ?_)
  · have F := F.1 c
    refine ev_bk 3 (S' := (15, [some (.ref 9), some (vI x1), some (vL x2), none, none, none], [vI 59, vI x1, .ref 9], hp S, 0, 0)) rfl ?_
    refine mv_isub rfl ?_
    obtain ⟨z3, S1, e2, F⟩ := F
    refine mv_calv (as := [vI (x1 - 59)]) (rest := []) e2 (sh_9) rfl rfl rfl ⟨rfl, rfl⟩ rfl rfl rfl rfl rfl ?_
    exact F
  · have F := F.2 c
    refine ev_bk 1 (S' := (7, [some (.ref 9), some (vI x1), some (vL x2), none, none, none], [vI x1], hp S, 0, 0)) rfl ?_
    refine mv_i2l rfl ?_
    refine mv_goto 19 rfl rfl ?_
    exact F
theorem vc_Copies_openLiterals_19 {q : Nat × (Nat → Int32)} {S S' : ms} {r : Option Value} (x1 x2 y0 : Int)
    (F : ∃ (o1 no1 : Nat), S.2.2 9 1 = o1 ∧ isRow o1 no1 ∧ ((w64 (y0 + 1) ≤ w64 (x2 - (w32 (S.1 o1 1)))) → EV q 159 45 [some (.ref 9), some (vI x1), some (vL x2), none, some (vL y0), none] [] S r S') ∧ ((¬ w64 (y0 + 1) ≤ w64 (x2 - (w32 (S.1 o1 1)))) → ∃ (S4 : ms), EV q 124 0 [some (.ref 9), some (vI 53)] [] S none S4 ∧ EV q 159 45 [some (.ref 9), some (vI x1), some (vL x2), none, some (vL y0), none] [] S4 r S')) : EV q 159 19 [some (.ref 9), some (vI x1), some (vL x2), none, none, none] [vL y0] S r S' := by
  unfold EV
  refine ev_bk 3 (S' := (24, [some (.ref 9), some (vI x1), some (vL x2), none, some (vL y0), none], [vL 1, vL y0], hp S, 0, 0)) rfl ?_
  refine mv_ladd rfl ?_
  refine ev_bk 2 (S' := (27, [some (.ref 9), some (vI x1), some (vL x2), none, some (vL y0), none], [.ref 9, vL x2, vL (y0 + 1)], hp S, 0, 0)) rfl ?_
  obtain ⟨o1, no1, e3, h2, F⟩ := F
  refine mv_gfV rfl rfl (sh_9) (by decide) rfl e3 ?_
  refine mv_gfI rfl rfl (h2.1) (by decide) rfl ?_
  refine mv_i2l rfl ?_
  refine mv_lsub rfl ?_
  refine mv_lif 45 rfl rfl rfl (fun c => ?_) (fun c => ?_)
  · have F := F.1 c
    exact F
  · have F := F.2 c
    refine ev_bk 2 (S' := (42, [some (.ref 9), some (vI x1), some (vL x2), none, some (vL y0), none], [vI 53, .ref 9], hp S, 0, 0)) rfl ?_
    obtain ⟨S4, e5, F⟩ := F
    refine mv_calv (as := [vI 53]) (rest := []) e5 (sh_9) rfl rfl rfl ⟨rfl, rfl⟩ rfl rfl rfl rfl rfl ?_
    exact F
theorem vc_Copies_openLiterals_45 {q : Nat × (Nat → Int32)} {S S' : ms} {r : Option Value} (x1 x2 x4 : Int)
    (F : ∃ (S1 : ms), EV q 119 0 [some (.ref 9), some (vL (x4 + 1)), none, none, none] [] S none S1 ∧ r = none ∧ S' = S1) : EV q 159 45 [some (.ref 9), some (vI x1), some (vL x2), none, some (vL x4), none] [] S r S' := by
  unfold EV
  refine ev_bk 3 (S' := (49, [some (.ref 9), some (vI x1), some (vL x2), none, some (vL x4), none], [vL 1, vL x4, .ref 9], hp S, 0, 0)) rfl ?_
  refine mv_ladd rfl ?_
  obtain ⟨S1, e2, F⟩ := F
  refine mv_calv (as := [vL (x4 + 1)]) (rest := []) e2 (sh_9) rfl rfl rfl ⟨rfl, rfl⟩ rfl rfl rfl rfl rfl ?_
  obtain ⟨rfl, rfl⟩ := F
  exact ev_ret rfl rfl
theorem vc_Copies_openBack {q : Nat × (Nat → Int32)} {S S' : ms} {r : Option Value} (x1 x2 : Int)
    (F : ((¬ w32 (x1 % 4) = 1) → EV q 160 27 [some (.ref 9), some (vI x1), some (vL x2), none, some (vI (x1 % 4)), none, none, none] [vI ((w32 x1 / 4) + 1)] S r S') ∧ ((¬ (¬ w32 (x1 % 4) = 1)) → EV q 160 27 [some (.ref 9), some (vI x1), some (vL x2), none, some (vI (x1 % 4)), none, none, none] [vI (((w32 x1 / 4) % 8) + 4)] S r S')) : EV q 160 0 [some (.ref 9), some (vI x1), some (vL x2), none, none, none, none, none] [] S r S' := by
  unfold EV
  refine ev_bk 2 (S' := (2, [some (.ref 9), some (vI x1), some (vL x2), none, none, none, none, none], [vI 3, vI x1], hp S, 0, 0)) rfl ?_
  refine mv_iandm 4 2 (by decide) rfl rfl rfl ?_
  refine ev_bk 3 (S' := (8, [some (.ref 9), some (vI x1), some (vL x2), none, some (vI (x1 % 4)), none, none, none], [vI 1, vI (x1 % 4)], hp S, 0, 0)) rfl ?_
  refine mv_icmp 22 rfl rfl (fun c => ?_) (fun c => ?_)
  · have F := F.1 c
    refine ev_bk 2 (S' := (24, [some (.ref 9), some (vI x1), some (vL x2), none, some (vI (x1 % 4)), none, none, none], [vI 2, vI x1], hp S, 0, 0)) rfl ?_
    refine mv_ishr 4 rfl rfl ?_
    refine ev_bk 1 (S' := (26, [some (.ref 9), some (vI x1), some (vL x2), none, some (vI (x1 % 4)), none, none, none], [vI 1, vI (w32 x1 / 4)], hp S, 0, 0)) rfl ?_
    refine mv_iadd rfl ?_
    exact F
  · have F := F.2 c
    refine ev_bk 2 (S' := (13, [some (.ref 9), some (vI x1), some (vL x2), none, some (vI (x1 % 4)), none, none, none], [vI 2, vI x1], hp S, 0, 0)) rfl ?_
    refine mv_ishr 4 rfl rfl ?_
    refine ev_bk 1 (S' := (16, [some (.ref 9), some (vI x1), some (vL x2), none, some (vI (x1 % 4)), none, none, none], [vI 7, vI (w32 x1 / 4)], hp S, 0, 0)) rfl ?_
    refine mv_iandm 8 3 (by decide) rfl rfl rfl ?_
    refine ev_bk 1 (S' := (18, [some (.ref 9), some (vI x1), some (vL x2), none, some (vI (x1 % 4)), none, none, none], [vI 4, vI ((w32 x1 / 4) % 8)], hp S, 0, 0)) rfl ?_
    refine mv_iadd rfl ?_
    refine mv_goto 27 rfl rfl ?_
    exact F
theorem vc_Copies_openBack_27 {q : Nat × (Nat → Int32)} {S S' : ms} {r : Option Value} (x1 x2 x4 y0 : Int)
    (F : ∃ (o1 no1 : Nat), S.2.2 9 1 = o1 ∧ isRow o1 no1 ∧ ((w64 (w32 y0) ≤ w64 (x2 - (w32 (S.1 o1 1)))) → EV q 160 52 [some (.ref 9), some (vI x1), some (vL x2), none, some (vI x4), some (vI y0), none, none] [] S r S') ∧ ((¬ w64 (w32 y0) ≤ w64 (x2 - (w32 (S.1 o1 1)))) → ∃ (S4 : ms), EV q 124 0 [some (.ref 9), some (vI 53)] [] S none S4 ∧ EV q 160 52 [some (.ref 9), some (vI x1), some (vL x2), none, some (vI x4), some (vI y0), none, none] [] S4 r S')) : EV q 160 27 [some (.ref 9), some (vI x1), some (vL x2), none, some (vI x4), none, none, none] [vI y0] S r S' := by
  unfold EV
  refine ev_bk 2 (S' := (31, [some (.ref 9), some (vI x1), some (vL x2), none, some (vI x4), some (vI y0), none, none], [vI y0], hp S, 0, 0)) rfl ?_
  refine mv_i2l rfl ?_
  refine ev_bk 2 (S' := (34, [some (.ref 9), some (vI x1), some (vL x2), none, some (vI x4), some (vI y0), none, none], [.ref 9, vL x2, vL (w32 y0)], hp S, 0, 0)) rfl ?_
  obtain ⟨o1, no1, e3, h2, F⟩ := F
  refine mv_gfV rfl rfl (sh_9) (by decide) rfl e3 ?_
  refine mv_gfI rfl rfl (h2.1) (by decide) rfl ?_
  refine mv_i2l rfl ?_
  refine mv_lsub rfl ?_
  refine mv_lif 52 rfl rfl rfl (fun c => ?_) (fun c => ?_)
  · have F := F.1 c
    exact F
  · have F := F.2 c
    refine ev_bk 2 (S' := (49, [some (.ref 9), some (vI x1), some (vL x2), none, some (vI x4), some (vI y0), none, none], [vI 53, .ref 9], hp S, 0, 0)) rfl ?_
    obtain ⟨S4, e5, F⟩ := F
    refine mv_calv (as := [vI 53]) (rest := []) e5 (sh_9) rfl rfl rfl ⟨rfl, rfl⟩ rfl rfl rfl rfl rfl ?_
    exact F
theorem vc_Copies_openBack_52 {q : Nat × (Nat → Int32)} {S S' : ms} {r : Option Value} (x1 x2 x4 x5 : Int)
    (F : ((¬ w32 x4 = 1) → ((¬ w32 x4 = 2) → EV q 160 86 [some (.ref 9), some (vI x1), some (vL x2), none, some (vI x4), some (vI x5), none, none] [vI 4, .ref 9] S r S') ∧ ((¬ (¬ w32 x4 = 2)) → EV q 160 86 [some (.ref 9), some (vI x1), some (vL x2), none, some (vI x4), some (vI x5), none, none] [vI 2, .ref 9] S r S')) ∧ ((¬ (¬ w32 x4 = 1)) → ∃ (z3 : Int) (S1 : ms), EV q 118 0 [some (.ref 9)] [] S (some (vI z3)) S1 ∧ EV q 160 89 [some (.ref 9), some (vI x1), some (vL x2), none, some (vI x4), some (vI x5), none, none] [vL (w32 (((w32 x1 / 32) * 256) + z3))] S1 r S')) : EV q 160 52 [some (.ref 9), some (vI x1), some (vL x2), none, some (vI x4), some (vI x5), none, none] [] S r S' := by
  unfold EV
  refine ev_bk 2 (S' := (55, [some (.ref 9), some (vI x1), some (vL x2), none, some (vI x4), some (vI x5), none, none], [vI 1, vI x4], hp S, 0, 0)) rfl ?_
  refine mv_icmp 74 rfl rfl (fun c => ?_) (fun c => ?_)
  · have F := F.1 c
    refine ev_bk 3 (S' := (78, [some (.ref 9), some (vI x1), some (vL x2), none, some (vI x4), some (vI x5), none, none], [vI 2, vI x4, .ref 9], hp S, 0, 0)) rfl ?_
    refine mv_icmp 85 rfl rfl (fun c => ?_) (fun c => ?_)
    · have F := F.1 c
      refine ev_bk 1 (S' := (86, [some (.ref 9), some (vI x1), some (vL x2), none, some (vI x4), some (vI x5), none, none], [vI 4, .ref 9], hp S, 0, 0)) rfl ?_
      exact F
    · have F := F.2 c
      refine ev_bk 1 (S' := (82, [some (.ref 9), some (vI x1), some (vL x2), none, some (vI x4), some (vI x5), none, none], [vI 2, .ref 9], hp S, 0, 0)) rfl ?_
      refine mv_goto 86 rfl rfl ?_
      exact F
  · have F := F.2 c
    refine ev_bk 2 (S' := (60, [some (.ref 9), some (vI x1), some (vL x2), none, some (vI x4), some (vI x5), none, none], [vI 5, vI x1], hp S, 0, 0)) rfl ?_
    refine mv_ishr 32 rfl rfl ?_
    refine ev_bk 1 (S' := (64, [some (.ref 9), some (vI x1), some (vL x2), none, some (vI x4), some (vI x5), none, none], [vI 256, vI (w32 x1 / 32)], hp S, 0, 0)) rfl ?_
    refine mv_imul rfl ?_
    refine ev_bk 1 (S' := (66, [some (.ref 9), some (vI x1), some (vL x2), none, some (vI x4), some (vI x5), none, none], [.ref 9, vI ((w32 x1 / 32) * 256)], hp S, 0, 0)) rfl ?_
    obtain ⟨z3, S1, e2, F⟩ := F
    refine mv_calv (as := []) (rest := [vI ((w32 x1 / 32) * 256)]) e2 (sh_9) rfl rfl rfl ⟨rfl, rfl⟩ rfl rfl rfl rfl rfl ?_
    refine mv_iadd rfl ?_
    refine mv_i2l rfl ?_
    refine mv_goto 89 rfl rfl ?_
    exact F
theorem vc_Copies_openBack_86 {q : Nat × (Nat → Int32)} {S S' : ms} {r : Option Value} (x1 x2 x4 x5 y0 : Int)
    (F : ∃ (z3 : Int) (S1 : ms), EV q 132 0 [some (.ref 9), some (vI y0), none, none, none] [] S (some (vL z3)) S1 ∧ EV q 160 89 [some (.ref 9), some (vI x1), some (vL x2), none, some (vI x4), some (vI x5), none, none] [vL z3] S1 r S') : EV q 160 86 [some (.ref 9), some (vI x1), some (vL x2), none, some (vI x4), some (vI x5), none, none] [vI y0, .ref 9] S r S' := by
  unfold EV
  obtain ⟨z3, S1, e2, F⟩ := F
  refine mv_calv (as := [vI y0]) (rest := []) e2 (sh_9) rfl rfl rfl ⟨rfl, rfl⟩ rfl rfl rfl rfl rfl ?_
  exact F
theorem vc_Copies_openBack_89 {q : Nat × (Nat → Int32)} {S S' : ms} {r : Option Value} (x1 x2 x4 x5 y0 : Int)
    (F : ((w64 y0 = w64 0) → EV q 160 112 [some (.ref 9), some (vI x1), some (vL x2), none, some (vI x4), some (vI x5), some (vL y0), none] [] S r S') ∧ ((¬ w64 y0 = w64 0) → ∃ (o1 no1 : Nat), S.2.2 9 1 = o1 ∧ isRow o1 no1 ∧ ((w64 y0 ≤ w64 (w32 (S.1 o1 1))) → EV q 160 118 [some (.ref 9), some (vI x1), some (vL x2), none, some (vI x4), some (vI x5), some (vL y0), none] [] S r S') ∧ ((¬ w64 y0 ≤ w64 (w32 (S.1 o1 1))) → EV q 160 112 [some (.ref 9), some (vI x1), some (vL x2), none, some (vI x4), some (vI x5), some (vL y0), none] [] S r S'))) : EV q 160 89 [some (.ref 9), some (vI x1), some (vL x2), none, some (vI x4), some (vI x5), none, none] [vL y0] S r S' := by
  unfold EV
  refine ev_bk 3 (S' := (94, [some (.ref 9), some (vI x1), some (vL x2), none, some (vI x4), some (vI x5), some (vL y0), none], [vL 0, vL y0], hp S, 0, 0)) rfl ?_
  refine mv_lif 112 rfl rfl rfl (fun c => ?_) (fun c => ?_)
  · have F := F.1 c
    exact F
  · have F := F.2 c
    refine ev_bk 2 (S' := (101, [some (.ref 9), some (vI x1), some (vL x2), none, some (vI x4), some (vI x5), some (vL y0), none], [.ref 9, vL y0], hp S, 0, 0)) rfl ?_
    obtain ⟨o1, no1, e3, h2, F⟩ := F
    refine mv_gfV rfl rfl (sh_9) (by decide) rfl e3 ?_
    refine mv_gfI rfl rfl (h2.1) (by decide) rfl ?_
    refine mv_i2l rfl ?_
    refine mv_lif 118 rfl rfl rfl (fun c => ?_) (fun c => ?_)
    · have F := F.1 c
      exact F
    · have F := F.2 c
      exact F
theorem vc_Copies_openBack_112 {q : Nat × (Nat → Int32)} {S S' : ms} {r : Option Value} (x1 x2 x4 x5 x6 : Int)
    (F : ∃ (S1 : ms), EV q 124 0 [some (.ref 9), some (vI 52)] [] S none S1 ∧ EV q 160 118 [some (.ref 9), some (vI x1), some (vL x2), none, some (vI x4), some (vI x5), some (vL x6), none] [] S1 r S') : EV q 160 112 [some (.ref 9), some (vI x1), some (vL x2), none, some (vI x4), some (vI x5), some (vL x6), none] [] S r S' := by
  unfold EV
  refine ev_bk 2 (S' := (115, [some (.ref 9), some (vI x1), some (vL x2), none, some (vI x4), some (vI x5), some (vL x6), none], [vI 52, .ref 9], hp S, 0, 0)) rfl ?_
  obtain ⟨S1, e2, F⟩ := F
  refine mv_calv (as := [vI 52]) (rest := []) e2 (sh_9) rfl rfl rfl ⟨rfl, rfl⟩ rfl rfl rfl rfl rfl ?_
  exact F
theorem vc_Copies_openBack_118 {q : Nat × (Nat → Int32)} {S S' : ms} {r : Option Value} (x1 x2 x4 x5 x6 : Int)
    (F : ∃ (S1 : ms), EV q 128 0 [some (.ref 9), some (vL x6), none, some (vL (w32 x5)), none, none, none] [] S none S1 ∧ r = none ∧ S' = S1) : EV q 160 118 [some (.ref 9), some (vI x1), some (vL x2), none, some (vI x4), some (vI x5), some (vL x6), none] [] S r S' := by
  unfold EV
  refine ev_bk 3 (S' := (123, [some (.ref 9), some (vI x1), some (vL x2), none, some (vI x4), some (vI x5), some (vL x6), none], [vI x5, vL x6, .ref 9], hp S, 0, 0)) rfl ?_
  refine mv_i2l rfl ?_
  obtain ⟨S1, e2, F⟩ := F
  refine mv_calv (as := [vL x6, vL (w32 x5)]) (rest := []) e2 (sh_9) rfl rfl rfl ⟨rfl, rfl⟩ rfl rfl rfl rfl rfl ?_
  obtain ⟨rfl, rfl⟩ := F
  exact ev_ret rfl rfl
theorem vc_Copies_packDelta {q : Nat × (Nat → Int32)} {S S' : ms} {r : Option Value} (a1 na1 : Nat) (ha1 : isRow a1 na1) (a2 na2 : Nat) (ha2 : isRow a2 na2) (a3 na3 : Nat) (ha3 : isRow a3 na3)
    (F : ∃ (S1 : ms), EV q 89 0 [some (.ref a3), some (vI (S.1 a2 1)), none, none] [] S none S1 ∧ ∃ (z5 : Int) (S3 : ms), EV q 28 0 [some (.ref (a1 + 1)), some (vI 0), some (vI (S1.1 a1 1)), none, none] [] S1 (some (vI z5)) S3 ∧ ∃ (S6 : ms), EV q 57 0 [some (.ref a3), some (vL (w32 z5)), none, some (vI 4), none] [] S3 none S6 ∧ ∃ (S8 : ms), EV q 216 0 [some (.ref 10), some (.ref a1), none, none] [] S6 none S8 ∧ EV q 215 43 [some (.ref 29), some (.ref a1), some (.ref a2), some (.ref a3), some (vI 0), some (vI 0), some (vI 0), none] [] S8 r S') : EV q 215 0 [some (.ref 29), some (.ref a1), some (.ref a2), some (.ref a3), none, none, none, none] [] S r S' := by
  unfold EV
  refine ev_bk 2 (S' := (2, [some (.ref 29), some (.ref a1), some (.ref a2), some (.ref a3), none, none, none, none], [.ref a2, .ref a3], hp S, 0, 0)) rfl ?_
  refine mv_gfI rfl rfl (ha2.1) (by decide) rfl ?_
  obtain ⟨S1, e2, F⟩ := F
  refine mv_calv (as := [vI (S.1 a2 1)]) (rest := []) e2 (ha3.1) rfl rfl rfl ⟨rfl, rfl⟩ rfl rfl rfl rfl rfl ?_
  refine ev_bk 2 (S' := (10, [some (.ref 29), some (.ref a1), some (.ref a2), some (.ref a3), none, none, none, none], [.ref a1, .ref a3], hp S1, 0, 0)) rfl ?_
  refine mv_gfR rfl rfl (ha1.1) (by decide) rfl ?_
  refine ev_bk 2 (S' := (15, [some (.ref 29), some (.ref a1), some (.ref a2), some (.ref a3), none, none, none, none], [.ref a1, vI 0, .ref (a1 + 1), .ref a3], hp S1, 0, 0)) rfl ?_
  refine mv_gfI rfl rfl (ha1.1) (by decide) rfl ?_
  obtain ⟨z5, S3, e4, F⟩ := F
  refine mv_cals (as := [.ref (a1 + 1), vI 0, vI (S1.1 a1 1)]) (rest := [.ref a3]) e4 rfl rfl rfl ⟨rfl, rfl, rfl⟩ rfl rfl rfl rfl ?_
  refine mv_i2l rfl ?_
  refine ev_bk 1 (S' := (23, [some (.ref 29), some (.ref a1), some (.ref a2), some (.ref a3), none, none, none, none], [vI 4, vL (w32 z5), .ref a3], hp S3, 0, 0)) rfl ?_
  obtain ⟨S6, e7, F⟩ := F
  refine mv_calv (as := [vL (w32 z5), vI 4]) (rest := []) e7 (ha3.1) rfl rfl rfl ⟨rfl, rfl⟩ rfl rfl rfl rfl rfl ?_
  refine ev_bk 1 (S' := (27, [some (.ref 29), some (.ref a1), some (.ref a2), some (.ref a3), none, none, none, none], [.ref 29], hp S6, 0, 0)) rfl ?_
  refine mv_gfR rfl rfl (sh_29) (by decide) rfl ?_
  refine ev_bk 1 (S' := (31, [some (.ref 29), some (.ref a1), some (.ref a2), some (.ref a3), none, none, none, none], [.ref a1, .ref 10], hp S6, 0, 0)) rfl ?_
  obtain ⟨S8, e9, F⟩ := F
  refine mv_calv (as := [.ref a1]) (rest := []) e9 (sh_10) rfl rfl rfl ⟨rfl, rfl⟩ rfl rfl rfl rfl rfl ?_
  refine ev_bk 6 (S' := (43, [some (.ref 29), some (.ref a1), some (.ref a2), some (.ref a3), some (vI 0), some (vI 0), some (vI 0), none], [], hp S8, 0, 0)) rfl ?_
  exact F
theorem vc_Copies_packDelta_43 {q : Nat × (Nat → Int32)} {S S' : ms} {r : Option Value} (x4 x5 x6 : Int) (a1 na1 : Nat) (ha1 : isRow a1 na1) (a2 na2 : Nat) (ha2 : isRow a2 na2) (a3 na3 : Nat) (ha3 : isRow a3 na3)
    (F : ((w32 (S.1 a2 1) ≤ w32 x6) → EV q 215 153 [some (.ref 29), some (.ref a1), some (.ref a2), some (.ref a3), some (vI x4), some (vI x5), some (vI x6), none] [] S r S') ∧ ((¬ w32 (S.1 a2 1) ≤ w32 x6) → ((w32 (S.1 a2 1) ≤ w32 x5) → EV q 215 153 [some (.ref 29), some (.ref a1), some (.ref a2), some (.ref a3), some (vI x4), some (vI x5), some (vI x6), none] [] S r S') ∧ ((¬ w32 (S.1 a2 1) ≤ w32 x5) → ∃ (z3 : Int) (S1 : ms), EV q 218 0 [some (.ref 10), some (.ref a2), some (vI x5), none, none, none, none, none, none] [] S (some (vI z3)) S1 ∧ ((0 < w32 z3) → EV q 215 89 [some (.ref 29), some (.ref a1), some (.ref a2), some (.ref a3), some (vI x4), some (vI x5), some (vI x6), some (vI z3)] [] S1 r S') ∧ ((¬ 0 < w32 z3) → ((¬ w32 (x5 - x4) = 200) → EV q 215 102 [some (.ref 29), some (.ref a1), some (.ref a2), some (.ref a3), some (vI x4), some (vI x5), some (vI x6), some (vI z3)] [] S1 r S') ∧ ((¬ (¬ w32 (x5 - x4) = 200)) → EV q 215 89 [some (.ref 29), some (.ref a1), some (.ref a2), some (.ref a3), some (vI x4), some (vI x5), some (vI x6), some (vI z3)] [] S1 r S'))))) : EV q 215 43 [some (.ref 29), some (.ref a1), some (.ref a2), some (.ref a3), some (vI x4), some (vI x5), some (vI x6), none] [] S r S' := by
  unfold EV
  refine ev_bk 2 (S' := (46, [some (.ref 29), some (.ref a1), some (.ref a2), some (.ref a3), some (vI x4), some (vI x5), some (vI x6), none], [.ref a2, vI x6], hp S, 0, 0)) rfl ?_
  refine mv_gfI rfl rfl (ha2.1) (by decide) rfl ?_
  refine mv_icmp 153 rfl rfl (fun c => ?_) (fun c => ?_)
  · have F := F.1 c
    exact F
  · have F := F.2 c
    refine ev_bk 2 (S' := (55, [some (.ref 29), some (.ref a1), some (.ref a2), some (.ref a3), some (vI x4), some (vI x5), some (vI x6), none], [.ref a2, vI x5], hp S, 0, 0)) rfl ?_
    refine mv_gfI rfl rfl (ha2.1) (by decide) rfl ?_
    refine mv_icmp 153 rfl rfl (fun c => ?_) (fun c => ?_)
    · have F := F.1 c
      exact F
    · have F := F.2 c
      refine ev_bk 1 (S' := (62, [some (.ref 29), some (.ref a1), some (.ref a2), some (.ref a3), some (vI x4), some (vI x5), some (vI x6), none], [.ref 29], hp S, 0, 0)) rfl ?_
      refine mv_gfR rfl rfl (sh_29) (by decide) rfl ?_
      refine ev_bk 2 (S' := (68, [some (.ref 29), some (.ref a1), some (.ref a2), some (.ref a3), some (vI x4), some (vI x5), some (vI x6), none], [vI x5, .ref a2, .ref 10], hp S, 0, 0)) rfl ?_
      obtain ⟨z3, S1, e2, F⟩ := F
      refine mv_calv (as := [.ref a2, vI x5]) (rest := []) e2 (sh_10) rfl rfl rfl ⟨rfl, rfl⟩ rfl rfl rfl rfl rfl ?_
      refine ev_bk 2 (S' := (75, [some (.ref 29), some (.ref a1), some (.ref a2), some (.ref a3), some (vI x4), some (vI x5), some (vI x6), some (vI z3)], [vI z3], hp S1, 0, 0)) rfl ?_
      refine mv_if 89 rfl rfl (fun c => ?_) (fun c => ?_)
      · have F := F.1 c
        exact F
      · have F := F.2 c
        refine ev_bk 2 (S' := (82, [some (.ref 29), some (.ref a1), some (.ref a2), some (.ref a3), some (vI x4), some (vI x5), some (vI x6), some (vI z3)], [vI x4, vI x5], hp S1, 0, 0)) rfl ?_
        refine mv_isub rfl ?_
        refine ev_bk 1 (S' := (86, [some (.ref 29), some (.ref a1), some (.ref a2), some (.ref a3), some (vI x4), some (vI x5), some (vI x6), some (vI z3)], [vI 200, vI (x5 - x4)], hp S1, 0, 0)) rfl ?_
        refine mv_icmp 102 rfl rfl (fun c => ?_) (fun c => ?_)
        · have F := F.1 c
          exact F
        · have F := F.2 c
          exact F
theorem vc_Copies_packDelta_89 {q : Nat × (Nat → Int32)} {S S' : ms} {r : Option Value} (x4 x5 x6 x7 : Int) (a1 na1 : Nat) (ha1 : isRow a1 na1) (a2 na2 : Nat) (ha2 : isRow a2 na2) (a3 na3 : Nat) (ha3 : isRow a3 na3)
    (F : ∃ (S1 : ms), EV q 219 0 [some (.ref a2), some (vI x4), some (vI x5), some (.ref a3)] [] S none S1 ∧ EV q 215 102 [some (.ref 29), some (.ref a1), some (.ref a2), some (.ref a3), some (vI x5), some (vI x5), some (vI x6), some (vI x7)] [] S1 r S') : EV q 215 89 [some (.ref 29), some (.ref a1), some (.ref a2), some (.ref a3), some (vI x4), some (vI x5), some (vI x6), some (vI x7)] [] S r S' := by
  unfold EV
  refine ev_bk 4 (S' := (95, [some (.ref 29), some (.ref a1), some (.ref a2), some (.ref a3), some (vI x4), some (vI x5), some (vI x6), some (vI x7)], [.ref a3, vI x5, vI x4, .ref a2], hp S, 0, 0)) rfl ?_
  obtain ⟨S1, e2, F⟩ := F
  refine mv_cals (as := [.ref a2, vI x4, vI x5, .ref a3]) (rest := []) e2 rfl rfl rfl ⟨rfl, rfl, rfl⟩ rfl rfl rfl rfl ?_
  refine ev_bk 2 (S' := (102, [some (.ref 29), some (.ref a1), some (.ref a2), some (.ref a3), some (vI x5), some (vI x5), some (vI x6), some (vI x7)], [], hp S1, 0, 0)) rfl ?_
  exact F
theorem vc_Copies_packDelta_102 {q : Nat × (Nat → Int32)} {S S' : ms} {r : Option Value} (x4 x5 x6 x7 : Int) (a1 na1 : Nat) (ha1 : isRow a1 na1) (a2 na2 : Nat) (ha2 : isRow a2 na2) (a3 na3 : Nat) (ha3 : isRow a3 na3)
    (F : ((w32 x7 ≤ 0) → EV q 215 136 [some (.ref 29), some (.ref a1), some (.ref a2), some (.ref a3), some (vI x4), some (vI x5), some (vI x6), some (vI x7)] [] S r S') ∧ ((¬ w32 x7 ≤ 0) → ∃ (S1 : ms), EV q 19 0 [some (.ref a3), some (vI 1)] [] S none S1 ∧ ∃ (S3 : ms), EV q 89 0 [some (.ref a3), some (vI x7), none, none] [] S1 none S3 ∧ ∃ (S5 : ms), EV q 89 0 [some (.ref a3), some (vI (S3.1 10 4)), none, none] [] S3 none S5 ∧ EV q 215 136 [some (.ref 29), some (.ref a1), some (.ref a2), some (.ref a3), some (vI (x5 + x7)), some (vI x5), some (vI x6), some (vI x7)] [] S5 r S')) : EV q 215 102 [some (.ref 29), some (.ref a1), some (.ref a2), some (.ref a3), some (vI x4), some (vI x5), some (vI x6), some (vI x7)] [] S r S' := by
  unfold EV
  refine ev_bk 1 (S' := (104, [some (.ref 29), some (.ref a1), some (.ref a2), some (.ref a3), some (vI x4), some (vI x5), some (vI x6), some (vI x7)], [vI x7], hp S, 0, 0)) rfl ?_
  refine mv_if 136 rfl rfl (fun c => ?_) (fun c => ?_)
  · have F := F.1 c
    exact F
  · have F := F.2 c
    refine ev_bk 2 (S' := (109, [some (.ref 29), some (.ref a1), some (.ref a2), some (.ref a3), some (vI x4), some (vI x5), some (vI x6), some (vI x7)], [vI 1, .ref a3], hp S, 0, 0)) rfl ?_
    obtain ⟨S1, e2, F⟩ := F
    refine mv_calv (as := [vI 1]) (rest := []) e2 (ha3.1) rfl rfl rfl ⟨rfl, rfl⟩ rfl rfl rfl rfl rfl ?_
    refine ev_bk 2 (S' := (115, [some (.ref 29), some (.ref a1), some (.ref a2), some (.ref a3), some (vI x4), some (vI x5), some (vI x6), some (vI x7)], [vI x7, .ref a3], hp S1, 0, 0)) rfl ?_
    obtain ⟨S3, e4, F⟩ := F
    refine mv_calv (as := [vI x7]) (rest := []) e4 (ha3.1) rfl rfl rfl ⟨rfl, rfl⟩ rfl rfl rfl rfl rfl ?_
    refine ev_bk 2 (S' := (120, [some (.ref 29), some (.ref a1), some (.ref a2), some (.ref a3), some (vI x4), some (vI x5), some (vI x6), some (vI x7)], [.ref 29, .ref a3], hp S3, 0, 0)) rfl ?_
    refine mv_gfR rfl rfl (sh_29) (by decide) rfl ?_
    refine mv_gfI rfl rfl (sh_10) (by decide) rfl ?_
    obtain ⟨S5, e6, F⟩ := F
    refine mv_calv (as := [vI (S3.1 10 4)]) (rest := []) e6 (ha3.1) rfl rfl rfl ⟨rfl, rfl⟩ rfl rfl rfl rfl rfl ?_
    refine ev_bk 2 (S' := (133, [some (.ref 29), some (.ref a1), some (.ref a2), some (.ref a3), some (vI x4), some (vI x5), some (vI x6), some (vI x7)], [vI x7, vI x5], hp S5, 0, 0)) rfl ?_
    refine mv_iadd rfl ?_
    refine ev_bk 1 (S' := (136, [some (.ref 29), some (.ref a1), some (.ref a2), some (.ref a3), some (vI (x5 + x7)), some (vI x5), some (vI x6), some (vI x7)], [], hp S5, 0, 0)) rfl ?_
    exact F
theorem vc_Copies_packDelta_136 {q : Nat × (Nat → Int32)} {S S' : ms} {r : Option Value} (x4 x5 x6 x7 : Int) (a1 na1 : Nat) (ha1 : isRow a1 na1) (a2 na2 : Nat) (ha2 : isRow a2 na2) (a3 na3 : Nat) (ha3 : isRow a3 na3)
    (F : EV q 215 43 [some (.ref 29), some (.ref a1), some (.ref a2), some (.ref a3), some (vI x4), some (vI (x5 + (max (w32 1) (w32 x7)))), some (vI (x6 + 1)), none] [] S r S') : EV q 215 136 [some (.ref 29), some (.ref a1), some (.ref a2), some (.ref a3), some (vI x4), some (vI x5), some (vI x6), some (vI x7)] [] S r S' := by
  unfold EV
  refine ev_bk 3 (S' := (141, [some (.ref 29), some (.ref a1), some (.ref a2), some (.ref a3), some (vI x4), some (vI x5), some (vI x6), some (vI x7)], [vI x7, vI 1, vI x5], hp S, 0, 0)) rfl ?_
  refine mv_max rfl rfl rfl ?_
  refine mv_iadd rfl ?_
  refine ev_bk 1 (S' := (147, [some (.ref 29), some (.ref a1), some (.ref a2), some (.ref a3), some (vI x4), some (vI (x5 + (max (w32 1) (w32 x7)))), some (vI x6), some (vI x7)], [], hp S, 0, 0)) rfl ?_
  refine mv_inc (lv' := [some (.ref 29), some (.ref a1), some (.ref a2), some (.ref a3), some (vI x4), some (vI (x5 + (max (w32 1) (w32 x7)))), some (vI (x6 + 1)), some (vI x7)]) 6 1 rfl rfl rfl rfl ?_
  refine mv_goto 43 rfl rfl ?_
  exact ev_wk (le_s (le_s (le_s (le_s (le_s (le_s (le_s (le_n le_0)))))))) F
theorem vc_Copies_packDelta_153 {q : Nat × (Nat → Int32)} {S S' : ms} {r : Option Value} (x4 x5 x6 : Int) (a1 na1 : Nat) (ha1 : isRow a1 na1) (a2 na2 : Nat) (ha2 : isRow a2 na2) (a3 na3 : Nat) (ha3 : isRow a3 na3)
    (F : ∃ (S1 : ms), EV q 219 0 [some (.ref a2), some (vI x4), some (vI (S.1 a2 1)), some (.ref a3)] [] S none S1 ∧ r = none ∧ S' = S1) : EV q 215 153 [some (.ref 29), some (.ref a1), some (.ref a2), some (.ref a3), some (vI x4), some (vI x5), some (vI x6), none] [] S r S' := by
  unfold EV
  refine ev_bk 3 (S' := (157, [some (.ref 29), some (.ref a1), some (.ref a2), some (.ref a3), some (vI x4), some (vI x5), some (vI x6), none], [.ref a2, vI x4, .ref a2], hp S, 0, 0)) rfl ?_
  refine mv_gfI rfl rfl (ha2.1) (by decide) rfl ?_
  refine ev_bk 1 (S' := (161, [some (.ref 29), some (.ref a1), some (.ref a2), some (.ref a3), some (vI x4), some (vI x5), some (vI x6), none], [.ref a3, vI (S.1 a2 1), vI x4, .ref a2], hp S, 0, 0)) rfl ?_
  obtain ⟨S1, e2, F⟩ := F
  refine mv_cals (as := [.ref a2, vI x4, vI (S.1 a2 1), .ref a3]) (rest := []) e2 rfl rfl rfl ⟨rfl, rfl, rfl⟩ rfl rfl rfl rfl ?_
  obtain ⟨rfl, rfl⟩ := F
  exact ev_ret rfl rfl
theorem vc_Copies_deltaLiterals {q : Nat × (Nat → Int32)} {S S' : ms} {r : Option Value} (x1 x2 : Int) (a0 na0 : Nat) (ha0 : isRow a0 na0) (a3 na3 : Nat) (ha3 : isRow a3 na3)
    (F : ((w32 x2 ≤ w32 x1) → r = none ∧ S' = S) ∧ ((¬ w32 x2 ≤ w32 x1) → ∃ (S1 : ms), EV q 19 0 [some (.ref a3), some (vI 0)] [] S none S1 ∧ ∃ (S3 : ms), EV q 19 0 [some (.ref a3), some (vI (x2 - x1))] [] S1 none S3 ∧ ∃ (S5 : ms), EV q 38 0 [some (.ref a3), some (.ref (a0 + 1)), some (vI x1), some (vI x2), none] [] S3 none S5 ∧ r = none ∧ S' = S5)) : EV q 219 0 [some (.ref a0), some (vI x1), some (vI x2), some (.ref a3)] [] S r S' := by
  unfold EV
  refine ev_bk 2 (S' := (2, [some (.ref a0), some (vI x1), some (vI x2), some (.ref a3)], [vI x1, vI x2], hp S, 0, 0)) rfl ?_
  refine mv_icmp 27 rfl rfl (fun c => ?_) (fun c => ?_)
  · have F := F.1 c
    obtain ⟨rfl, rfl⟩ := F
    exact ev_ret rfl rfl
  · have F := F.2 c
    refine ev_bk 2 (S' := (7, [some (.ref a0), some (vI x1), some (vI x2), some (.ref a3)], [vI 0, .ref a3], hp S, 0, 0)) rfl ?_
    obtain ⟨S1, e2, F⟩ := F
    refine mv_calv (as := [vI 0]) (rest := []) e2 (ha3.1) rfl rfl rfl ⟨rfl, rfl⟩ rfl rfl rfl rfl rfl ?_
    refine ev_bk 3 (S' := (13, [some (.ref a0), some (vI x1), some (vI x2), some (.ref a3)], [vI x1, vI x2, .ref a3], hp S1, 0, 0)) rfl ?_
    refine mv_isub rfl ?_
    obtain ⟨S3, e4, F⟩ := F
    refine mv_calv (as := [vI (x2 - x1)]) (rest := []) e4 (ha3.1) rfl rfl rfl ⟨rfl, rfl⟩ rfl rfl rfl rfl rfl ?_
    refine ev_bk 2 (S' := (19, [some (.ref a0), some (vI x1), some (vI x2), some (.ref a3)], [.ref a0, .ref a3], hp S3, 0, 0)) rfl ?_
    refine mv_gfR rfl rfl (ha0.1) (by decide) rfl ?_
    refine ev_bk 2 (S' := (24, [some (.ref a0), some (vI x1), some (vI x2), some (.ref a3)], [vI x2, vI x1, .ref (a0 + 1), .ref a3], hp S3, 0, 0)) rfl ?_
    obtain ⟨S5, e6, F⟩ := F
    refine mv_calv (as := [.ref (a0 + 1), vI x1, vI x2]) (rest := []) e6 (ha3.1) rfl rfl rfl ⟨rfl, rfl⟩ rfl rfl rfl rfl rfl ?_
    obtain ⟨rfl, rfl⟩ := F
    exact ev_ret rfl rfl
theorem vc_Copies_openDelta {q : Nat × (Nat → Int32)} {S S' : ms} {r : Option Value} (a2 na2 : Nat) (ha2 : isRow a2 na2)
    (F : ∃ (z3 : Int) (S1 : ms), EV q 158 0 [some (.ref 9), none, none, none, none] [] S (some (vL z3)) S1 ∧ ((w64 z3 ≤ w64 12000) → EV q 221 19 [some (.ref 29), some (.ref 9), some (.ref a2), some (vL z3), none, none, none, none, none, none, none] [] S1 r S') ∧ ((¬ w64 z3 ≤ w64 12000) → ∃ (S4 : ms), EV q 124 0 [some (.ref 9), some (vI 13)] [] S1 none S4 ∧ EV q 221 19 [some (.ref 29), some (.ref 9), some (.ref a2), some (vL z3), none, none, none, none, none, none, none] [] S4 r S')) : EV q 221 0 [some (.ref 29), some (.ref 9), some (.ref a2), none, none, none, none, none, none, none, none] [] S r S' := by
  unfold EV
  refine ev_bk 1 (S' := (1, [some (.ref 29), some (.ref 9), some (.ref a2), none, none, none, none, none, none, none, none], [.ref 9], hp S, 0, 0)) rfl ?_
  obtain ⟨z3, S1, e2, F⟩ := F
  refine mv_calv (as := []) (rest := []) e2 (sh_9) rfl rfl rfl ⟨rfl, rfl⟩ rfl rfl rfl rfl rfl ?_
  refine ev_bk 3 (S' := (9, [some (.ref 29), some (.ref 9), some (.ref a2), some (vL z3), none, none, none, none, none, none, none], [vL 12000, vL z3], hp S1, 0, 0)) rfl ?_
  refine mv_lif 19 rfl rfl rfl (fun c => ?_) (fun c => ?_)
  · have F := F.1 c
    exact F
  · have F := F.2 c
    refine ev_bk 2 (S' := (16, [some (.ref 29), some (.ref 9), some (.ref a2), some (vL z3), none, none, none, none, none, none, none], [vI 13, .ref 9], hp S1, 0, 0)) rfl ?_
    obtain ⟨S4, e5, F⟩ := F
    refine mv_calv (as := [vI 13]) (rest := []) e5 (sh_9) rfl rfl rfl ⟨rfl, rfl⟩ rfl rfl rfl rfl rfl ?_
    exact F
theorem vc_Copies_openDelta_19 {q : Nat × (Nat → Int32)} {S S' : ms} {r : Option Value} (x3 : Int) (a2 na2 : Nat) (ha2 : isRow a2 na2)
    (F : ∃ (z3 : Int) (S1 : ms), EV q 132 0 [some (.ref 9), some (vI 4), none, none, none] [] S (some (vL z3)) S1 ∧ ∃ (z6 : Int) (S4 : ms), EV q 28 0 [some (.ref (a2 + 1)), some (vI 0), some (vI (S1.1 a2 1)), none, none] [] S1 (some (vI z6)) S4 ∧ ((w64 z3 = w64 ((w32 z6) % 4294967296)) → EV q 221 56 [some (.ref 29), some (.ref 9), some (.ref a2), some (vL x3), none, some (vL z3), none, none, none, none, none] [] S4 r S') ∧ ((¬ w64 z3 = w64 ((w32 z6) % 4294967296)) → ∃ (S7 : ms), EV q 124 0 [some (.ref 9), some (vI 131)] [] S4 none S7 ∧ EV q 221 56 [some (.ref 29), some (.ref 9), some (.ref a2), some (vL x3), none, some (vL z3), none, none, none, none, none] [] S7 r S')) : EV q 221 19 [some (.ref 29), some (.ref 9), some (.ref a2), some (vL x3), none, none, none, none, none, none, none] [] S r S' := by
  unfold EV
  refine ev_bk 2 (S' := (21, [some (.ref 29), some (.ref 9), some (.ref a2), some (vL x3), none, none, none, none, none, none, none], [vI 4, .ref 9], hp S, 0, 0)) rfl ?_
  obtain ⟨z3, S1, e2, F⟩ := F
  refine mv_calv (as := [vI 4]) (rest := []) e2 (sh_9) rfl rfl rfl ⟨rfl, rfl⟩ rfl rfl rfl rfl rfl ?_
  refine ev_bk 3 (S' := (29, [some (.ref 29), some (.ref 9), some (.ref a2), some (vL x3), none, some (vL z3), none, none, none, none, none], [.ref a2, vL z3], hp S1, 0, 0)) rfl ?_
  refine mv_gfR rfl rfl (ha2.1) (by decide) rfl ?_
  refine ev_bk 2 (S' := (34, [some (.ref 29), some (.ref 9), some (.ref a2), some (vL x3), none, some (vL z3), none, none, none, none, none], [.ref a2, vI 0, .ref (a2 + 1), vL z3], hp S1, 0, 0)) rfl ?_
  refine mv_gfI rfl rfl (ha2.1) (by decide) rfl ?_
  obtain ⟨z6, S4, e5, F⟩ := F
  refine mv_cals (as := [.ref (a2 + 1), vI 0, vI (S1.1 a2 1)]) (rest := [vL z3]) e5 rfl rfl rfl ⟨rfl, rfl, rfl⟩ rfl rfl rfl rfl ?_
  refine mv_i2l rfl ?_
  refine ev_bk 1 (S' := (44, [some (.ref 29), some (.ref 9), some (.ref a2), some (vL x3), none, some (vL z3), none, none, none, none, none], [vL 4294967295, vL (w32 z6), vL z3], hp S4, 0, 0)) rfl ?_
  refine mv_landm 4294967296 32 (by decide) rfl rfl rfl ?_
  refine mv_lif 56 rfl rfl rfl (fun c => ?_) (fun c => ?_)
  · have F := F.1 c
    exact F
  · have F := F.2 c
    refine ev_bk 2 (S' := (53, [some (.ref 29), some (.ref 9), some (.ref a2), some (vL x3), none, some (vL z3), none, none, none, none, none], [vI 131, .ref 9], hp S4, 0, 0)) rfl ?_
    obtain ⟨S7, e8, F⟩ := F
    refine mv_calv (as := [vI 131]) (rest := []) e8 (sh_9) rfl rfl rfl ⟨rfl, rfl⟩ rfl rfl rfl rfl rfl ?_
    exact F
theorem vc_Copies_openDelta_56 {q : Nat × (Nat → Int32)} {S S' : ms} {r : Option Value} (x3 x5 : Int) (a2 na2 : Nat) (ha2 : isRow a2 na2)
    (F : EV q 221 59 [some (.ref 29), some (.ref 9), some (.ref a2), some (vL x3), none, some (vL x5), none, some (vI 0), none, none, none] [] S r S') : EV q 221 56 [some (.ref 29), some (.ref 9), some (.ref a2), some (vL x3), none, some (vL x5), none, none, none, none, none] [] S r S' := by
  unfold EV
  refine ev_bk 2 (S' := (59, [some (.ref 29), some (.ref 9), some (.ref a2), some (vL x3), none, some (vL x5), none, some (vI 0), none, none, none], [], hp S, 0, 0)) rfl ?_
  exact F
theorem vc_Copies_openDelta_59 {q : Nat × (Nat → Int32)} {S S' : ms} {r : Option Value} (x3 x5 x7 : Int) (a2 na2 : Nat) (ha2 : isRow a2 na2)
    (F : ((1000000 ≤ w32 x7) → EV q 221 186 [some (.ref 29), some (.ref 9), some (.ref a2), some (vL x3), none, some (vL x5), none, some (vI x7), none, none, none] [] S r S') ∧ ((¬ 1000000 ≤ w32 x7) → ((¬ w32 (S.1 9 5) = 0) → EV q 221 186 [some (.ref 29), some (.ref 9), some (.ref a2), some (vL x3), none, some (vL x5), none, some (vI x7), none, none, none] [] S r S') ∧ ((¬ (¬ w32 (S.1 9 5) = 0)) → ((w32 (S.1 9 2) ≤ w32 (S.1 9 3)) → EV q 221 186 [some (.ref 29), some (.ref 9), some (.ref a2), some (vL x3), none, some (vL x5), none, some (vI x7), none, none, none] [] S r S') ∧ ((¬ w32 (S.1 9 2) ≤ w32 (S.1 9 3)) → ∃ (z3 : Int) (S1 : ms), EV q 118 0 [some (.ref 9)] [] S (some (vI z3)) S1 ∧ ((w32 z3 ≤ 1) → EV q 221 103 [some (.ref 29), some (.ref 9), some (.ref a2), some (vL x3), none, some (vL x5), none, some (vI x7), some (vI z3), none, none] [] S1 r S') ∧ ((¬ w32 z3 ≤ 1) → ∃ (S4 : ms), EV q 124 0 [some (.ref 9), some (vI 132)] [] S1 none S4 ∧ EV q 221 103 [some (.ref 29), some (.ref 9), some (.ref a2), some (vL x3), none, some (vL x5), none, some (vI x7), some (vI z3), none, none] [] S4 r S'))))) : EV q 221 59 [some (.ref 29), some (.ref 9), some (.ref a2), some (vL x3), none, some (vL x5), none, some (vI x7), none, none, none] [] S r S' := by
  unfold EV
  refine ev_bk 2 (S' := (63, [some (.ref 29), some (.ref 9), some (.ref a2), some (vL x3), none, some (vL x5), none, some (vI x7), none, none, none], [vI 1000000, vI x7], hp S, 0, 0)) rfl ?_
  refine mv_icmp 186 rfl rfl (fun c => ?_) (fun c => ?_)
  · have F := F.1 c
    exact F
  · have F := F.2 c
    refine ev_bk 1 (S' := (67, [some (.ref 29), some (.ref 9), some (.ref a2), some (vL x3), none, some (vL x5), none, some (vI x7), none, none, none], [.ref 9], hp S, 0, 0)) rfl ?_
    refine mv_gfI rfl rfl (sh_9) (by decide) rfl ?_
    refine mv_if 186 rfl rfl (fun c => ?_) (fun c => ?_)
    · have F := F.1 c
      exact F
    · have F := F.2 c
      refine ev_bk 1 (S' := (74, [some (.ref 29), some (.ref 9), some (.ref a2), some (vL x3), none, some (vL x5), none, some (vI x7), none, none, none], [.ref 9], hp S, 0, 0)) rfl ?_
      refine mv_gfI rfl rfl (sh_9) (by decide) rfl ?_
      refine ev_bk 1 (S' := (78, [some (.ref 29), some (.ref 9), some (.ref a2), some (vL x3), none, some (vL x5), none, some (vI x7), none, none, none], [.ref 9, vI (S.1 9 3)], hp S, 0, 0)) rfl ?_
      refine mv_gfI rfl rfl (sh_9) (by decide) rfl ?_
      refine mv_icmp 186 rfl rfl (fun c => ?_) (fun c => ?_)
      · have F := F.1 c
        exact F
      · have F := F.2 c
        refine ev_bk 1 (S' := (85, [some (.ref 29), some (.ref 9), some (.ref a2), some (vL x3), none, some (vL x5), none, some (vI x7), none, none, none], [.ref 9], hp S, 0, 0)) rfl ?_
        obtain ⟨z3, S1, e2, F⟩ := F
        refine mv_calv (as := []) (rest := []) e2 (sh_9) rfl rfl rfl ⟨rfl, rfl⟩ rfl rfl rfl rfl rfl ?_
        refine ev_bk 3 (S' := (93, [some (.ref 29), some (.ref 9), some (.ref a2), some (vL x3), none, some (vL x5), none, some (vI x7), some (vI z3), none, none], [vI 1, vI z3], hp S1, 0, 0)) rfl ?_
        refine mv_icmp 103 rfl rfl (fun c => ?_) (fun c => ?_)
        · have F := F.1 c
          exact F
        · have F := F.2 c
          refine ev_bk 2 (S' := (100, [some (.ref 29), some (.ref 9), some (.ref a2), some (vL x3), none, some (vL x5), none, some (vI x7), some (vI z3), none, none], [vI 132, .ref 9], hp S1, 0, 0)) rfl ?_
          obtain ⟨S4, e5, F⟩ := F
          refine mv_calv (as := [vI 132]) (rest := []) e5 (sh_9) rfl rfl rfl ⟨rfl, rfl⟩ rfl rfl rfl rfl rfl ?_
          exact F
theorem vc_Copies_openDelta_103 {q : Nat × (Nat → Int32)} {S S' : ms} {r : Option Value} (x3 x5 x7 x8 : Int) (a2 na2 : Nat) (ha2 : isRow a2 na2)
    (F : ((¬ w32 x8 = 0) → ∃ (z3 : Int) (S1 : ms), EV q 158 0 [some (.ref 9), none, none, none, none] [] S (some (vL z3)) S1 ∧ EV q 221 120 [some (.ref 29), some (.ref 9), some (.ref a2), some (vL x3), none, some (vL x5), none, some (vI x7), some (vI x8), none, none] [vL z3] S1 r S') ∧ ((¬ (¬ w32 x8 = 0)) → ∃ (z6 : Int) (S4 : ms), EV q 118 0 [some (.ref 9)] [] S (some (vI z6)) S4 ∧ EV q 221 120 [some (.ref 29), some (.ref 9), some (.ref a2), some (vL x3), none, some (vL x5), none, some (vI x7), some (vI x8), none, none] [vL (w32 z6)] S4 r S')) : EV q 221 103 [some (.ref 29), some (.ref 9), some (.ref a2), some (vL x3), none, some (vL x5), none, some (vI x7), some (vI x8), none, none] [] S r S' := by
  unfold EV
  refine ev_bk 1 (S' := (105, [some (.ref 29), some (.ref 9), some (.ref a2), some (vL x3), none, some (vL x5), none, some (vI x7), some (vI x8), none, none], [vI x8], hp S, 0, 0)) rfl ?_
  refine mv_if 116 rfl rfl (fun c => ?_) (fun c => ?_)
  · have F := F.1 c
    refine ev_bk 1 (S' := (117, [some (.ref 29), some (.ref 9), some (.ref a2), some (vL x3), none, some (vL x5), none, some (vI x7), some (vI x8), none, none], [.ref 9], hp S, 0, 0)) rfl ?_
    obtain ⟨z3, S1, e2, F⟩ := F
    refine mv_calv (as := []) (rest := []) e2 (sh_9) rfl rfl rfl ⟨rfl, rfl⟩ rfl rfl rfl rfl rfl ?_
    exact F
  · have F := F.2 c
    refine ev_bk 1 (S' := (109, [some (.ref 29), some (.ref 9), some (.ref a2), some (vL x3), none, some (vL x5), none, some (vI x7), some (vI x8), none, none], [.ref 9], hp S, 0, 0)) rfl ?_
    obtain ⟨z6, S4, e5, F⟩ := F
    refine mv_calv (as := []) (rest := []) e5 (sh_9) rfl rfl rfl ⟨rfl, rfl⟩ rfl rfl rfl rfl rfl ?_
    refine mv_i2l rfl ?_
    refine mv_goto 120 rfl rfl ?_
    exact F
theorem vc_Copies_openDelta_120 {q : Nat × (Nat → Int32)} {S S' : ms} {r : Option Value} (x3 x5 x7 x8 y0 : Int) (a2 na2 : Nat) (ha2 : isRow a2 na2)
    (F : ((¬ w64 y0 = w64 0) → EV q 221 136 [some (.ref 29), some (.ref 9), some (.ref a2), some (vL x3), none, some (vL x5), none, some (vI x7), some (vI x8), some (vL y0), none] [] S r S') ∧ ((¬ (¬ w64 y0 = w64 0)) → ∃ (S1 : ms), EV q 124 0 [some (.ref 9), some (vI 133)] [] S none S1 ∧ EV q 221 136 [some (.ref 29), some (.ref 9), some (.ref a2), some (vL x3), none, some (vL x5), none, some (vI x7), some (vI x8), some (vL y0), none] [] S1 r S')) : EV q 221 120 [some (.ref 29), some (.ref 9), some (.ref a2), some (vL x3), none, some (vL x5), none, some (vI x7), some (vI x8), none, none] [vL y0] S r S' := by
  unfold EV
  refine ev_bk 3 (S' := (125, [some (.ref 29), some (.ref 9), some (.ref a2), some (vL x3), none, some (vL x5), none, some (vI x7), some (vI x8), some (vL y0), none], [vL 0, vL y0], hp S, 0, 0)) rfl ?_
  refine mv_lif 136 rfl rfl rfl (fun c => ?_) (fun c => ?_)
  · have F := F.1 c
    exact F
  · have F := F.2 c
    refine ev_bk 2 (S' := (133, [some (.ref 29), some (.ref 9), some (.ref a2), some (vL x3), none, some (vL x5), none, some (vI x7), some (vI x8), some (vL y0), none], [vI 133, .ref 9], hp S, 0, 0)) rfl ?_
    obtain ⟨S1, e2, F⟩ := F
    refine mv_calv (as := [vI 133]) (rest := []) e2 (sh_9) rfl rfl rfl ⟨rfl, rfl⟩ rfl rfl rfl rfl rfl ?_
    exact F
theorem vc_Copies_openDelta_136 {q : Nat × (Nat → Int32)} {S S' : ms} {r : Option Value} (x3 x5 x7 x8 x9 : Int) (a2 na2 : Nat) (ha2 : isRow a2 na2)
    (F : ∃ (o1 no1 : Nat), S.2.2 9 1 = o1 ∧ isRow o1 no1 ∧ ((w64 x9 ≤ w64 (x3 - (w32 (S.1 o1 1)))) → EV q 221 159 [some (.ref 29), some (.ref 9), some (.ref a2), some (vL x3), none, some (vL x5), none, some (vI x7), some (vI x8), some (vL x9), none] [] S r S') ∧ ((¬ w64 x9 ≤ w64 (x3 - (w32 (S.1 o1 1)))) → ∃ (S4 : ms), EV q 124 0 [some (.ref 9), some (vI 134)] [] S none S4 ∧ EV q 221 159 [some (.ref 29), some (.ref 9), some (.ref a2), some (vL x3), none, some (vL x5), none, some (vI x7), some (vI x8), some (vL x9), none] [] S4 r S')) : EV q 221 136 [some (.ref 29), some (.ref 9), some (.ref a2), some (vL x3), none, some (vL x5), none, some (vI x7), some (vI x8), some (vL x9), none] [] S r S' := by
  unfold EV
  refine ev_bk 3 (S' := (140, [some (.ref 29), some (.ref 9), some (.ref a2), some (vL x3), none, some (vL x5), none, some (vI x7), some (vI x8), some (vL x9), none], [.ref 9, vL x3, vL x9], hp S, 0, 0)) rfl ?_
  obtain ⟨o1, no1, e3, h2, F⟩ := F
  refine mv_gfV rfl rfl (sh_9) (by decide) rfl e3 ?_
  refine mv_gfI rfl rfl (h2.1) (by decide) rfl ?_
  refine mv_i2l rfl ?_
  refine mv_lsub rfl ?_
  refine mv_lif 159 rfl rfl rfl (fun c => ?_) (fun c => ?_)
  · have F := F.1 c
    exact F
  · have F := F.2 c
    refine ev_bk 2 (S' := (156, [some (.ref 29), some (.ref 9), some (.ref a2), some (vL x3), none, some (vL x5), none, some (vI x7), some (vI x8), some (vL x9), none], [vI 134, .ref 9], hp S, 0, 0)) rfl ?_
    obtain ⟨S4, e5, F⟩ := F
    refine mv_calv (as := [vI 134]) (rest := []) e5 (sh_9) rfl rfl rfl ⟨rfl, rfl⟩ rfl rfl rfl rfl rfl ?_
    exact F
theorem vc_Copies_openDelta_159 {q : Nat × (Nat → Int32)} {S S' : ms} {r : Option Value} (x3 x5 x7 x8 x9 : Int) (a2 na2 : Nat) (ha2 : isRow a2 na2)
    (F : ((¬ w32 x8 = 0) → ∃ (S1 : ms), EV q 222 0 [some (.ref 9), some (.ref a2), some (vL x9), none, none, none, none] [] S none S1 ∧ EV q 221 180 [some (.ref 29), some (.ref 9), some (.ref a2), some (vL x3), none, some (vL x5), none, some (vI x7), some (vI x8), some (vL x9), none] [] S1 r S') ∧ ((¬ (¬ w32 x8 = 0)) → ∃ (S3 : ms), EV q 119 0 [some (.ref 9), some (vL x9), none, none, none] [] S none S3 ∧ EV q 221 180 [some (.ref 29), some (.ref 9), some (.ref a2), some (vL x3), none, some (vL x5), none, some (vI x7), some (vI x8), some (vL x9), none] [] S3 r S')) : EV q 221 159 [some (.ref 29), some (.ref 9), some (.ref a2), some (vL x3), none, some (vL x5), none, some (vI x7), some (vI x8), some (vL x9), none] [] S r S' := by
  unfold EV
  refine ev_bk 1 (S' := (161, [some (.ref 29), some (.ref 9), some (.ref a2), some (vL x3), none, some (vL x5), none, some (vI x7), some (vI x8), some (vL x9), none], [vI x8], hp S, 0, 0)) rfl ?_
  refine mv_if 173 rfl rfl (fun c => ?_) (fun c => ?_)
  · have F := F.1 c
    refine ev_bk 3 (S' := (177, [some (.ref 29), some (.ref 9), some (.ref a2), some (vL x3), none, some (vL x5), none, some (vI x7), some (vI x8), some (vL x9), none], [vL x9, .ref a2, .ref 9], hp S, 0, 0)) rfl ?_
    obtain ⟨S1, e2, F⟩ := F
    refine mv_cals (as := [.ref 9, .ref a2, vL x9]) (rest := []) e2 rfl rfl rfl ⟨rfl, rfl, rfl⟩ rfl rfl rfl rfl ?_
    exact F
  · have F := F.2 c
    refine ev_bk 2 (S' := (167, [some (.ref 29), some (.ref 9), some (.ref a2), some (vL x3), none, some (vL x5), none, some (vI x7), some (vI x8), some (vL x9), none], [vL x9, .ref 9], hp S, 0, 0)) rfl ?_
    obtain ⟨S3, e4, F⟩ := F
    refine mv_calv (as := [vL x9]) (rest := []) e4 (sh_9) rfl rfl rfl ⟨rfl, rfl⟩ rfl rfl rfl rfl rfl ?_
    refine mv_goto 180 rfl rfl ?_
    exact F
theorem vc_Copies_openDelta_180 {q : Nat × (Nat → Int32)} {S S' : ms} {r : Option Value} (x3 x5 x7 x8 x9 : Int) (a2 na2 : Nat) (ha2 : isRow a2 na2)
    (F : EV q 221 59 [some (.ref 29), some (.ref 9), some (.ref a2), some (vL x3), none, some (vL x5), none, some (vI (x7 + 1)), none, none, none] [] S r S') : EV q 221 180 [some (.ref 29), some (.ref 9), some (.ref a2), some (vL x3), none, some (vL x5), none, some (vI x7), some (vI x8), some (vL x9), none] [] S r S' := by
  unfold EV
  refine mv_inc (lv' := [some (.ref 29), some (.ref 9), some (.ref a2), some (vL x3), none, some (vL x5), none, some (vI (x7 + 1)), some (vI x8), some (vL x9), none]) 7 1 rfl rfl rfl rfl ?_
  refine mv_goto 59 rfl rfl ?_
  exact ev_wk (le_s (le_s (le_s (le_s (le_s (le_s (le_s (le_s (le_n (le_n (le_s le_0))))))))))) F
theorem vc_Copies_openDelta_186 {q : Nat × (Nat → Int32)} {S S' : ms} {r : Option Value} (x3 x5 x7 : Int) (a2 na2 : Nat) (ha2 : isRow a2 na2)
    (F : ∃ (o1 no1 : Nat), S.2.2 9 1 = o1 ∧ isRow o1 no1 ∧ ((w64 x3 ≤ w64 (w32 (S.1 o1 1))) → r = none ∧ S' = S) ∧ ((¬ w64 x3 ≤ w64 (w32 (S.1 o1 1))) → ∃ (S4 : ms), EV q 126 0 [some (.ref 9), some (vI 135), some (vI (S.1 9 2))] [] S none S4 ∧ r = none ∧ S' = S4)) : EV q 221 186 [some (.ref 29), some (.ref 9), some (.ref a2), some (vL x3), none, some (vL x5), none, some (vI x7), none, none, none] [] S r S' := by
  unfold EV
  refine ev_bk 1 (S' := (187, [some (.ref 29), some (.ref 9), some (.ref a2), some (vL x3), none, some (vL x5), none, some (vI x7), none, none, none], [.ref 9], hp S, 0, 0)) rfl ?_
  obtain ⟨o1, no1, e3, h2, F⟩ := F
  refine mv_gfV rfl rfl (sh_9) (by decide) rfl e3 ?_
  refine mv_gfI rfl rfl (h2.1) (by decide) rfl ?_
  refine mv_i2l rfl ?_
  refine ev_bk 1 (S' := (195, [some (.ref 29), some (.ref 9), some (.ref a2), some (vL x3), none, some (vL x5), none, some (vI x7), none, none, none], [vL x3, vL (w32 (S.1 o1 1))], hp S, 0, 0)) rfl ?_
  refine mv_lif 210 rfl rfl rfl (fun c => ?_) (fun c => ?_)
  · have F := F.1 c
    obtain ⟨rfl, rfl⟩ := F
    exact ev_ret rfl rfl
  · have F := F.2 c
    refine ev_bk 3 (S' := (204, [some (.ref 29), some (.ref 9), some (.ref a2), some (vL x3), none, some (vL x5), none, some (vI x7), none, none, none], [.ref 9, vI 135, .ref 9], hp S, 0, 0)) rfl ?_
    refine mv_gfI rfl rfl (sh_9) (by decide) rfl ?_
    obtain ⟨S4, e5, F⟩ := F
    refine mv_calv (as := [vI 135, vI (S.1 9 2)]) (rest := []) e5 (sh_9) rfl rfl rfl ⟨rfl, rfl⟩ rfl rfl rfl rfl rfl ?_
    obtain ⟨rfl, rfl⟩ := F
    exact ev_ret rfl rfl
theorem vc_Copies_openFromFirst {q : Nat × (Nat → Int32)} {S S' : ms} {r : Option Value} (x2 : Int) (a1 na1 : Nat) (ha1 : isRow a1 na1)
    (F : ∃ (z3 : Int) (S1 : ms), EV q 158 0 [some (.ref 9), none, none, none, none] [] S (some (vL z3)) S1 ∧ ((w64 (x2 + z3) ≤ w64 (w32 (S1.1 a1 1))) → EV q 222 26 [some (.ref 9), some (.ref a1), some (vL x2), none, some (vL z3), none, none] [] S1 r S') ∧ ((¬ w64 (x2 + z3) ≤ w64 (w32 (S1.1 a1 1))) → ∃ (S4 : ms), EV q 124 0 [some (.ref 9), some (vI 133)] [] S1 none S4 ∧ EV q 222 26 [some (.ref 9), some (.ref a1), some (vL x2), none, some (vL z3), none, none] [] S4 r S')) : EV q 222 0 [some (.ref 9), some (.ref a1), some (vL x2), none, none, none, none] [] S r S' := by
  unfold EV
  refine ev_bk 1 (S' := (1, [some (.ref 9), some (.ref a1), some (vL x2), none, none, none, none], [.ref 9], hp S, 0, 0)) rfl ?_
  obtain ⟨z3, S1, e2, F⟩ := F
  refine mv_calv (as := []) (rest := []) e2 (sh_9) rfl rfl rfl ⟨rfl, rfl⟩ rfl rfl rfl rfl rfl ?_
  refine ev_bk 3 (S' := (9, [some (.ref 9), some (.ref a1), some (vL x2), none, some (vL z3), none, none], [vL z3, vL x2], hp S1, 0, 0)) rfl ?_
  refine mv_ladd rfl ?_
  refine ev_bk 1 (S' := (11, [some (.ref 9), some (.ref a1), some (vL x2), none, some (vL z3), none, none], [.ref a1, vL (x2 + z3)], hp S1, 0, 0)) rfl ?_
  refine mv_gfI rfl rfl (ha1.1) (by decide) rfl ?_
  refine mv_i2l rfl ?_
  refine mv_lif 26 rfl rfl rfl (fun c => ?_) (fun c => ?_)
  · have F := F.1 c
    exact F
  · have F := F.2 c
    refine ev_bk 2 (S' := (23, [some (.ref 9), some (.ref a1), some (vL x2), none, some (vL z3), none, none], [vI 133, .ref 9], hp S1, 0, 0)) rfl ?_
    obtain ⟨S4, e5, F⟩ := F
    refine mv_calv (as := [vI 133]) (rest := []) e5 (sh_9) rfl rfl rfl ⟨rfl, rfl⟩ rfl rfl rfl rfl rfl ?_
    exact F
theorem vc_Copies_openFromFirst_26 {q : Nat × (Nat → Int32)} {S S' : ms} {r : Option Value} (x2 x4 : Int) (a1 na1 : Nat) (ha1 : isRow a1 na1)
    (F : EV q 222 29 [some (.ref 9), some (.ref a1), some (vL x2), none, some (vL x4), none, some (vI 0)] [] S r S') : EV q 222 26 [some (.ref 9), some (.ref a1), some (vL x2), none, some (vL x4), none, none] [] S r S' := by
  unfold EV
  refine ev_bk 2 (S' := (29, [some (.ref 9), some (.ref a1), some (vL x2), none, some (vL x4), none, some (vI 0)], [], hp S, 0, 0)) rfl ?_
  exact F
theorem vc_Copies_openFromFirst_29 {q : Nat × (Nat → Int32)} {S S' : ms} {r : Option Value} (x2 x4 x6 : Int) (a1 na1 : Nat) (ha1 : isRow a1 na1)
    (F : ((w64 x2 ≤ w64 (w32 x6)) → r = none ∧ S' = S) ∧ ((¬ w64 x2 ≤ w64 (w32 x6)) → ((¬ w32 (S.1 9 5) = 0) → r = none ∧ S' = S) ∧ ((¬ (¬ w32 (S.1 9 5) = 0)) → (0 ≤ w32 (x4 + x6) ∧ w32 (x4 + x6) < (na1 : Nat)) ∧ ∃ (S2 : ms), EV q 120 0 [some (.ref 9), some (vI (S.1 (a1 + 1) (w32 (x4 + x6))))] [] S none S2 ∧ EV q 222 29 [some (.ref 9), some (.ref a1), some (vL x2), none, some (vL x4), none, some (vI (x6 + 1))] [] S2 r S'))) : EV q 222 29 [some (.ref 9), some (.ref a1), some (vL x2), none, some (vL x4), none, some (vI x6)] [] S r S' := by
  unfold EV
  refine ev_bk 1 (S' := (31, [some (.ref 9), some (.ref a1), some (vL x2), none, some (vL x4), none, some (vI x6)], [vI x6], hp S, 0, 0)) rfl ?_
  refine mv_i2l rfl ?_
  refine ev_bk 1 (S' := (33, [some (.ref 9), some (.ref a1), some (vL x2), none, some (vL x4), none, some (vI x6)], [vL x2, vL (w32 x6)], hp S, 0, 0)) rfl ?_
  refine mv_lif 65 rfl rfl rfl (fun c => ?_) (fun c => ?_)
  · have F := F.1 c
    obtain ⟨rfl, rfl⟩ := F
    exact ev_ret rfl rfl
  · have F := F.2 c
    refine ev_bk 1 (S' := (38, [some (.ref 9), some (.ref a1), some (vL x2), none, some (vL x4), none, some (vI x6)], [.ref 9], hp S, 0, 0)) rfl ?_
    refine mv_gfI rfl rfl (sh_9) (by decide) rfl ?_
    refine mv_if 65 rfl rfl (fun c => ?_) (fun c => ?_)
    · have F := F.1 c
      obtain ⟨rfl, rfl⟩ := F
      exact ev_ret rfl rfl
    · have F := F.2 c
      refine ev_bk 2 (S' := (46, [some (.ref 9), some (.ref a1), some (vL x2), none, some (vL x4), none, some (vI x6)], [.ref a1, .ref 9], hp S, 0, 0)) rfl ?_
      refine mv_gfR rfl rfl (ha1.1) (by decide) rfl ?_
      refine ev_bk 1 (S' := (51, [some (.ref 9), some (.ref a1), some (vL x2), none, some (vL x4), none, some (vI x6)], [vL x4, .ref (a1 + 1), .ref 9], hp S, 0, 0)) rfl ?_
      refine mv_l2i rfl ?_
      refine ev_bk 1 (S' := (54, [some (.ref 9), some (.ref a1), some (vL x2), none, some (vL x4), none, some (vI x6)], [vI x6, vI x4, .ref (a1 + 1), .ref 9], hp S, 0, 0)) rfl ?_
      refine mv_iadd rfl ?_
      obtain ⟨b1, F⟩ := F
      refine mv_ial rfl (ha1.2) b1 ?_
      obtain ⟨S2, e3, F⟩ := F
      refine mv_calv (as := [vI (S.1 (a1 + 1) (w32 (x4 + x6)))]) (rest := []) e3 (sh_9) rfl rfl rfl ⟨rfl, rfl⟩ rfl rfl rfl rfl rfl ?_
      refine mv_inc (lv' := [some (.ref 9), some (.ref a1), some (vL x2), none, some (vL x4), none, some (vI (x6 + 1))]) 6 1 rfl rfl rfl rfl ?_
      refine mv_goto 29 rfl rfl ?_
      exact F
