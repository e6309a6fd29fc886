/-! what is to be shown of each method, by program (wip/gen/vcall.py) -/
theorem vc_Sorted_packSorted {q : Nat × (Nat → Int32)} {S S' : ms} {r : Option Value} (a1 na1 : Nat) (ha1 : isRow a1 na1) (a2 na2 : Nat) (ha2 : isRow a2 na2)
    (F : ∃ (S1 : ms), EV q 18 0 [some (.ref a2), some (vL 1113221169), none, some (vI 4), none] [] S none S1 ∧ EV q 92 13 [some (.ref 94), some (.ref a1), some (.ref a2), some (vI 0), some (vI 0), none, none] [] S1 r S') : EV q 92 0 [some (.ref 94), some (.ref a1), some (.ref a2), none, none, none, none] [] S r S' := by
  unfold EV
  refine ev_bk 3 (S' := (5, [some (.ref 94), some (.ref a1), some (.ref a2), none, none, none, none], [vI 4, vL 1113221169, .ref a2], hp S, 0, 0)) rfl ?_
  obtain ⟨S1, e2, F⟩ := F
  refine mv_calv (as := [vL 1113221169, vI 4]) (rest := []) e2 (ha2.1) rfl rfl rfl ⟨rfl, rfl⟩ rfl rfl rfl rfl rfl ?_
  refine ev_bk 4 (S' := (13, [some (.ref 94), some (.ref a1), some (.ref a2), some (vI 0), some (vI 0), none, none], [], hp S1, 0, 0)) rfl ?_
  exact F
theorem vc_Sorted_packSorted_13 {q : Nat × (Nat → Int32)} {S S' : ms} {r : Option Value} (x3 x4 : Int) (a1 na1 : Nat) (ha1 : isRow a1 na1) (a2 na2 : Nat) (ha2 : isRow a2 na2)
    (F : ((w32 (S.1 a1 1) ≤ w32 x4) → ∃ (S1 : ms), EV q 98 0 [some (.ref a2), some (vL 25779555029136), none, some (vI 48), none, none, none, none] [] S none S1 ∧ ∃ (S3 : ms), EV q 98 0 [some (.ref a2), some (vL (w32 x3)), none, some (vI 32), none, none, none, none] [] S1 none S3 ∧ ∃ (S5 : ms), EV q 53 0 [some (.ref a2)] [] S3 none S5 ∧ r = none ∧ S' = S5) ∧ ((¬ w32 (S.1 a1 1) ≤ w32 x4) → ∃ (z9 : Int) (S7 : ms), EV q 29 0 [some (.ref (a1 + 1)), some (vI x4), some (vI (min (w32 (S.1 a1 1)) (w32 (x4 + 2000)))), none, none] [] S (some (vI z9)) S7 ∧ ∃ (z12 : Int) (S10 : ms), EV q 32 0 [some (vI x3), some (vI 1)] [] S7 (some (vI z12)) S10 ∧ ∃ (S13 : ms), EV q 93 0 [some (.ref 94), some (.ref a1), some (vI x4), some (vI (min (w32 (S.1 a1 1)) (w32 (x4 + 2000)))), none, none, none, none] [] S10 none S13 ∧ ∃ (S15 : ms), EV q 94 0 [some (.ref 94), none, none, none] [] S13 none S15 ∧ ∃ (S17 : ms), EV q 98 0 [some (.ref a2), some (vL 54156738319193), none, some (vI 48), none, none, none, none] [] S15 none S17 ∧ ∃ (S19 : ms), EV q 98 0 [some (.ref a2), some (vL (w32 z9)), none, some (vI 32), none, none, none, none] [] S17 none S19 ∧ ∃ (S21 : ms), EV q 98 0 [some (.ref a2), some (vL 0), none, some (vI 1), none, none, none, none] [] S19 none S21 ∧ ∃ (S23 : ms), EV q 99 0 [some (.ref 94), some (.ref a2), none, none] [] S21 none S23 ∧ ∃ (S25 : ms), EV q 100 0 [some (.ref 94), some (.ref a2), none, none, none] [] S23 none S25 ∧ ∃ (S27 : ms), EV q 101 0 [some (.ref 94), none, none, none] [] S25 none S27 ∧ ∃ (S29 : ms), EV q 106 0 [some (.ref 94), some (.ref a2), none, none, none, none] [] S27 none S29 ∧ EV q 92 13 [some (.ref 94), some (.ref a1), some (.ref a2), some (vI (bX z12 z9)), some (vI (x4 + 2000)), none, none] [] S29 r S')) : EV q 92 13 [some (.ref 94), some (.ref a1), some (.ref a2), some (vI x3), some (vI x4), none, none] [] S r S' := by
  unfold EV
  refine ev_bk 2 (S' := (16, [some (.ref 94), some (.ref a1), some (.ref a2), some (vI x3), some (vI x4), none, none], [.ref a1, vI x4], hp S, 0, 0)) rfl ?_
  refine mv_gfI rfl rfl (ha1.1) (by decide) rfl ?_
  refine mv_icmp 124 rfl rfl (fun c => ?_) (fun c => ?_)
  · have F := F.1 c
    refine ev_bk 3 (S' := (130, [some (.ref 94), some (.ref a1), some (.ref a2), some (vI x3), some (vI x4), none, none], [vI 48, vL 25779555029136, .ref a2], hp S, 0, 0)) rfl ?_
    obtain ⟨S1, e2, F⟩ := F
    refine mv_calv (as := [vL 25779555029136, vI 48]) (rest := []) e2 (ha2.1) rfl rfl rfl ⟨rfl, rfl⟩ rfl rfl rfl rfl rfl ?_
    refine ev_bk 2 (S' := (135, [some (.ref 94), some (.ref a1), some (.ref a2), some (vI x3), some (vI x4), none, none], [vI x3, .ref a2], hp S1, 0, 0)) rfl ?_
    refine mv_i2l rfl ?_
    refine ev_bk 1 (S' := (138, [some (.ref 94), some (.ref a1), some (.ref a2), some (vI x3), some (vI x4), none, none], [vI 32, vL (w32 x3), .ref a2], hp S1, 0, 0)) rfl ?_
    obtain ⟨S3, e4, F⟩ := F
    refine mv_calv (as := [vL (w32 x3), vI 32]) (rest := []) e4 (ha2.1) rfl rfl rfl ⟨rfl, rfl⟩ rfl rfl rfl rfl rfl ?_
    refine ev_bk 1 (S' := (142, [some (.ref 94), some (.ref a1), some (.ref a2), some (vI x3), some (vI x4), none, none], [.ref a2], hp S3, 0, 0)) rfl ?_
    obtain ⟨S5, e6, F⟩ := F
    refine mv_calv (as := []) (rest := []) e6 (ha2.1) rfl rfl rfl ⟨rfl, rfl⟩ rfl rfl rfl rfl rfl ?_
    obtain ⟨rfl, rfl⟩ := F
    exact ev_ret rfl rfl
  · have F := F.2 c
    refine ev_bk 1 (S' := (23, [some (.ref 94), some (.ref a1), some (.ref a2), some (vI x3), some (vI x4), none, none], [.ref a1], hp S, 0, 0)) rfl ?_
    refine mv_gfI rfl rfl (ha1.1) (by decide) rfl ?_
    refine ev_bk 2 (S' := (31, [some (.ref 94), some (.ref a1), some (.ref a2), some (vI x3), some (vI x4), none, none], [vI 2000, vI x4, vI (S.1 a1 1)], hp S, 0, 0)) rfl ?_
    refine mv_iadd rfl ?_
    refine mv_min rfl rfl rfl ?_
    refine ev_bk 2 (S' := (38, [some (.ref 94), some (.ref a1), some (.ref a2), some (vI x3), some (vI x4), some (vI (min (w32 (S.1 a1 1)) (w32 (x4 + 2000)))), none], [.ref a1], hp S, 0, 0)) rfl ?_
    refine mv_gfR rfl rfl (ha1.1) (by decide) rfl ?_
    refine ev_bk 2 (S' := (45, [some (.ref 94), some (.ref a1), some (.ref a2), some (vI x3), some (vI x4), some (vI (min (w32 (S.1 a1 1)) (w32 (x4 + 2000)))), none], [vI (min (w32 (S.1 a1 1)) (w32 (x4 + 2000))), vI x4, .ref (a1 + 1)], hp S, 0, 0)) rfl ?_
    obtain ⟨z9, S7, e8, F⟩ := F
    refine mv_cals (as := [.ref (a1 + 1), vI x4, vI (min (w32 (S.1 a1 1)) (w32 (x4 + 2000)))]) (rest := []) e8 rfl rfl rfl ⟨rfl, rfl, rfl⟩ rfl rfl rfl rfl ?_
    refine ev_bk 3 (S' := (52, [some (.ref 94), some (.ref a1), some (.ref a2), some (vI x3), some (vI x4), some (vI (min (w32 (S.1 a1 1)) (w32 (x4 + 2000)))), some (vI z9)], [vI 1, vI x3], hp S7, 0, 0)) rfl ?_
    obtain ⟨z12, S10, e11, F⟩ := F
    refine mv_cals (as := [vI x3, vI 1]) (rest := []) e11 rfl rfl rfl ⟨rfl, rfl, rfl⟩ rfl rfl rfl rfl ?_
    refine ev_bk 1 (S' := (57, [some (.ref 94), some (.ref a1), some (.ref a2), some (vI x3), some (vI x4), some (vI (min (w32 (S.1 a1 1)) (w32 (x4 + 2000)))), some (vI z9)], [vI z9, vI z12], hp S10, 0, 0)) rfl ?_
    refine mv_ixor rfl ?_
    refine ev_bk 5 (S' := (65, [some (.ref 94), some (.ref a1), some (.ref a2), some (vI (bX z12 z9)), some (vI x4), some (vI (min (w32 (S.1 a1 1)) (w32 (x4 + 2000)))), some (vI z9)], [vI (min (w32 (S.1 a1 1)) (w32 (x4 + 2000))), vI x4, .ref a1, .ref 94], hp S10, 0, 0)) rfl ?_
    obtain ⟨S13, e14, F⟩ := F
    refine mv_calv (as := [.ref a1, vI x4, vI (min (w32 (S.1 a1 1)) (w32 (x4 + 2000)))]) (rest := []) e14 (sh_94) rfl rfl rfl ⟨rfl, rfl⟩ rfl rfl rfl rfl rfl ?_
    refine ev_bk 1 (S' := (69, [some (.ref 94), some (.ref a1), some (.ref a2), some (vI (bX z12 z9)), some (vI x4), some (vI (min (w32 (S.1 a1 1)) (w32 (x4 + 2000)))), some (vI z9)], [.ref 94], hp S13, 0, 0)) rfl ?_
    obtain ⟨S15, e16, F⟩ := F
    refine mv_calv (as := []) (rest := []) e16 (sh_94) rfl rfl rfl ⟨rfl, rfl⟩ rfl rfl rfl rfl rfl ?_
    refine ev_bk 3 (S' := (78, [some (.ref 94), some (.ref a1), some (.ref a2), some (vI (bX z12 z9)), some (vI x4), some (vI (min (w32 (S.1 a1 1)) (w32 (x4 + 2000)))), some (vI z9)], [vI 48, vL 54156738319193, .ref a2], hp S15, 0, 0)) rfl ?_
    obtain ⟨S17, e18, F⟩ := F
    refine mv_calv (as := [vL 54156738319193, vI 48]) (rest := []) e18 (ha2.1) rfl rfl rfl ⟨rfl, rfl⟩ rfl rfl rfl rfl rfl ?_
    refine ev_bk 2 (S' := (84, [some (.ref 94), some (.ref a1), some (.ref a2), some (vI (bX z12 z9)), some (vI x4), some (vI (min (w32 (S.1 a1 1)) (w32 (x4 + 2000)))), some (vI z9)], [vI z9, .ref a2], hp S17, 0, 0)) rfl ?_
    refine mv_i2l rfl ?_
    refine ev_bk 1 (S' := (87, [some (.ref 94), some (.ref a1), some (.ref a2), some (vI (bX z12 z9)), some (vI x4), some (vI (min (w32 (S.1 a1 1)) (w32 (x4 + 2000)))), some (vI z9)], [vI 32, vL (w32 z9), .ref a2], hp S17, 0, 0)) rfl ?_
    obtain ⟨S19, e20, F⟩ := F
    refine mv_calv (as := [vL (w32 z9), vI 32]) (rest := []) e20 (ha2.1) rfl rfl rfl ⟨rfl, rfl⟩ rfl rfl rfl rfl rfl ?_
    refine ev_bk 3 (S' := (93, [some (.ref 94), some (.ref a1), some (.ref a2), some (vI (bX z12 z9)), some (vI x4), some (vI (min (w32 (S.1 a1 1)) (w32 (x4 + 2000)))), some (vI z9)], [vI 1, vL 0, .ref a2], hp S19, 0, 0)) rfl ?_
    obtain ⟨S21, e22, F⟩ := F
    refine mv_calv (as := [vL 0, vI 1]) (rest := []) e22 (ha2.1) rfl rfl rfl ⟨rfl, rfl⟩ rfl rfl rfl rfl rfl ?_
    refine ev_bk 2 (S' := (98, [some (.ref 94), some (.ref a1), some (.ref a2), some (vI (bX z12 z9)), some (vI x4), some (vI (min (w32 (S.1 a1 1)) (w32 (x4 + 2000)))), some (vI z9)], [.ref a2, .ref 94], hp S21, 0, 0)) rfl ?_
    obtain ⟨S23, e24, F⟩ := F
    refine mv_calv (as := [.ref a2]) (rest := []) e24 (sh_94) rfl rfl rfl ⟨rfl, rfl⟩ rfl rfl rfl rfl rfl ?_
    refine ev_bk 2 (S' := (103, [some (.ref 94), some (.ref a1), some (.ref a2), some (vI (bX z12 z9)), some (vI x4), some (vI (min (w32 (S.1 a1 1)) (w32 (x4 + 2000)))), some (vI z9)], [.ref a2, .ref 94], hp S23, 0, 0)) rfl ?_
    obtain ⟨S25, e26, F⟩ := F
    refine mv_calv (as := [.ref a2]) (rest := []) e26 (sh_94) rfl rfl rfl ⟨rfl, rfl⟩ rfl rfl rfl rfl rfl ?_
    refine ev_bk 1 (S' := (107, [some (.ref 94), some (.ref a1), some (.ref a2), some (vI (bX z12 z9)), some (vI x4), some (vI (min (w32 (S.1 a1 1)) (w32 (x4 + 2000)))), some (vI z9)], [.ref 94], hp S25, 0, 0)) rfl ?_
    obtain ⟨S27, e28, F⟩ := F
    refine mv_calv (as := []) (rest := []) e28 (sh_94) rfl rfl rfl ⟨rfl, rfl⟩ rfl rfl rfl rfl rfl ?_
    refine ev_bk 2 (S' := (112, [some (.ref 94), some (.ref a1), some (.ref a2), some (vI (bX z12 z9)), some (vI x4), some (vI (min (w32 (S.1 a1 1)) (w32 (x4 + 2000)))), some (vI z9)], [.ref a2, .ref 94], hp S27, 0, 0)) rfl ?_
    obtain ⟨S29, e30, F⟩ := F
    refine mv_calv (as := [.ref a2]) (rest := []) e30 (sh_94) rfl rfl rfl ⟨rfl, rfl⟩ rfl rfl rfl rfl rfl ?_
    refine mv_incW (lv' := [some (.ref 94), some (.ref a1), some (.ref a2), some (vI (bX z12 z9)), some (vI (x4 + 2000)), some (vI (min (w32 (S.1 a1 1)) (w32 (x4 + 2000)))), some (vI z9)]) 4 2000 rfl rfl rfl rfl ?_
    refine mv_goto 13 rfl rfl ?_
    exact ev_wk (le_s (le_s (le_s (le_s (le_s (le_n (le_n le_0))))))) F
theorem vc_Sorted_makeRuns {q : Nat × (Nat → Int32)} {S S' : ms} {r : Option Value} (x2 x3 : Int) (a1 na1 : Nat) (ha1 : isRow a1 na1)
    (F : ∀ S1 : ms, S1 = wI S 94 1 0 → EV q 93 11 [some (.ref 94), some (.ref a1), some (vI x2), some (vI x3), some (vI x2), some (vI x2), none, none] [] S1 r S') : EV q 93 0 [some (.ref 94), some (.ref a1), some (vI x2), some (vI x3), none, none, none, none] [] S r S' := by
  unfold EV
  refine ev_bk 2 (S' := (2, [some (.ref 94), some (.ref a1), some (vI x2), some (vI x3), none, none, none, none], [vI 0, .ref 94], hp S, 0, 0)) rfl ?_
  refine mv_pfI rfl rfl (sh_94) (by decide) rfl rfl ?_
  have F := F _ rfl
  refine ev_bk 4 (S' := (11, [some (.ref 94), some (.ref a1), some (vI x2), some (vI x3), some (vI x2), some (vI x2), none, none], [], hp (wI S 94 1 0), 0, 0)) rfl ?_
  exact F
theorem vc_Sorted_makeRuns_11 {q : Nat × (Nat → Int32)} {S S' : ms} {r : Option Value} (x2 x3 x4 x5 : Int) (a1 na1 : Nat) (ha1 : isRow a1 na1)
    (F : ((w32 x3 ≤ w32 x5) → r = none ∧ S' = S) ∧ ((¬ w32 x3 ≤ w32 x5) → ((w32 x3 ≤ w32 x4) → r = none ∧ S' = S) ∧ ((¬ w32 x3 ≤ w32 x4) → EV q 93 26 [some (.ref 94), some (.ref a1), some (vI x2), some (vI x3), some (vI x4), some (vI x5), some (vI 1), none] [] S r S'))) : EV q 93 11 [some (.ref 94), some (.ref a1), some (vI x2), some (vI x3), some (vI x4), some (vI x5), none, none] [] S r S' := by
  unfold EV
  refine ev_bk 2 (S' := (14, [some (.ref 94), some (.ref a1), some (vI x2), some (vI x3), some (vI x4), some (vI x5), none, none], [vI x3, vI x5], hp S, 0, 0)) rfl ?_
  refine mv_icmp 159 rfl rfl (fun c => ?_) (fun c => ?_)
  · have F := F.1 c
    obtain ⟨rfl, rfl⟩ := F
    exact ev_ret rfl rfl
  · have F := F.2 c
    refine ev_bk 2 (S' := (20, [some (.ref 94), some (.ref a1), some (vI x2), some (vI x3), some (vI x4), some (vI x5), none, none], [vI x3, vI x4], hp S, 0, 0)) rfl ?_
    refine mv_icmp 159 rfl rfl (fun c => ?_) (fun c => ?_)
    · have F := F.1 c
      obtain ⟨rfl, rfl⟩ := F
      exact ev_ret rfl rfl
    · have F := F.2 c
      refine ev_bk 2 (S' := (26, [some (.ref 94), some (.ref a1), some (vI x2), some (vI x3), some (vI x4), some (vI x5), some (vI 1), none], [], hp S, 0, 0)) rfl ?_
      exact F
theorem vc_Sorted_makeRuns_26 {q : Nat × (Nat → Int32)} {S S' : ms} {r : Option Value} (x2 x3 x4 x5 x6 : Int) (a1 na1 : Nat) (ha1 : isRow a1 na1)
    (F : ((259 ≤ w32 x6) → EV q 93 69 [some (.ref 94), some (.ref a1), some (vI x2), some (vI x3), some (vI x4), some (vI x5), some (vI x6), none] [] S r S') ∧ ((¬ 259 ≤ w32 x6) → ((w32 x3 ≤ w32 (x4 + x6)) → EV q 93 69 [some (.ref 94), some (.ref a1), some (vI x2), some (vI x3), some (vI x4), some (vI x5), some (vI x6), none] [] S r S') ∧ ((¬ w32 x3 ≤ w32 (x4 + x6)) → (0 ≤ w32 (x4 + x6) ∧ w32 (x4 + x6) < (na1 : Nat)) ∧ (0 ≤ w32 x4 ∧ w32 x4 < (na1 : Nat)) ∧ ((¬ w32 (S.1 (a1 + 1) (w32 (x4 + x6))) = w32 (S.1 (a1 + 1) (w32 x4))) → EV q 93 69 [some (.ref 94), some (.ref a1), some (vI x2), some (vI x3), some (vI x4), some (vI x5), some (vI x6), none] [] S r S') ∧ ((¬ (¬ w32 (S.1 (a1 + 1) (w32 (x4 + x6))) = w32 (S.1 (a1 + 1) (w32 x4)))) → EV q 93 26 [some (.ref 94), some (.ref a1), some (vI x2), some (vI x3), some (vI x4), some (vI x5), some (vI (x6 + 1)), none] [] S r S')))) : EV q 93 26 [some (.ref 94), some (.ref a1), some (vI x2), some (vI x3), some (vI x4), some (vI x5), some (vI x6), none] [] S r S' := by
  unfold EV
  refine ev_bk 2 (S' := (31, [some (.ref 94), some (.ref a1), some (vI x2), some (vI x3), some (vI x4), some (vI x5), some (vI x6), none], [vI 259, vI x6], hp S, 0, 0)) rfl ?_
  refine mv_icmp 69 rfl rfl (fun c => ?_) (fun c => ?_)
  · have F := F.1 c
    exact F
  · have F := F.2 c
    refine ev_bk 2 (S' := (38, [some (.ref 94), some (.ref a1), some (vI x2), some (vI x3), some (vI x4), some (vI x5), some (vI x6), none], [vI x6, vI x4], hp S, 0, 0)) rfl ?_
    refine mv_iadd rfl ?_
    refine ev_bk 1 (S' := (40, [some (.ref 94), some (.ref a1), some (vI x2), some (vI x3), some (vI x4), some (vI x5), some (vI x6), none], [vI x3, vI (x4 + x6)], hp S, 0, 0)) rfl ?_
    refine mv_icmp 69 rfl rfl (fun c => ?_) (fun c => ?_)
    · have F := F.1 c
      exact F
    · have F := F.2 c
      refine ev_bk 1 (S' := (44, [some (.ref 94), some (.ref a1), some (vI x2), some (vI x3), some (vI x4), some (vI x5), some (vI x6), none], [.ref a1], hp S, 0, 0)) rfl ?_
      refine mv_gfR rfl rfl (ha1.1) (by decide) rfl ?_
      refine ev_bk 2 (S' := (51, [some (.ref 94), some (.ref a1), some (vI x2), some (vI x3), some (vI x4), some (vI x5), some (vI x6), none], [vI x6, vI x4, .ref (a1 + 1)], hp S, 0, 0)) rfl ?_
      refine mv_iadd rfl ?_
      obtain ⟨b1, F⟩ := F
      refine mv_ial rfl (ha1.2) b1 ?_
      refine ev_bk 1 (S' := (54, [some (.ref 94), some (.ref a1), some (vI x2), some (vI x3), some (vI x4), some (vI x5), some (vI x6), none], [.ref a1, vI (S.1 (a1 + 1) (w32 (x4 + x6)))], hp S, 0, 0)) rfl ?_
      refine mv_gfR rfl rfl (ha1.1) (by decide) rfl ?_
      refine ev_bk 1 (S' := (59, [some (.ref 94), some (.ref a1), some (vI x2), some (vI x3), some (vI x4), some (vI x5), some (vI x6), none], [vI x4, .ref (a1 + 1), vI (S.1 (a1 + 1) (w32 (x4 + x6)))], hp S, 0, 0)) rfl ?_
      obtain ⟨b2, F⟩ := F
      refine mv_ial rfl (ha1.2) b2 ?_
      refine mv_icmp 69 rfl rfl (fun c => ?_) (fun c => ?_)
      · have F := F.1 c
        exact F
      · have F := F.2 c
        refine mv_inc (lv' := [some (.ref 94), some (.ref a1), some (vI x2), some (vI x3), some (vI x4), some (vI x5), some (vI (x6 + 1)), none]) 6 1 rfl rfl rfl rfl ?_
        refine mv_goto 26 rfl rfl ?_
        exact F
theorem vc_Sorted_makeRuns_69 {q : Nat × (Nat → Int32)} {S S' : ms} {r : Option Value} (x2 x3 x4 x5 x6 : Int) (a1 na1 : Nat) (ha1 : isRow a1 na1)
    (F : EV q 93 72 [some (.ref 94), some (.ref a1), some (vI x2), some (vI x3), some (vI x4), some (vI x5), some (vI x6), some (vI 0)] [] S r S') : EV q 93 69 [some (.ref 94), some (.ref a1), some (vI x2), some (vI x3), some (vI x4), some (vI x5), some (vI x6), none] [] S r S' := by
  unfold EV
  refine ev_bk 2 (S' := (72, [some (.ref 94), some (.ref a1), some (vI x2), some (vI x3), some (vI x4), some (vI x5), some (vI x6), some (vI 0)], [], hp S, 0, 0)) rfl ?_
  exact F
theorem vc_Sorted_makeRuns_72 {q : Nat × (Nat → Int32)} {S S' : ms} {r : Option Value} (x2 x3 x4 x5 x6 x7 : Int) (a1 na1 : Nat) (ha1 : isRow a1 na1)
    (F : ((w32 x6 ≤ w32 x7) → EV q 93 117 [some (.ref 94), some (.ref a1), some (vI x2), some (vI x3), some (vI x4), some (vI x5), some (vI x6), some (vI x7)] [] S r S') ∧ ((¬ w32 x6 ≤ w32 x7) → ((4 ≤ w32 x7) → EV q 93 117 [some (.ref 94), some (.ref a1), some (vI x2), some (vI x3), some (vI x4), some (vI x5), some (vI x6), some (vI x7)] [] S r S') ∧ ((¬ 4 ≤ w32 x7) → (0 ≤ w32 x4 ∧ w32 x4 < (na1 : Nat)) ∧ (0 ≤ w32 (S.1 94 1) ∧ w32 (S.1 94 1) < (2500 : Nat)) ∧ ∀ S3 : ms, S3 = wI S 95 (w32 (S.1 94 1)) (S.1 (a1 + 1) (w32 x4)) → ∀ S4 : ms, S4 = wI S3 94 1 (S3.1 94 1 + 1) → EV q 93 72 [some (.ref 94), some (.ref a1), some (vI x2), some (vI x3), some (vI x4), some (vI x5), some (vI x6), some (vI (x7 + 1))] [] S4 r S'))) : EV q 93 72 [some (.ref 94), some (.ref a1), some (vI x2), some (vI x3), some (vI x4), some (vI x5), some (vI x6), some (vI x7)] [] S r S' := by
  unfold EV
  refine ev_bk 2 (S' := (76, [some (.ref 94), some (.ref a1), some (vI x2), some (vI x3), some (vI x4), some (vI x5), some (vI x6), some (vI x7)], [vI x6, vI x7], hp S, 0, 0)) rfl ?_
  refine mv_icmp 117 rfl rfl (fun c => ?_) (fun c => ?_)
  · have F := F.1 c
    exact F
  · have F := F.2 c
    refine ev_bk 2 (S' := (82, [some (.ref 94), some (.ref a1), some (vI x2), some (vI x3), some (vI x4), some (vI x5), some (vI x6), some (vI x7)], [vI 4, vI x7], hp S, 0, 0)) rfl ?_
    refine mv_icmp 117 rfl rfl (fun c => ?_) (fun c => ?_)
    · have F := F.1 c
      exact F
    · have F := F.2 c
      refine ev_bk 1 (S' := (86, [some (.ref 94), some (.ref a1), some (vI x2), some (vI x3), some (vI x4), some (vI x5), some (vI x6), some (vI x7)], [.ref 94], hp S, 0, 0)) rfl ?_
      refine mv_gfR rfl rfl (sh_94) (by decide) rfl ?_
      refine ev_bk 1 (S' := (90, [some (.ref 94), some (.ref a1), some (vI x2), some (vI x3), some (vI x4), some (vI x5), some (vI x6), some (vI x7)], [.ref 94, .ref 95], hp S, 0, 0)) rfl ?_
      refine mv_gfI rfl rfl (sh_94) (by decide) rfl ?_
      refine ev_bk 1 (S' := (94, [some (.ref 94), some (.ref a1), some (vI x2), some (vI x3), some (vI x4), some (vI x5), some (vI x6), some (vI x7)], [.ref a1, vI (S.1 94 1), .ref 95], hp S, 0, 0)) rfl ?_
      refine mv_gfR rfl rfl (ha1.1) (by decide) rfl ?_
      refine ev_bk 1 (S' := (99, [some (.ref 94), some (.ref a1), some (vI x2), some (vI x3), some (vI x4), some (vI x5), some (vI x6), some (vI x7)], [vI x4, .ref (a1 + 1), vI (S.1 94 1), .ref 95], hp S, 0, 0)) rfl ?_
      obtain ⟨b1, F⟩ := F
      refine mv_ial rfl (ha1.2) b1 ?_
      obtain ⟨b2, F⟩ := F
      refine mv_ias rfl (sh_95) b2 ?_
      have F := F _ rfl
      refine ev_bk 2 (S' := (103, [some (.ref 94), some (.ref a1), some (vI x2), some (vI x3), some (vI x4), some (vI x5), some (vI x6), some (vI x7)], [.ref 94, .ref 94], hp (wI S 95 (w32 (S.1 94 1)) (S.1 (a1 + 1) (w32 x4))), 0, 0)) rfl ?_
      refine mv_gfI rfl rfl (sh_94) (by decide) rfl ?_
      refine ev_bk 1 (S' := (107, [some (.ref 94), some (.ref a1), some (vI x2), some (vI x3), some (vI x4), some (vI x5), some (vI x6), some (vI x7)], [vI 1, vI ((wI S 95 (w32 (S.1 94 1)) (S.1 (a1 + 1) (w32 x4))).1 94 1), .ref 94], hp (wI S 95 (w32 (S.1 94 1)) (S.1 (a1 + 1) (w32 x4))), 0, 0)) rfl ?_
      refine mv_iadd rfl ?_
      refine mv_pfI rfl rfl (sh_94) (by decide) rfl rfl ?_
      have F := F _ rfl
      refine mv_inc (lv' := [some (.ref 94), some (.ref a1), some (vI x2), some (vI x3), some (vI x4), some (vI x5), some (vI x6), some (vI (x7 + 1))]) 7 1 rfl rfl rfl rfl ?_
      refine mv_goto 72 rfl rfl ?_
      exact F
theorem vc_Sorted_makeRuns_117 {q : Nat × (Nat → Int32)} {S S' : ms} {r : Option Value} (x2 x3 x4 x5 x6 x7 : Int) (a1 na1 : Nat) (ha1 : isRow a1 na1)
    (F : ((w32 x6 < 4) → EV q 93 146 [some (.ref 94), some (.ref a1), some (vI x2), some (vI x3), some (vI x4), some (vI x5), some (vI x6), some (vI x7)] [] S r S') ∧ ((¬ w32 x6 < 4) → (0 ≤ w32 (S.1 94 1) ∧ w32 (S.1 94 1) < (2500 : Nat)) ∧ ∀ S2 : ms, S2 = wI S 95 (w32 (S.1 94 1)) (x6 - 4) → ∀ S3 : ms, S3 = wI S2 94 1 (S2.1 94 1 + 1) → EV q 93 146 [some (.ref 94), some (.ref a1), some (vI x2), some (vI x3), some (vI x4), some (vI x5), some (vI x6), some (vI x7)] [] S3 r S')) : EV q 93 117 [some (.ref 94), some (.ref a1), some (vI x2), some (vI x3), some (vI x4), some (vI x5), some (vI x6), some (vI x7)] [] S r S' := by
  unfold EV
  refine ev_bk 2 (S' := (120, [some (.ref 94), some (.ref a1), some (vI x2), some (vI x3), some (vI x4), some (vI x5), some (vI x6), some (vI x7)], [vI 4, vI x6], hp S, 0, 0)) rfl ?_
  refine mv_icmp 146 rfl rfl (fun c => ?_) (fun c => ?_)
  · have F := F.1 c
    exact F
  · have F := F.2 c
    refine ev_bk 1 (S' := (124, [some (.ref 94), some (.ref a1), some (vI x2), some (vI x3), some (vI x4), some (vI x5), some (vI x6), some (vI x7)], [.ref 94], hp S, 0, 0)) rfl ?_
    refine mv_gfR rfl rfl (sh_94) (by decide) rfl ?_
    refine ev_bk 1 (S' := (128, [some (.ref 94), some (.ref a1), some (vI x2), some (vI x3), some (vI x4), some (vI x5), some (vI x6), some (vI x7)], [.ref 94, .ref 95], hp S, 0, 0)) rfl ?_
    refine mv_gfI rfl rfl (sh_94) (by decide) rfl ?_
    refine ev_bk 2 (S' := (134, [some (.ref 94), some (.ref a1), some (vI x2), some (vI x3), some (vI x4), some (vI x5), some (vI x6), some (vI x7)], [vI 4, vI x6, vI (S.1 94 1), .ref 95], hp S, 0, 0)) rfl ?_
    refine mv_isub rfl ?_
    obtain ⟨b1, F⟩ := F
    refine mv_ias rfl (sh_95) b1 ?_
    have F := F _ rfl
    refine ev_bk 2 (S' := (138, [some (.ref 94), some (.ref a1), some (vI x2), some (vI x3), some (vI x4), some (vI x5), some (vI x6), some (vI x7)], [.ref 94, .ref 94], hp (wI S 95 (w32 (S.1 94 1)) (x6 - 4)), 0, 0)) rfl ?_
    refine mv_gfI rfl rfl (sh_94) (by decide) rfl ?_
    refine ev_bk 1 (S' := (142, [some (.ref 94), some (.ref a1), some (vI x2), some (vI x3), some (vI x4), some (vI x5), some (vI x6), some (vI x7)], [vI 1, vI ((wI S 95 (w32 (S.1 94 1)) (x6 - 4)).1 94 1), .ref 94], hp (wI S 95 (w32 (S.1 94 1)) (x6 - 4)), 0, 0)) rfl ?_
    refine mv_iadd rfl ?_
    refine mv_pfI rfl rfl (sh_94) (by decide) rfl rfl ?_
    have F := F _ rfl
    exact F
theorem vc_Sorted_makeRuns_146 {q : Nat × (Nat → Int32)} {S S' : ms} {r : Option Value} (x2 x3 x4 x5 x6 x7 : Int) (a1 na1 : Nat) (ha1 : isRow a1 na1)
    (F : EV q 93 11 [some (.ref 94), some (.ref a1), some (vI x2), some (vI x3), some (vI (x4 + x6)), some (vI (x5 + 1)), none, none] [] S r S') : EV q 93 146 [some (.ref 94), some (.ref a1), some (vI x2), some (vI x3), some (vI x4), some (vI x5), some (vI x6), some (vI x7)] [] S r S' := by
  unfold EV
  refine ev_bk 2 (S' := (150, [some (.ref 94), some (.ref a1), some (vI x2), some (vI x3), some (vI x4), some (vI x5), some (vI x6), some (vI x7)], [vI x6, vI x4], hp S, 0, 0)) rfl ?_
  refine mv_iadd rfl ?_
  refine ev_bk 1 (S' := (153, [some (.ref 94), some (.ref a1), some (vI x2), some (vI x3), some (vI (x4 + x6)), some (vI x5), some (vI x6), some (vI x7)], [], hp S, 0, 0)) rfl ?_
  refine mv_inc (lv' := [some (.ref 94), some (.ref a1), some (vI x2), some (vI x3), some (vI (x4 + x6)), some (vI (x5 + 1)), some (vI x6), some (vI x7)]) 5 1 rfl rfl rfl rfl ?_
  refine mv_goto 11 rfl rfl ?_
  exact ev_wk (le_s (le_s (le_s (le_s (le_s (le_s (le_n (le_n le_0)))))))) F
theorem vc_Sorted_sortRotations {q : Nat × (Nat → Int32)} {S S' : ms} {r : Option Value}
    (F : EV q 94 2 [some (.ref 94), some (vI 0), none, none] [] S r S') : EV q 94 0 [some (.ref 94), none, none, none] [] S r S' := by
  unfold EV
  refine ev_bk 2 (S' := (2, [some (.ref 94), some (vI 0), none, none], [], hp S, 0, 0)) rfl ?_
  exact F
theorem vc_Sorted_sortRotations_2 {q : Nat × (Nat → Int32)} {S S' : ms} {r : Option Value} (x1 : Int)
    (F : ((w32 (S.1 94 1) ≤ w32 x1) → ∃ (S1 : ms), EV q 95 0 [some (.ref 94), some (vI 256), none, none] [] S none S1 ∧ ∃ (z5 : Int) (S3 : ms), EV q 96 0 [some (.ref 94), some (vI 0), none, none] [] S1 (some (vI z5)) S3 ∧ EV q 94 50 [some (.ref 94), some (vI z5), some (vI 1), none] [] S3 r S') ∧ ((¬ w32 (S.1 94 1) ≤ w32 x1) → (0 ≤ w32 x1 ∧ w32 x1 < (2500 : Nat)) ∧ ∀ S7 : ms, S7 = wI S 97 (w32 x1) x1 → (0 ≤ w32 x1 ∧ w32 x1 < (2500 : Nat)) ∧ (0 ≤ w32 x1 ∧ w32 x1 < (2500 : Nat)) ∧ ∀ S10 : ms, S10 = wI S7 98 (w32 x1) (S7.1 95 (w32 x1)) → EV q 94 2 [some (.ref 94), some (vI (x1 + 1)), none, none] [] S10 r S')) : EV q 94 2 [some (.ref 94), some (vI x1), none, none] [] S r S' := by
  unfold EV
  refine ev_bk 2 (S' := (4, [some (.ref 94), some (vI x1), none, none], [.ref 94, vI x1], hp S, 0, 0)) rfl ?_
  refine mv_gfI rfl rfl (sh_94) (by decide) rfl ?_
  refine mv_icmp 35 rfl rfl (fun c => ?_) (fun c => ?_)
  · have F := F.1 c
    refine ev_bk 2 (S' := (39, [some (.ref 94), some (vI x1), none, none], [vI 256, .ref 94], hp S, 0, 0)) rfl ?_
    obtain ⟨S1, e2, F⟩ := F
    refine mv_calv (as := [vI 256]) (rest := []) e2 (sh_94) rfl rfl rfl ⟨rfl, rfl⟩ rfl rfl rfl rfl rfl ?_
    refine ev_bk 2 (S' := (44, [some (.ref 94), some (vI x1), none, none], [vI 0, .ref 94], hp S1, 0, 0)) rfl ?_
    obtain ⟨z5, S3, e4, F⟩ := F
    refine mv_calv (as := [vI 0]) (rest := []) e4 (sh_94) rfl rfl rfl ⟨rfl, rfl⟩ rfl rfl rfl rfl rfl ?_
    refine ev_bk 3 (S' := (50, [some (.ref 94), some (vI z5), some (vI 1), none], [], hp S3, 0, 0)) rfl ?_
    exact F
  · have F := F.2 c
    refine ev_bk 1 (S' := (11, [some (.ref 94), some (vI x1), none, none], [.ref 94], hp S, 0, 0)) rfl ?_
    refine mv_gfR rfl rfl (sh_94) (by decide) rfl ?_
    refine ev_bk 2 (S' := (16, [some (.ref 94), some (vI x1), none, none], [vI x1, vI x1, .ref 97], hp S, 0, 0)) rfl ?_
    obtain ⟨b6, F⟩ := F
    refine mv_ias rfl (sh_97) b6 ?_
    have F := F _ rfl
    refine ev_bk 1 (S' := (18, [some (.ref 94), some (vI x1), none, none], [.ref 94], hp (wI S 97 (w32 x1) x1), 0, 0)) rfl ?_
    refine mv_gfR rfl rfl (sh_94) (by decide) rfl ?_
    refine ev_bk 2 (S' := (23, [some (.ref 94), some (vI x1), none, none], [.ref 94, vI x1, .ref 98], hp (wI S 97 (w32 x1) x1), 0, 0)) rfl ?_
    refine mv_gfR rfl rfl (sh_94) (by decide) rfl ?_
    refine ev_bk 1 (S' := (27, [some (.ref 94), some (vI x1), none, none], [vI x1, .ref 95, vI x1, .ref 98], hp (wI S 97 (w32 x1) x1), 0, 0)) rfl ?_
    obtain ⟨b8, F⟩ := F
    refine mv_ial rfl (sh_95) b8 ?_
    obtain ⟨b9, F⟩ := F
    refine mv_ias rfl (sh_98) b9 ?_
    have F := F _ rfl
    refine mv_inc (lv' := [some (.ref 94), some (vI (x1 + 1)), none, none]) 1 1 rfl rfl rfl rfl ?_
    refine mv_goto 2 rfl rfl ?_
    exact F
theorem vc_Sorted_sortRotations_50 {q : Nat × (Nat → Int32)} {S S' : ms} {r : Option Value} (x1 x2 : Int)
    (F : ((w32 (S.1 94 1) ≤ w32 x2) → EV q 94 140 [some (.ref 94), some (vI x1), some (vI x2), none] [] S r S') ∧ ((¬ w32 (S.1 94 1) ≤ w32 x2) → ((w32 (S.1 94 1) ≤ w32 x1) → EV q 94 140 [some (.ref 94), some (vI x1), some (vI x2), none] [] S r S') ∧ ((¬ w32 (S.1 94 1) ≤ w32 x1) → EV q 94 68 [some (.ref 94), some (vI x1), some (vI x2), some (vI 0)] [] S r S'))) : EV q 94 50 [some (.ref 94), some (vI x1), some (vI x2), none] [] S r S' := by
  unfold EV
  refine ev_bk 2 (S' := (52, [some (.ref 94), some (vI x1), some (vI x2), none], [.ref 94, vI x2], hp S, 0, 0)) rfl ?_
  refine mv_gfI rfl rfl (sh_94) (by decide) rfl ?_
  refine mv_icmp 140 rfl rfl (fun c => ?_) (fun c => ?_)
  · have F := F.1 c
    exact F
  · have F := F.2 c
    refine ev_bk 2 (S' := (60, [some (.ref 94), some (vI x1), some (vI x2), none], [.ref 94, vI x1], hp S, 0, 0)) rfl ?_
    refine mv_gfI rfl rfl (sh_94) (by decide) rfl ?_
    refine mv_icmp 140 rfl rfl (fun c => ?_) (fun c => ?_)
    · have F := F.1 c
      exact F
    · have F := F.2 c
      refine ev_bk 2 (S' := (68, [some (.ref 94), some (vI x1), some (vI x2), some (vI 0)], [], hp S, 0, 0)) rfl ?_
      exact F
theorem vc_Sorted_sortRotations_68 {q : Nat × (Nat → Int32)} {S S' : ms} {r : Option Value} (x1 x2 x3 : Int)
    (F : ((w32 (S.1 94 1) ≤ w32 x3) → ∃ (S1 : ms), EV q 95 0 [some (.ref 94), some (vI x1), none, none] [] S none S1 ∧ ∃ (z5 : Int) (S3 : ms), EV q 96 0 [some (.ref 94), some (vI x2), none, none] [] S1 (some (vI z5)) S3 ∧ EV q 94 50 [some (.ref 94), some (vI z5), some (vI (x2 * 2)), none] [] S3 r S') ∧ ((¬ w32 (S.1 94 1) ≤ w32 x3) → (0 ≤ w32 x3 ∧ w32 x3 < (15000 : Nat)) ∧ ((w32 (S.1 96 (w32 x3)) < w32 x2) → (0 ≤ w32 x3 ∧ w32 x3 < (15000 : Nat)) ∧ EV q 94 115 [some (.ref 94), some (vI x1), some (vI x2), some (vI x3)] [vI (((S.1 96 (w32 x3)) - x2) + (S.1 94 1)), vI x3, .ref 97] S r S') ∧ ((¬ w32 (S.1 96 (w32 x3)) < w32 x2) → (0 ≤ w32 x3 ∧ w32 x3 < (15000 : Nat)) ∧ EV q 94 115 [some (.ref 94), some (vI x1), some (vI x2), some (vI x3)] [vI ((S.1 96 (w32 x3)) - x2), vI x3, .ref 97] S r S'))) : EV q 94 68 [some (.ref 94), some (vI x1), some (vI x2), some (vI x3)] [] S r S' := by
  unfold EV
  refine ev_bk 2 (S' := (70, [some (.ref 94), some (vI x1), some (vI x2), some (vI x3)], [.ref 94, vI x3], hp S, 0, 0)) rfl ?_
  refine mv_gfI rfl rfl (sh_94) (by decide) rfl ?_
  refine mv_icmp 122 rfl rfl (fun c => ?_) (fun c => ?_)
  · have F := F.1 c
    refine ev_bk 2 (S' := (124, [some (.ref 94), some (vI x1), some (vI x2), some (vI x3)], [vI x1, .ref 94], hp S, 0, 0)) rfl ?_
    obtain ⟨S1, e2, F⟩ := F
    refine mv_calv (as := [vI x1]) (rest := []) e2 (sh_94) rfl rfl rfl ⟨rfl, rfl⟩ rfl rfl rfl rfl rfl ?_
    refine ev_bk 2 (S' := (129, [some (.ref 94), some (vI x1), some (vI x2), some (vI x3)], [vI x2, .ref 94], hp S1, 0, 0)) rfl ?_
    obtain ⟨z5, S3, e4, F⟩ := F
    refine mv_calv (as := [vI x2]) (rest := []) e4 (sh_94) rfl rfl rfl ⟨rfl, rfl⟩ rfl rfl rfl rfl rfl ?_
    refine ev_bk 3 (S' := (135, [some (.ref 94), some (vI z5), some (vI x2), some (vI x3)], [vI 2, vI x2], hp S3, 0, 0)) rfl ?_
    refine mv_imul rfl ?_
    refine ev_bk 1 (S' := (137, [some (.ref 94), some (vI z5), some (vI (x2 * 2)), some (vI x3)], [], hp S3, 0, 0)) rfl ?_
    refine mv_goto 50 rfl rfl ?_
    exact ev_wk (le_s (le_s (le_s (le_n le_0)))) F
  · have F := F.2 c
    refine ev_bk 1 (S' := (77, [some (.ref 94), some (vI x1), some (vI x2), some (vI x3)], [.ref 94], hp S, 0, 0)) rfl ?_
    refine mv_gfR rfl rfl (sh_94) (by decide) rfl ?_
    refine ev_bk 2 (S' := (82, [some (.ref 94), some (vI x1), some (vI x2), some (vI x3)], [.ref 94, vI x3, .ref 97], hp S, 0, 0)) rfl ?_
    refine mv_gfR rfl rfl (sh_94) (by decide) rfl ?_
    refine ev_bk 1 (S' := (86, [some (.ref 94), some (vI x1), some (vI x2), some (vI x3)], [vI x3, .ref 96, vI x3, .ref 97], hp S, 0, 0)) rfl ?_
    obtain ⟨b6, F⟩ := F
    refine mv_ial rfl (sh_96) b6 ?_
    refine ev_bk 1 (S' := (88, [some (.ref 94), some (vI x1), some (vI x2), some (vI x3)], [vI x2, vI (S.1 96 (w32 x3)), vI x3, .ref 97], hp S, 0, 0)) rfl ?_
    refine mv_icmp 102 rfl rfl (fun c => ?_) (fun c => ?_)
    · have F := F.1 c
      refine ev_bk 1 (S' := (103, [some (.ref 94), some (vI x1), some (vI x2), some (vI x3)], [.ref 94, vI x3, .ref 97], hp S, 0, 0)) rfl ?_
      refine mv_gfR rfl rfl (sh_94) (by decide) rfl ?_
      refine ev_bk 1 (S' := (107, [some (.ref 94), some (vI x1), some (vI x2), some (vI x3)], [vI x3, .ref 96, vI x3, .ref 97], hp S, 0, 0)) rfl ?_
      obtain ⟨b7, F⟩ := F
      refine mv_ial rfl (sh_96) b7 ?_
      refine ev_bk 1 (S' := (109, [some (.ref 94), some (vI x1), some (vI x2), some (vI x3)], [vI x2, vI (S.1 96 (w32 x3)), vI x3, .ref 97], hp S, 0, 0)) rfl ?_
      refine mv_isub rfl ?_
      refine ev_bk 1 (S' := (111, [some (.ref 94), some (vI x1), some (vI x2), some (vI x3)], [.ref 94, vI ((S.1 96 (w32 x3)) - x2), vI x3, .ref 97], hp S, 0, 0)) rfl ?_
      refine mv_gfI rfl rfl (sh_94) (by decide) rfl ?_
      refine mv_iadd rfl ?_
      exact F
    · have F := F.2 c
      refine ev_bk 1 (S' := (92, [some (.ref 94), some (vI x1), some (vI x2), some (vI x3)], [.ref 94, vI x3, .ref 97], hp S, 0, 0)) rfl ?_
      refine mv_gfR rfl rfl (sh_94) (by decide) rfl ?_
      refine ev_bk 1 (S' := (96, [some (.ref 94), some (vI x1), some (vI x2), some (vI x3)], [vI x3, .ref 96, vI x3, .ref 97], hp S, 0, 0)) rfl ?_
      obtain ⟨b8, F⟩ := F
      refine mv_ial rfl (sh_96) b8 ?_
      refine ev_bk 1 (S' := (98, [some (.ref 94), some (vI x1), some (vI x2), some (vI x3)], [vI x2, vI (S.1 96 (w32 x3)), vI x3, .ref 97], hp S, 0, 0)) rfl ?_
      refine mv_isub rfl ?_
      refine mv_goto 115 rfl rfl ?_
      exact F
theorem vc_Sorted_sortRotations_115 {q : Nat × (Nat → Int32)} {S S' : ms} {r : Option Value} (x1 x2 x3 y0 y1 : Int)
    (F : (0 ≤ w32 y1 ∧ w32 y1 < (2500 : Nat)) ∧ ∀ S2 : ms, S2 = wI S 97 (w32 y1) y0 → EV q 94 68 [some (.ref 94), some (vI x1), some (vI x2), some (vI (x3 + 1))] [] S2 r S') : EV q 94 115 [some (.ref 94), some (vI x1), some (vI x2), some (vI x3)] [vI y0, vI y1, .ref 97] S r S' := by
  unfold EV
  obtain ⟨b1, F⟩ := F
  refine mv_ias rfl (sh_97) b1 ?_
  have F := F _ rfl
  refine mv_inc (lv' := [some (.ref 94), some (vI x1), some (vI x2), some (vI (x3 + 1))]) 3 1 rfl rfl rfl rfl ?_
  refine mv_goto 68 rfl rfl ?_
  exact F
theorem vc_Sorted_sortRotations_140 {q : Nat × (Nat → Int32)} {S S' : ms} {r : Option Value} (x1 x2 : Int)
    (F : EV q 94 142 [some (.ref 94), some (vI x1), some (vI 0), none] [] S r S') : EV q 94 140 [some (.ref 94), some (vI x1), some (vI x2), none] [] S r S' := by
  unfold EV
  refine ev_bk 2 (S' := (142, [some (.ref 94), some (vI x1), some (vI 0), none], [], hp S, 0, 0)) rfl ?_
  exact F
theorem vc_Sorted_sortRotations_142 {q : Nat × (Nat → Int32)} {S S' : ms} {r : Option Value} (x1 x2 : Int)
    (F : ((w32 (S.1 94 1) ≤ w32 x2) → ∃ (S1 : ms), EV q 95 0 [some (.ref 94), some (vI x1), none, none] [] S none S1 ∧ r = none ∧ S' = S1) ∧ ((¬ w32 (S.1 94 1) ≤ w32 x2) → (0 ≤ w32 x2 ∧ w32 x2 < (2500 : Nat)) ∧ ∀ S4 : ms, S4 = wI S 97 (w32 x2) x2 → EV q 94 142 [some (.ref 94), some (vI x1), some (vI (x2 + 1)), none] [] S4 r S')) : EV q 94 142 [some (.ref 94), some (vI x1), some (vI x2), none] [] S r S' := by
  unfold EV
  refine ev_bk 2 (S' := (144, [some (.ref 94), some (vI x1), some (vI x2), none], [.ref 94, vI x2], hp S, 0, 0)) rfl ?_
  refine mv_gfI rfl rfl (sh_94) (by decide) rfl ?_
  refine mv_icmp 163 rfl rfl (fun c => ?_) (fun c => ?_)
  · have F := F.1 c
    refine ev_bk 2 (S' := (165, [some (.ref 94), some (vI x1), some (vI x2), none], [vI x1, .ref 94], hp S, 0, 0)) rfl ?_
    obtain ⟨S1, e2, F⟩ := F
    refine mv_calv (as := [vI x1]) (rest := []) e2 (sh_94) rfl rfl rfl ⟨rfl, rfl⟩ rfl rfl rfl rfl rfl ?_
    obtain ⟨rfl, rfl⟩ := F
    exact ev_ret rfl rfl
  · have F := F.2 c
    refine ev_bk 1 (S' := (151, [some (.ref 94), some (vI x1), some (vI x2), none], [.ref 94], hp S, 0, 0)) rfl ?_
    refine mv_gfR rfl rfl (sh_94) (by decide) rfl ?_
    refine ev_bk 2 (S' := (156, [some (.ref 94), some (vI x1), some (vI x2), none], [vI x2, vI x2, .ref 97], hp S, 0, 0)) rfl ?_
    obtain ⟨b3, F⟩ := F
    refine mv_ias rfl (sh_97) b3 ?_
    have F := F _ rfl
    refine mv_inc (lv' := [some (.ref 94), some (vI x1), some (vI (x2 + 1)), none]) 2 1 rfl rfl rfl rfl ?_
    refine mv_goto 142 rfl rfl ?_
    exact F
theorem vc_Sorted_orderByRanks {q : Nat × (Nat → Int32)} {S S' : ms} {r : Option Value} (x1 : Int)
    (F : EV q 95 2 [some (.ref 94), some (vI x1), some (vI 0), none] [] S r S') : EV q 95 0 [some (.ref 94), some (vI x1), none, none] [] S r S' := by
  unfold EV
  refine ev_bk 2 (S' := (2, [some (.ref 94), some (vI x1), some (vI 0), none], [], hp S, 0, 0)) rfl ?_
  exact F
theorem vc_Sorted_orderByRanks_2 {q : Nat × (Nat → Int32)} {S S' : ms} {r : Option Value} (x1 x2 : Int)
    (F : ((w32 x1 < w32 x2) → EV q 95 22 [some (.ref 94), some (vI x1), some (vI 0), none] [] S r S') ∧ ((¬ w32 x1 < w32 x2) → (0 ≤ w32 x2 ∧ w32 x2 < (2501 : Nat)) ∧ ∀ S2 : ms, S2 = wI S 100 (w32 x2) 0 → EV q 95 2 [some (.ref 94), some (vI x1), some (vI (x2 + 1)), none] [] S2 r S')) : EV q 95 2 [some (.ref 94), some (vI x1), some (vI x2), none] [] S r S' := by
  unfold EV
  refine ev_bk 2 (S' := (4, [some (.ref 94), some (vI x1), some (vI x2), none], [vI x1, vI x2], hp S, 0, 0)) rfl ?_
  refine mv_icmp 20 rfl rfl (fun c => ?_) (fun c => ?_)
  · have F := F.1 c
    refine ev_bk 2 (S' := (22, [some (.ref 94), some (vI x1), some (vI 0), none], [], hp S, 0, 0)) rfl ?_
    exact F
  · have F := F.2 c
    refine ev_bk 1 (S' := (8, [some (.ref 94), some (vI x1), some (vI x2), none], [.ref 94], hp S, 0, 0)) rfl ?_
    refine mv_gfR rfl rfl (sh_94) (by decide) rfl ?_
    refine ev_bk 2 (S' := (13, [some (.ref 94), some (vI x1), some (vI x2), none], [vI 0, vI x2, .ref 100], hp S, 0, 0)) rfl ?_
    obtain ⟨b1, F⟩ := F
    refine mv_ias rfl (sh_100) b1 ?_
    have F := F _ rfl
    refine mv_inc (lv' := [some (.ref 94), some (vI x1), some (vI (x2 + 1)), none]) 2 1 rfl rfl rfl rfl ?_
    refine mv_goto 2 rfl rfl ?_
    exact F
theorem vc_Sorted_orderByRanks_22 {q : Nat × (Nat → Int32)} {S S' : ms} {r : Option Value} (x1 x2 : Int)
    (F : ((w32 (S.1 94 1) ≤ w32 x2) → EV q 95 55 [some (.ref 94), some (vI x1), some (vI 1), none] [] S r S') ∧ ((¬ w32 (S.1 94 1) ≤ w32 x2) → (0 ≤ w32 x2 ∧ w32 x2 < (2500 : Nat)) ∧ (0 ≤ w32 ((S.1 98 (w32 x2)) + 1) ∧ w32 ((S.1 98 (w32 x2)) + 1) < (2501 : Nat)) ∧ (0 ≤ w32 ((S.1 98 (w32 x2)) + 1) ∧ w32 ((S.1 98 (w32 x2)) + 1) < (2501 : Nat)) ∧ ∀ S4 : ms, S4 = wI S 100 (w32 ((S.1 98 (w32 x2)) + 1)) ((S.1 100 (w32 ((S.1 98 (w32 x2)) + 1))) + 1) → EV q 95 22 [some (.ref 94), some (vI x1), some (vI (x2 + 1)), none] [] S4 r S')) : EV q 95 22 [some (.ref 94), some (vI x1), some (vI x2), none] [] S r S' := by
  unfold EV
  refine ev_bk 2 (S' := (24, [some (.ref 94), some (vI x1), some (vI x2), none], [.ref 94, vI x2], hp S, 0, 0)) rfl ?_
  refine mv_gfI rfl rfl (sh_94) (by decide) rfl ?_
  refine mv_icmp 53 rfl rfl (fun c => ?_) (fun c => ?_)
  · have F := F.1 c
    refine ev_bk 2 (S' := (55, [some (.ref 94), some (vI x1), some (vI 1), none], [], hp S, 0, 0)) rfl ?_
    exact F
  · have F := F.2 c
    refine ev_bk 1 (S' := (31, [some (.ref 94), some (vI x1), some (vI x2), none], [.ref 94], hp S, 0, 0)) rfl ?_
    refine mv_gfR rfl rfl (sh_94) (by decide) rfl ?_
    refine ev_bk 1 (S' := (35, [some (.ref 94), some (vI x1), some (vI x2), none], [.ref 94, .ref 100], hp S, 0, 0)) rfl ?_
    refine mv_gfR rfl rfl (sh_94) (by decide) rfl ?_
    refine ev_bk 1 (S' := (39, [some (.ref 94), some (vI x1), some (vI x2), none], [vI x2, .ref 98, .ref 100], hp S, 0, 0)) rfl ?_
    obtain ⟨b1, F⟩ := F
    refine mv_ial rfl (sh_98) b1 ?_
    refine ev_bk 1 (S' := (41, [some (.ref 94), some (vI x1), some (vI x2), none], [vI 1, vI (S.1 98 (w32 x2)), .ref 100], hp S, 0, 0)) rfl ?_
    refine mv_iadd rfl ?_
    refine ev_bk 1 (S' := (43, [some (.ref 94), some (vI x1), some (vI x2), none], [vI ((S.1 98 (w32 x2)) + 1), .ref 100, vI ((S.1 98 (w32 x2)) + 1), .ref 100], hp S, 0, 0)) rfl ?_
    obtain ⟨b2, F⟩ := F
    refine mv_ial rfl (sh_100) b2 ?_
    refine ev_bk 1 (S' := (45, [some (.ref 94), some (vI x1), some (vI x2), none], [vI 1, vI (S.1 100 (w32 ((S.1 98 (w32 x2)) + 1))), vI ((S.1 98 (w32 x2)) + 1), .ref 100], hp S, 0, 0)) rfl ?_
    refine mv_iadd rfl ?_
    obtain ⟨b3, F⟩ := F
    refine mv_ias rfl (sh_100) b3 ?_
    have F := F _ rfl
    refine mv_inc (lv' := [some (.ref 94), some (vI x1), some (vI (x2 + 1)), none]) 2 1 rfl rfl rfl rfl ?_
    refine mv_goto 22 rfl rfl ?_
    exact F
theorem vc_Sorted_orderByRanks_55 {q : Nat × (Nat → Int32)} {S S' : ms} {r : Option Value} (x1 x2 : Int)
    (F : ((w32 x1 < w32 x2) → EV q 95 85 [some (.ref 94), some (vI x1), some (vI 0), none] [] S r S') ∧ ((¬ w32 x1 < w32 x2) → (0 ≤ w32 x2 ∧ w32 x2 < (2501 : Nat)) ∧ (0 ≤ w32 (x2 - 1) ∧ w32 (x2 - 1) < (2501 : Nat)) ∧ (0 ≤ w32 x2 ∧ w32 x2 < (2501 : Nat)) ∧ ∀ S4 : ms, S4 = wI S 100 (w32 x2) ((S.1 100 (w32 x2)) + (S.1 100 (w32 (x2 - 1)))) → EV q 95 55 [some (.ref 94), some (vI x1), some (vI (x2 + 1)), none] [] S4 r S')) : EV q 95 55 [some (.ref 94), some (vI x1), some (vI x2), none] [] S r S' := by
  unfold EV
  refine ev_bk 2 (S' := (57, [some (.ref 94), some (vI x1), some (vI x2), none], [vI x1, vI x2], hp S, 0, 0)) rfl ?_
  refine mv_icmp 83 rfl rfl (fun c => ?_) (fun c => ?_)
  · have F := F.1 c
    refine ev_bk 2 (S' := (85, [some (.ref 94), some (vI x1), some (vI 0), none], [], hp S, 0, 0)) rfl ?_
    exact F
  · have F := F.2 c
    refine ev_bk 1 (S' := (61, [some (.ref 94), some (vI x1), some (vI x2), none], [.ref 94], hp S, 0, 0)) rfl ?_
    refine mv_gfR rfl rfl (sh_94) (by decide) rfl ?_
    refine ev_bk 2 (S' := (66, [some (.ref 94), some (vI x1), some (vI x2), none], [vI x2, .ref 100, vI x2, .ref 100], hp S, 0, 0)) rfl ?_
    obtain ⟨b1, F⟩ := F
    refine mv_ial rfl (sh_100) b1 ?_
    refine ev_bk 1 (S' := (68, [some (.ref 94), some (vI x1), some (vI x2), none], [.ref 94, vI (S.1 100 (w32 x2)), vI x2, .ref 100], hp S, 0, 0)) rfl ?_
    refine mv_gfR rfl rfl (sh_94) (by decide) rfl ?_
    refine ev_bk 2 (S' := (73, [some (.ref 94), some (vI x1), some (vI x2), none], [vI 1, vI x2, .ref 100, vI (S.1 100 (w32 x2)), vI x2, .ref 100], hp S, 0, 0)) rfl ?_
    refine mv_isub rfl ?_
    obtain ⟨b2, F⟩ := F
    refine mv_ial rfl (sh_100) b2 ?_
    refine mv_iadd rfl ?_
    obtain ⟨b3, F⟩ := F
    refine mv_ias rfl (sh_100) b3 ?_
    have F := F _ rfl
    refine mv_inc (lv' := [some (.ref 94), some (vI x1), some (vI (x2 + 1)), none]) 2 1 rfl rfl rfl rfl ?_
    refine mv_goto 55 rfl rfl ?_
    exact F
theorem vc_Sorted_orderByRanks_85 {q : Nat × (Nat → Int32)} {S S' : ms} {r : Option Value} (x1 x2 : Int)
    (F : ((w32 (S.1 94 1) ≤ w32 x2) → r = none ∧ S' = S) ∧ ((¬ w32 (S.1 94 1) ≤ w32 x2) → (0 ≤ w32 x2 ∧ w32 x2 < (2500 : Nat)) ∧ (0 ≤ w32 (S.1 97 (w32 x2)) ∧ w32 (S.1 97 (w32 x2)) < (2500 : Nat)) ∧ (0 ≤ w32 (S.1 98 (w32 (S.1 97 (w32 x2)))) ∧ w32 (S.1 98 (w32 (S.1 97 (w32 x2)))) < (2501 : Nat)) ∧ (0 ≤ w32 x2 ∧ w32 x2 < (2500 : Nat)) ∧ (0 ≤ w32 (S.1 100 (w32 (S.1 98 (w32 (S.1 97 (w32 x2)))))) ∧ w32 (S.1 100 (w32 (S.1 98 (w32 (S.1 97 (w32 x2)))))) < (15000 : Nat)) ∧ ∀ S6 : ms, S6 = wI S 96 (w32 (S.1 100 (w32 (S.1 98 (w32 (S.1 97 (w32 x2))))))) (S.1 97 (w32 x2)) → (0 ≤ w32 (S.1 98 (w32 (S.1 97 (w32 x2)))) ∧ w32 (S.1 98 (w32 (S.1 97 (w32 x2)))) < (2501 : Nat)) ∧ (0 ≤ w32 (S.1 98 (w32 (S.1 97 (w32 x2)))) ∧ w32 (S.1 98 (w32 (S.1 97 (w32 x2)))) < (2501 : Nat)) ∧ ∀ S9 : ms, S9 = wI S6 100 (w32 (S.1 98 (w32 (S.1 97 (w32 x2))))) ((S6.1 100 (w32 (S.1 98 (w32 (S.1 97 (w32 x2)))))) + 1) → EV q 95 85 [some (.ref 94), some (vI x1), some (vI (x2 + 1)), none] [] S9 r S')) : EV q 95 85 [some (.ref 94), some (vI x1), some (vI x2), none] [] S r S' := by
  unfold EV
  refine ev_bk 2 (S' := (87, [some (.ref 94), some (vI x1), some (vI x2), none], [.ref 94, vI x2], hp S, 0, 0)) rfl ?_
  refine mv_gfI rfl rfl (sh_94) (by decide) rfl ?_
  refine mv_icmp 138 rfl rfl (fun c => ?_) (fun c => ?_)
  · have F := F.1 c
    obtain ⟨rfl, rfl⟩ := F
    exact ev_ret rfl rfl
  · have F := F.2 c
    refine ev_bk 1 (S' := (94, [some (.ref 94), some (vI x1), some (vI x2), none], [.ref 94], hp S, 0, 0)) rfl ?_
    refine mv_gfR rfl rfl (sh_94) (by decide) rfl ?_
    refine ev_bk 1 (S' := (98, [some (.ref 94), some (vI x1), some (vI x2), none], [.ref 94, .ref 98], hp S, 0, 0)) rfl ?_
    refine mv_gfR rfl rfl (sh_94) (by decide) rfl ?_
    refine ev_bk 1 (S' := (102, [some (.ref 94), some (vI x1), some (vI x2), none], [vI x2, .ref 97, .ref 98], hp S, 0, 0)) rfl ?_
    obtain ⟨b1, F⟩ := F
    refine mv_ial rfl (sh_97) b1 ?_
    obtain ⟨b2, F⟩ := F
    refine mv_ial rfl (sh_98) b2 ?_
    refine ev_bk 2 (S' := (106, [some (.ref 94), some (vI x1), some (vI x2), some (vI (S.1 98 (w32 (S.1 97 (w32 x2)))))], [.ref 94], hp S, 0, 0)) rfl ?_
    refine mv_gfR rfl rfl (sh_94) (by decide) rfl ?_
    refine ev_bk 1 (S' := (110, [some (.ref 94), some (vI x1), some (vI x2), some (vI (S.1 98 (w32 (S.1 97 (w32 x2)))))], [.ref 94, .ref 96], hp S, 0, 0)) rfl ?_
    refine mv_gfR rfl rfl (sh_94) (by decide) rfl ?_
    refine ev_bk 1 (S' := (114, [some (.ref 94), some (vI x1), some (vI x2), some (vI (S.1 98 (w32 (S.1 97 (w32 x2)))))], [vI (S.1 98 (w32 (S.1 97 (w32 x2)))), .ref 100, .ref 96], hp S, 0, 0)) rfl ?_
    obtain ⟨b3, F⟩ := F
    refine mv_ial rfl (sh_100) b3 ?_
    refine ev_bk 1 (S' := (116, [some (.ref 94), some (vI x1), some (vI x2), some (vI (S.1 98 (w32 (S.1 97 (w32 x2)))))], [.ref 94, vI (S.1 100 (w32 (S.1 98 (w32 (S.1 97 (w32 x2)))))), .ref 96], hp S, 0, 0)) rfl ?_
    refine mv_gfR rfl rfl (sh_94) (by decide) rfl ?_
    refine ev_bk 1 (S' := (120, [some (.ref 94), some (vI x1), some (vI x2), some (vI (S.1 98 (w32 (S.1 97 (w32 x2)))))], [vI x2, .ref 97, vI (S.1 100 (w32 (S.1 98 (w32 (S.1 97 (w32 x2)))))), .ref 96], hp S, 0, 0)) rfl ?_
    obtain ⟨b4, F⟩ := F
    refine mv_ial rfl (sh_97) b4 ?_
    obtain ⟨b5, F⟩ := F
    refine mv_ias rfl (sh_96) b5 ?_
    have F := F _ rfl
    refine ev_bk 1 (S' := (123, [some (.ref 94), some (vI x1), some (vI x2), some (vI (S.1 98 (w32 (S.1 97 (w32 x2)))))], [.ref 94], hp (wI S 96 (w32 (S.1 100 (w32 (S.1 98 (w32 (S.1 97 (w32 x2))))))) (S.1 97 (w32 x2))), 0, 0)) rfl ?_
    refine mv_gfR rfl rfl (sh_94) (by decide) rfl ?_
    refine ev_bk 2 (S' := (128, [some (.ref 94), some (vI x1), some (vI x2), some (vI (S.1 98 (w32 (S.1 97 (w32 x2)))))], [vI (S.1 98 (w32 (S.1 97 (w32 x2)))), .ref 100, vI (S.1 98 (w32 (S.1 97 (w32 x2)))), .ref 100], hp (wI S 96 (w32 (S.1 100 (w32 (S.1 98 (w32 (S.1 97 (w32 x2))))))) (S.1 97 (w32 x2))), 0, 0)) rfl ?_
    obtain ⟨b7, F⟩ := F
    refine mv_ial rfl (sh_100) b7 ?_
    refine ev_bk 1 (S' := (130, [some (.ref 94), some (vI x1), some (vI x2), some (vI (S.1 98 (w32 (S.1 97 (w32 x2)))))], [vI 1, vI ((wI S 96 (w32 (S.1 100 (w32 (S.1 98 (w32 (S.1 97 (w32 x2))))))) (S.1 97 (w32 x2))).1 100 (w32 (S.1 98 (w32 (S.1 97 (w32 x2)))))), vI (S.1 98 (w32 (S.1 97 (w32 x2)))), .ref 100], hp (wI S 96 (w32 (S.1 100 (w32 (S.1 98 (w32 (S.1 97 (w32 x2))))))) (S.1 97 (w32 x2))), 0, 0)) rfl ?_
    refine mv_iadd rfl ?_
    obtain ⟨b8, F⟩ := F
    refine mv_ias rfl (sh_100) b8 ?_
    have F := F _ rfl
    refine mv_inc (lv' := [some (.ref 94), some (vI x1), some (vI (x2 + 1)), some (vI (S.1 98 (w32 (S.1 97 (w32 x2)))))]) 2 1 rfl rfl rfl rfl ?_
    refine mv_goto 85 rfl rfl ?_
    exact ev_wk (le_s (le_s (le_s (le_n le_0)))) F
theorem vc_Sorted_rankAnew {q : Nat × (Nat → Int32)} {S S' : ms} {r : Option Value} (x1 : Int)
    (F : EV q 96 4 [some (.ref 94), some (vI x1), some (vI 0), some (vI 0)] [] S r S') : EV q 96 0 [some (.ref 94), some (vI x1), none, none] [] S r S' := by
  unfold EV
  refine ev_bk 4 (S' := (4, [some (.ref 94), some (vI x1), some (vI 0), some (vI 0)], [], hp S, 0, 0)) rfl ?_
  exact F
theorem vc_Sorted_rankAnew_4 {q : Nat × (Nat → Int32)} {S S' : ms} {r : Option Value} (x1 x2 x3 : Int)
    (F : ((w32 (S.1 94 1) ≤ w32 x3) → (0 ≤ w32 0 ∧ 0 ≤ w32 0 ∧ 0 ≤ w32 (S.1 94 1) ∧ w32 0 + w32 (S.1 94 1) ≤ (2500 : Nat) ∧ w32 0 + w32 (S.1 94 1) ≤ (2500 : Nat)) ∧ ∀ S2 : ms, S2 = wC S 98 (w32 0) (w32 (S.1 94 1)) (fun k => S.1 99 (w32 0 + k)) → r = some (vI (x2 + 1)) ∧ S' = S2) ∧ ((¬ w32 (S.1 94 1) ≤ w32 x3) → ((w32 x3 ≤ 0) → EV q 96 83 [some (.ref 94), some (vI x1), some (vI x2), some (vI x3)] [] S r S') ∧ ((¬ w32 x3 ≤ 0) → (0 ≤ w32 x3 ∧ w32 x3 < (15000 : Nat)) ∧ (0 ≤ w32 (S.1 96 (w32 x3)) ∧ w32 (S.1 96 (w32 x3)) < (2500 : Nat)) ∧ (0 ≤ w32 (x3 - 1) ∧ w32 (x3 - 1) < (15000 : Nat)) ∧ (0 ≤ w32 (S.1 96 (w32 (x3 - 1))) ∧ w32 (S.1 96 (w32 (x3 - 1))) < (2500 : Nat)) ∧ ((¬ w32 (S.1 98 (w32 (S.1 96 (w32 x3)))) = w32 (S.1 98 (w32 (S.1 96 (w32 (x3 - 1)))))) → EV q 96 80 [some (.ref 94), some (vI x1), some (vI x2), some (vI x3)] [] S r S') ∧ ((¬ (¬ w32 (S.1 98 (w32 (S.1 96 (w32 x3)))) = w32 (S.1 98 (w32 (S.1 96 (w32 (x3 - 1))))))) → (0 ≤ w32 x3 ∧ w32 x3 < (15000 : Nat)) ∧ ∃ (z10 : Int) (S8 : ms), EV q 97 0 [some (.ref 94), some (vI (S.1 96 (w32 x3))), some (vI x1)] [] S (some (vI z10)) S8 ∧ (0 ≤ w32 z10 ∧ w32 z10 < (2500 : Nat)) ∧ (0 ≤ w32 (x3 - 1) ∧ w32 (x3 - 1) < (15000 : Nat)) ∧ ∃ (z15 : Int) (S13 : ms), EV q 97 0 [some (.ref 94), some (vI (S8.1 96 (w32 (x3 - 1)))), some (vI x1)] [] S8 (some (vI z15)) S13 ∧ (0 ≤ w32 z15 ∧ w32 z15 < (2500 : Nat)) ∧ ((w32 (S8.1 98 (w32 z10)) = w32 (S13.1 98 (w32 z15))) → EV q 96 83 [some (.ref 94), some (vI x1), some (vI x2), some (vI x3)] [] S13 r S') ∧ ((¬ w32 (S8.1 98 (w32 z10)) = w32 (S13.1 98 (w32 z15))) → EV q 96 80 [some (.ref 94), some (vI x1), some (vI x2), some (vI x3)] [] S13 r S'))))) : EV q 96 4 [some (.ref 94), some (vI x1), some (vI x2), some (vI x3)] [] S r S' := by
  unfold EV
  refine ev_bk 2 (S' := (6, [some (.ref 94), some (vI x1), some (vI x2), some (vI x3)], [.ref 94, vI x3], hp S, 0, 0)) rfl ?_
  refine mv_gfI rfl rfl (sh_94) (by decide) rfl ?_
  refine mv_icmp 101 rfl rfl (fun c => ?_) (fun c => ?_)
  · have F := F.1 c
    refine ev_bk 1 (S' := (102, [some (.ref 94), some (vI x1), some (vI x2), some (vI x3)], [.ref 94], hp S, 0, 0)) rfl ?_
    refine mv_gfR rfl rfl (sh_94) (by decide) rfl ?_
    refine ev_bk 2 (S' := (107, [some (.ref 94), some (vI x1), some (vI x2), some (vI x3)], [.ref 94, vI 0, .ref 99], hp S, 0, 0)) rfl ?_
    refine mv_gfR rfl rfl (sh_94) (by decide) rfl ?_
    refine ev_bk 2 (S' := (112, [some (.ref 94), some (vI x1), some (vI x2), some (vI x3)], [.ref 94, vI 0, .ref 98, vI 0, .ref 99], hp S, 0, 0)) rfl ?_
    refine mv_gfI rfl rfl (sh_94) (by decide) rfl ?_
    obtain ⟨b1, F⟩ := F
    refine mv_cpy rfl rfl ⟨by decide, by decide⟩ (sh_98) (sh_99) b1 ?_
    have F := F _ rfl
    refine ev_bk 2 (S' := (120, [some (.ref 94), some (vI x1), some (vI x2), some (vI x3)], [vI 1, vI x2], hp (wC S 98 (w32 0) (w32 (S.1 94 1)) (fun k => S.1 99 (w32 0 + k))), 0, 0)) rfl ?_
    refine mv_iadd rfl ?_
    obtain ⟨rfl, rfl⟩ := F
    exact ev_ret rfl rfl
  · have F := F.2 c
    refine ev_bk 1 (S' := (13, [some (.ref 94), some (vI x1), some (vI x2), some (vI x3)], [vI x3], hp S, 0, 0)) rfl ?_
    refine mv_if 83 rfl rfl (fun c => ?_) (fun c => ?_)
    · have F := F.1 c
      exact F
    · have F := F.2 c
      refine ev_bk 1 (S' := (17, [some (.ref 94), some (vI x1), some (vI x2), some (vI x3)], [.ref 94], hp S, 0, 0)) rfl ?_
      refine mv_gfR rfl rfl (sh_94) (by decide) rfl ?_
      refine ev_bk 1 (S' := (21, [some (.ref 94), some (vI x1), some (vI x2), some (vI x3)], [.ref 94, .ref 98], hp S, 0, 0)) rfl ?_
      refine mv_gfR rfl rfl (sh_94) (by decide) rfl ?_
      refine ev_bk 1 (S' := (25, [some (.ref 94), some (vI x1), some (vI x2), some (vI x3)], [vI x3, .ref 96, .ref 98], hp S, 0, 0)) rfl ?_
      obtain ⟨b3, F⟩ := F
      refine mv_ial rfl (sh_96) b3 ?_
      obtain ⟨b4, F⟩ := F
      refine mv_ial rfl (sh_98) b4 ?_
      refine ev_bk 1 (S' := (28, [some (.ref 94), some (vI x1), some (vI x2), some (vI x3)], [.ref 94, vI (S.1 98 (w32 (S.1 96 (w32 x3))))], hp S, 0, 0)) rfl ?_
      refine mv_gfR rfl rfl (sh_94) (by decide) rfl ?_
      refine ev_bk 1 (S' := (32, [some (.ref 94), some (vI x1), some (vI x2), some (vI x3)], [.ref 94, .ref 98, vI (S.1 98 (w32 (S.1 96 (w32 x3))))], hp S, 0, 0)) rfl ?_
      refine mv_gfR rfl rfl (sh_94) (by decide) rfl ?_
      refine ev_bk 2 (S' := (37, [some (.ref 94), some (vI x1), some (vI x2), some (vI x3)], [vI 1, vI x3, .ref 96, .ref 98, vI (S.1 98 (w32 (S.1 96 (w32 x3))))], hp S, 0, 0)) rfl ?_
      refine mv_isub rfl ?_
      obtain ⟨b5, F⟩ := F
      refine mv_ial rfl (sh_96) b5 ?_
      obtain ⟨b6, F⟩ := F
      refine mv_ial rfl (sh_98) b6 ?_
      refine mv_icmp 80 rfl rfl (fun c => ?_) (fun c => ?_)
      · have F := F.1 c
        exact F
      · have F := F.2 c
        refine ev_bk 1 (S' := (44, [some (.ref 94), some (vI x1), some (vI x2), some (vI x3)], [.ref 94], hp S, 0, 0)) rfl ?_
        refine mv_gfR rfl rfl (sh_94) (by decide) rfl ?_
        refine ev_bk 2 (S' := (49, [some (.ref 94), some (vI x1), some (vI x2), some (vI x3)], [.ref 94, .ref 94, .ref 98], hp S, 0, 0)) rfl ?_
        refine mv_gfR rfl rfl (sh_94) (by decide) rfl ?_
        refine ev_bk 1 (S' := (53, [some (.ref 94), some (vI x1), some (vI x2), some (vI x3)], [vI x3, .ref 96, .ref 94, .ref 98], hp S, 0, 0)) rfl ?_
        obtain ⟨b7, F⟩ := F
        refine mv_ial rfl (sh_96) b7 ?_
        refine ev_bk 1 (S' := (55, [some (.ref 94), some (vI x1), some (vI x2), some (vI x3)], [vI x1, vI (S.1 96 (w32 x3)), .ref 94, .ref 98], hp S, 0, 0)) rfl ?_
        obtain ⟨z10, S8, e9, F⟩ := F
        refine mv_calv (as := [vI (S.1 96 (w32 x3)), vI x1]) (rest := [.ref 98]) e9 (sh_94) rfl rfl rfl ⟨rfl, rfl⟩ rfl rfl rfl rfl rfl ?_
        obtain ⟨b11, F⟩ := F
        refine mv_ial rfl (sh_98) b11 ?_
        refine ev_bk 1 (S' := (60, [some (.ref 94), some (vI x1), some (vI x2), some (vI x3)], [.ref 94, vI (S8.1 98 (w32 z10))], hp S8, 0, 0)) rfl ?_
        refine mv_gfR rfl rfl (sh_94) (by decide) rfl ?_
        refine ev_bk 2 (S' := (65, [some (.ref 94), some (vI x1), some (vI x2), some (vI x3)], [.ref 94, .ref 94, .ref 98, vI (S8.1 98 (w32 z10))], hp S8, 0, 0)) rfl ?_
        refine mv_gfR rfl rfl (sh_94) (by decide) rfl ?_
        refine ev_bk 2 (S' := (70, [some (.ref 94), some (vI x1), some (vI x2), some (vI x3)], [vI 1, vI x3, .ref 96, .ref 94, .ref 98, vI (S8.1 98 (w32 z10))], hp S8, 0, 0)) rfl ?_
        refine mv_isub rfl ?_
        obtain ⟨b12, F⟩ := F
        refine mv_ial rfl (sh_96) b12 ?_
        refine ev_bk 1 (S' := (73, [some (.ref 94), some (vI x1), some (vI x2), some (vI x3)], [vI x1, vI (S8.1 96 (w32 (x3 - 1))), .ref 94, .ref 98, vI (S8.1 98 (w32 z10))], hp S8, 0, 0)) rfl ?_
        obtain ⟨z15, S13, e14, F⟩ := F
        refine mv_calv (as := [vI (S8.1 96 (w32 (x3 - 1))), vI x1]) (rest := [.ref 98, vI (S8.1 98 (w32 z10))]) e14 (sh_94) rfl rfl rfl ⟨rfl, rfl⟩ rfl rfl rfl rfl rfl ?_
        obtain ⟨b16, F⟩ := F
        refine mv_ial rfl (sh_98) b16 ?_
        refine mv_icmp 83 rfl rfl (fun c => ?_) (fun c => ?_)
        · have F := F.1 c
          exact F
        · have F := F.2 c
          exact F
theorem vc_Sorted_rankAnew_80 {q : Nat × (Nat → Int32)} {S S' : ms} {r : Option Value} (x1 x2 x3 : Int)
    (F : EV q 96 83 [some (.ref 94), some (vI x1), some (vI (x2 + 1)), some (vI x3)] [] S r S') : EV q 96 80 [some (.ref 94), some (vI x1), some (vI x2), some (vI x3)] [] S r S' := by
  unfold EV
  refine mv_inc (lv' := [some (.ref 94), some (vI x1), some (vI (x2 + 1)), some (vI x3)]) 2 1 rfl rfl rfl rfl ?_
  exact F
theorem vc_Sorted_rankAnew_83 {q : Nat × (Nat → Int32)} {S S' : ms} {r : Option Value} (x1 x2 x3 : Int)
    (F : (0 ≤ w32 x3 ∧ w32 x3 < (15000 : Nat)) ∧ (0 ≤ w32 (S.1 96 (w32 x3)) ∧ w32 (S.1 96 (w32 x3)) < (2500 : Nat)) ∧ ∀ S3 : ms, S3 = wI S 99 (w32 (S.1 96 (w32 x3))) x2 → EV q 96 4 [some (.ref 94), some (vI x1), some (vI x2), some (vI (x3 + 1))] [] S3 r S') : EV q 96 83 [some (.ref 94), some (vI x1), some (vI x2), some (vI x3)] [] S r S' := by
  unfold EV
  refine ev_bk 1 (S' := (84, [some (.ref 94), some (vI x1), some (vI x2), some (vI x3)], [.ref 94], hp S, 0, 0)) rfl ?_
  refine mv_gfR rfl rfl (sh_94) (by decide) rfl ?_
  refine ev_bk 1 (S' := (88, [some (.ref 94), some (vI x1), some (vI x2), some (vI x3)], [.ref 94, .ref 99], hp S, 0, 0)) rfl ?_
  refine mv_gfR rfl rfl (sh_94) (by decide) rfl ?_
  refine ev_bk 1 (S' := (92, [some (.ref 94), some (vI x1), some (vI x2), some (vI x3)], [vI x3, .ref 96, .ref 99], hp S, 0, 0)) rfl ?_
  obtain ⟨b1, F⟩ := F
  refine mv_ial rfl (sh_96) b1 ?_
  refine ev_bk 1 (S' := (94, [some (.ref 94), some (vI x1), some (vI x2), some (vI x3)], [vI x2, vI (S.1 96 (w32 x3)), .ref 99], hp S, 0, 0)) rfl ?_
  obtain ⟨b2, F⟩ := F
  refine mv_ias rfl (sh_99) b2 ?_
  have F := F _ rfl
  refine mv_inc (lv' := [some (.ref 94), some (vI x1), some (vI x2), some (vI (x3 + 1))]) 3 1 rfl rfl rfl rfl ?_
  refine mv_goto 4 rfl rfl ?_
  exact F
theorem vc_Sorted_behind {q : Nat × (Nat → Int32)} {S S' : ms} {r : Option Value} (x1 x2 : Int)
    (F : ((w32 (S.1 94 1) ≤ w32 (x1 + x2)) → r = some (vI ((x1 + x2) - (S.1 94 1))) ∧ S' = S) ∧ ((¬ w32 (S.1 94 1) ≤ w32 (x1 + x2)) → r = some (vI (x1 + x2)) ∧ S' = S)) : EV q 97 0 [some (.ref 94), some (vI x1), some (vI x2)] [] S r S' := by
  unfold EV
  refine ev_bk 2 (S' := (2, [some (.ref 94), some (vI x1), some (vI x2)], [vI x2, vI x1], hp S, 0, 0)) rfl ?_
  refine mv_iadd rfl ?_
  refine ev_bk 1 (S' := (4, [some (.ref 94), some (vI x1), some (vI x2)], [.ref 94, vI (x1 + x2)], hp S, 0, 0)) rfl ?_
  refine mv_gfI rfl rfl (sh_94) (by decide) rfl ?_
  refine mv_icmp 16 rfl rfl (fun c => ?_) (fun c => ?_)
  · have F := F.1 c
    refine ev_bk 2 (S' := (18, [some (.ref 94), some (vI x1), some (vI x2)], [vI x2, vI x1], hp S, 0, 0)) rfl ?_
    refine mv_iadd rfl ?_
    refine ev_bk 1 (S' := (20, [some (.ref 94), some (vI x1), some (vI x2)], [.ref 94, vI (x1 + x2)], hp S, 0, 0)) rfl ?_
    refine mv_gfI rfl rfl (sh_94) (by decide) rfl ?_
    refine mv_isub rfl ?_
    obtain ⟨rfl, rfl⟩ := F
    exact ev_ret rfl rfl
  · have F := F.2 c
    refine ev_bk 2 (S' := (12, [some (.ref 94), some (vI x1), some (vI x2)], [vI x2, vI x1], hp S, 0, 0)) rfl ?_
    refine mv_iadd rfl ?_
    refine mv_goto 24 rfl rfl ?_
    obtain ⟨rfl, rfl⟩ := F
    exact ev_ret rfl rfl
theorem vc_Sorted_lastOctets {q : Nat × (Nat → Int32)} {S S' : ms} {r : Option Value} (a1 na1 : Nat) (ha1 : isRow a1 na1)
    (F : EV q 99 4 [some (.ref 94), some (.ref a1), some (vI 0), some (vI 0)] [] S r S') : EV q 99 0 [some (.ref 94), some (.ref a1), none, none] [] S r S' := by
  unfold EV
  refine ev_bk 4 (S' := (4, [some (.ref 94), some (.ref a1), some (vI 0), some (vI 0)], [], hp S, 0, 0)) rfl ?_
  exact F
theorem vc_Sorted_lastOctets_4 {q : Nat × (Nat → Int32)} {S S' : ms} {r : Option Value} (x2 x3 : Int) (a1 na1 : Nat) (ha1 : isRow a1 na1)
    (F : ((w32 (S.1 94 1) ≤ w32 x3) → ∃ (S1 : ms), EV q 98 0 [some (.ref a1), some (vL (w32 x2)), none, some (vI 24), none, none, none, none] [] S none S1 ∧ r = none ∧ S' = S1) ∧ ((¬ w32 (S.1 94 1) ≤ w32 x3) → (0 ≤ w32 x3 ∧ w32 x3 < (15000 : Nat)) ∧ ((¬ w32 (S.1 96 (w32 x3)) = 0) → (0 ≤ w32 x3 ∧ w32 x3 < (15000 : Nat)) ∧ EV q 99 47 [some (.ref 94), some (.ref a1), some (vI x2), some (vI x3)] [vI ((S.1 96 (w32 x3)) - 1), .ref 95, vI x3, .ref 101] S r S') ∧ ((¬ (¬ w32 (S.1 96 (w32 x3)) = 0)) → EV q 99 47 [some (.ref 94), some (.ref a1), some (vI x2), some (vI x3)] [vI ((S.1 94 1) - 1), .ref 95, vI x3, .ref 101] S r S'))) : EV q 99 4 [some (.ref 94), some (.ref a1), some (vI x2), some (vI x3)] [] S r S' := by
  unfold EV
  refine ev_bk 2 (S' := (6, [some (.ref 94), some (.ref a1), some (vI x2), some (vI x3)], [.ref 94, vI x3], hp S, 0, 0)) rfl ?_
  refine mv_gfI rfl rfl (sh_94) (by decide) rfl ?_
  refine mv_icmp 66 rfl rfl (fun c => ?_) (fun c => ?_)
  · have F := F.1 c
    refine ev_bk 2 (S' := (68, [some (.ref 94), some (.ref a1), some (vI x2), some (vI x3)], [vI x2, .ref a1], hp S, 0, 0)) rfl ?_
    refine mv_i2l rfl ?_
    refine ev_bk 1 (S' := (71, [some (.ref 94), some (.ref a1), some (vI x2), some (vI x3)], [vI 24, vL (w32 x2), .ref a1], hp S, 0, 0)) rfl ?_
    obtain ⟨S1, e2, F⟩ := F
    refine mv_calv (as := [vL (w32 x2), vI 24]) (rest := []) e2 (ha1.1) rfl rfl rfl ⟨rfl, rfl⟩ rfl rfl rfl rfl rfl ?_
    obtain ⟨rfl, rfl⟩ := F
    exact ev_ret rfl rfl
  · have F := F.2 c
    refine ev_bk 1 (S' := (13, [some (.ref 94), some (.ref a1), some (vI x2), some (vI x3)], [.ref 94], hp S, 0, 0)) rfl ?_
    refine mv_gfR rfl rfl (sh_94) (by decide) rfl ?_
    refine ev_bk 2 (S' := (18, [some (.ref 94), some (.ref a1), some (vI x2), some (vI x3)], [.ref 94, vI x3, .ref 101], hp S, 0, 0)) rfl ?_
    refine mv_gfR rfl rfl (sh_94) (by decide) rfl ?_
    refine ev_bk 1 (S' := (22, [some (.ref 94), some (.ref a1), some (vI x2), some (vI x3)], [.ref 94, .ref 95, vI x3, .ref 101], hp S, 0, 0)) rfl ?_
    refine mv_gfR rfl rfl (sh_94) (by decide) rfl ?_
    refine ev_bk 1 (S' := (26, [some (.ref 94), some (.ref a1), some (vI x2), some (vI x3)], [vI x3, .ref 96, .ref 95, vI x3, .ref 101], hp S, 0, 0)) rfl ?_
    obtain ⟨b3, F⟩ := F
    refine mv_ial rfl (sh_96) b3 ?_
    refine mv_if 39 rfl rfl (fun c => ?_) (fun c => ?_)
    · have F := F.1 c
      refine ev_bk 1 (S' := (40, [some (.ref 94), some (.ref a1), some (vI x2), some (vI x3)], [.ref 94, .ref 95, vI x3, .ref 101], hp S, 0, 0)) rfl ?_
      refine mv_gfR rfl rfl (sh_94) (by decide) rfl ?_
      refine ev_bk 1 (S' := (44, [some (.ref 94), some (.ref a1), some (vI x2), some (vI x3)], [vI x3, .ref 96, .ref 95, vI x3, .ref 101], hp S, 0, 0)) rfl ?_
      obtain ⟨b4, F⟩ := F
      refine mv_ial rfl (sh_96) b4 ?_
      refine ev_bk 1 (S' := (46, [some (.ref 94), some (.ref a1), some (vI x2), some (vI x3)], [vI 1, vI (S.1 96 (w32 x3)), .ref 95, vI x3, .ref 101], hp S, 0, 0)) rfl ?_
      refine mv_isub rfl ?_
      exact F
    · have F := F.2 c
      refine ev_bk 1 (S' := (31, [some (.ref 94), some (.ref a1), some (vI x2), some (vI x3)], [.ref 94, .ref 95, vI x3, .ref 101], hp S, 0, 0)) rfl ?_
      refine mv_gfI rfl rfl (sh_94) (by decide) rfl ?_
      refine ev_bk 1 (S' := (35, [some (.ref 94), some (.ref a1), some (vI x2), some (vI x3)], [vI 1, vI (S.1 94 1), .ref 95, vI x3, .ref 101], hp S, 0, 0)) rfl ?_
      refine mv_isub rfl ?_
      refine mv_goto 47 rfl rfl ?_
      exact F
theorem vc_Sorted_lastOctets_47 {q : Nat × (Nat → Int32)} {S S' : ms} {r : Option Value} (x2 x3 y0 y2 : Int) (a1 na1 : Nat) (ha1 : isRow a1 na1)
    (F : (0 ≤ w32 y0 ∧ w32 y0 < (2500 : Nat)) ∧ (0 ≤ w32 y2 ∧ w32 y2 < (15000 : Nat)) ∧ ∀ S3 : ms, S3 = wI S 101 (w32 y2) (S.1 95 (w32 y0)) → (0 ≤ w32 x3 ∧ w32 x3 < (15000 : Nat)) ∧ ((¬ w32 (S3.1 96 (w32 x3)) = 0) → EV q 99 60 [some (.ref 94), some (.ref a1), some (vI x2), some (vI x3)] [] S3 r S') ∧ ((¬ (¬ w32 (S3.1 96 (w32 x3)) = 0)) → EV q 99 60 [some (.ref 94), some (.ref a1), some (vI x3), some (vI x3)] [] S3 r S')) : EV q 99 47 [some (.ref 94), some (.ref a1), some (vI x2), some (vI x3)] [vI y0, .ref 95, vI y2, .ref 101] S r S' := by
  unfold EV
  obtain ⟨b1, F⟩ := F
  refine mv_ial rfl (sh_95) b1 ?_
  obtain ⟨b2, F⟩ := F
  refine mv_ias rfl (sh_101) b2 ?_
  have F := F _ rfl
  refine ev_bk 1 (S' := (50, [some (.ref 94), some (.ref a1), some (vI x2), some (vI x3)], [.ref 94], hp (wI S 101 (w32 y2) (S.1 95 (w32 y0))), 0, 0)) rfl ?_
  refine mv_gfR rfl rfl (sh_94) (by decide) rfl ?_
  refine ev_bk 1 (S' := (54, [some (.ref 94), some (.ref a1), some (vI x2), some (vI x3)], [vI x3, .ref 96], hp (wI S 101 (w32 y2) (S.1 95 (w32 y0))), 0, 0)) rfl ?_
  obtain ⟨b4, F⟩ := F
  refine mv_ial rfl (sh_96) b4 ?_
  refine mv_if 60 rfl rfl (fun c => ?_) (fun c => ?_)
  · have F := F.1 c
    exact F
  · have F := F.2 c
    refine ev_bk 2 (S' := (60, [some (.ref 94), some (.ref a1), some (vI x3), some (vI x3)], [], hp (wI S 101 (w32 y2) (S.1 95 (w32 y0))), 0, 0)) rfl ?_
    exact F
theorem vc_Sorted_lastOctets_60 {q : Nat × (Nat → Int32)} {S S' : ms} {r : Option Value} (x2 x3 : Int) (a1 na1 : Nat) (ha1 : isRow a1 na1)
    (F : EV q 99 4 [some (.ref 94), some (.ref a1), some (vI x2), some (vI (x3 + 1))] [] S r S') : EV q 99 60 [some (.ref 94), some (.ref a1), some (vI x2), some (vI x3)] [] S r S' := by
  unfold EV
  refine mv_inc (lv' := [some (.ref 94), some (.ref a1), some (vI x2), some (vI (x3 + 1))]) 3 1 rfl rfl rfl rfl ?_
  refine mv_goto 4 rfl rfl ?_
  exact F
theorem vc_Sorted_signsOut {q : Nat × (Nat → Int32)} {S S' : ms} {r : Option Value} (a1 na1 : Nat) (ha1 : isRow a1 na1)
    (F : ∃ (S1 : ms), EV q 11 0 [some (.ref 104), some (vI 0), none, none] [] S none S1 ∧ EV q 100 10 [some (.ref 94), some (.ref a1), some (vI 0), none, none] [] S1 r S') : EV q 100 0 [some (.ref 94), some (.ref a1), none, none, none] [] S r S' := by
  unfold EV
  refine ev_bk 1 (S' := (1, [some (.ref 94), some (.ref a1), none, none, none], [.ref 94], hp S, 0, 0)) rfl ?_
  refine mv_gfR rfl rfl (sh_94) (by decide) rfl ?_
  refine ev_bk 1 (S' := (5, [some (.ref 94), some (.ref a1), none, none, none], [vI 0, .ref 104], hp S, 0, 0)) rfl ?_
  obtain ⟨S1, e2, F⟩ := F
  refine mv_cals (as := [.ref 104, vI 0]) (rest := []) e2 rfl rfl rfl ⟨rfl, rfl, rfl⟩ rfl rfl rfl rfl ?_
  refine ev_bk 2 (S' := (10, [some (.ref 94), some (.ref a1), some (vI 0), none, none], [], hp S1, 0, 0)) rfl ?_
  exact F
theorem vc_Sorted_signsOut_10 {q : Nat × (Nat → Int32)} {S S' : ms} {r : Option Value} (x2 : Int) (a1 na1 : Nat) (ha1 : isRow a1 na1)
    (F : ((w32 (S.1 94 1) ≤ w32 x2) → ∀ S1 : ms, S1 = wI S 94 9 0 → EV q 100 45 [some (.ref 94), some (.ref a1), some (vI 0), some (vI 0), none] [] S1 r S') ∧ ((¬ w32 (S.1 94 1) ≤ w32 x2) → (0 ≤ w32 x2 ∧ w32 x2 < (15000 : Nat)) ∧ (0 ≤ w32 (S.1 101 (w32 x2)) ∧ w32 (S.1 101 (w32 x2)) < (258 : Nat)) ∧ ∀ S4 : ms, S4 = wI S 104 (w32 (S.1 101 (w32 x2))) 1 → EV q 100 10 [some (.ref 94), some (.ref a1), some (vI (x2 + 1)), none, none] [] S4 r S')) : EV q 100 10 [some (.ref 94), some (.ref a1), some (vI x2), none, none] [] S r S' := by
  unfold EV
  refine ev_bk 2 (S' := (12, [some (.ref 94), some (.ref a1), some (vI x2), none, none], [.ref 94, vI x2], hp S, 0, 0)) rfl ?_
  refine mv_gfI rfl rfl (sh_94) (by decide) rfl ?_
  refine mv_icmp 36 rfl rfl (fun c => ?_) (fun c => ?_)
  · have F := F.1 c
    refine ev_bk 2 (S' := (38, [some (.ref 94), some (.ref a1), some (vI x2), none, none], [vI 0, .ref 94], hp S, 0, 0)) rfl ?_
    refine mv_pfI rfl rfl (sh_94) (by decide) rfl rfl ?_
    have F := F _ rfl
    refine ev_bk 4 (S' := (45, [some (.ref 94), some (.ref a1), some (vI 0), some (vI 0), none], [], hp (wI S 94 9 0), 0, 0)) rfl ?_
    exact F
  · have F := F.2 c
    refine ev_bk 1 (S' := (19, [some (.ref 94), some (.ref a1), some (vI x2), none, none], [.ref 94], hp S, 0, 0)) rfl ?_
    refine mv_gfR rfl rfl (sh_94) (by decide) rfl ?_
    refine ev_bk 1 (S' := (23, [some (.ref 94), some (.ref a1), some (vI x2), none, none], [.ref 94, .ref 104], hp S, 0, 0)) rfl ?_
    refine mv_gfR rfl rfl (sh_94) (by decide) rfl ?_
    refine ev_bk 1 (S' := (27, [some (.ref 94), some (.ref a1), some (vI x2), none, none], [vI x2, .ref 101, .ref 104], hp S, 0, 0)) rfl ?_
    obtain ⟨b2, F⟩ := F
    refine mv_ial rfl (sh_101) b2 ?_
    refine ev_bk 1 (S' := (29, [some (.ref 94), some (.ref a1), some (vI x2), none, none], [vI 1, vI (S.1 101 (w32 x2)), .ref 104], hp S, 0, 0)) rfl ?_
    obtain ⟨b3, F⟩ := F
    refine mv_ias rfl (sh_104) b3 ?_
    have F := F _ rfl
    refine mv_inc (lv' := [some (.ref 94), some (.ref a1), some (vI (x2 + 1)), none, none]) 2 1 rfl rfl rfl rfl ?_
    refine mv_goto 10 rfl rfl ?_
    exact F
theorem vc_Sorted_signsOut_45 {q : Nat × (Nat → Int32)} {S S' : ms} {r : Option Value} (x2 x3 : Int) (a1 na1 : Nat) (ha1 : isRow a1 na1)
    (F : ((256 ≤ w32 x3) → ∃ (S1 : ms), EV q 98 0 [some (.ref a1), some (vL (w32 x2)), none, some (vI 16), none, none, none, none] [] S none S1 ∧ EV q 100 107 [some (.ref 94), some (.ref a1), some (vI x2), some (vI 0), none] [] S1 r S') ∧ ((¬ 256 ≤ w32 x3) → (0 ≤ w32 x3 ∧ w32 x3 < (258 : Nat)) ∧ ((w32 (S.1 104 (w32 x3)) ≤ 0) → EV q 100 91 [some (.ref 94), some (.ref a1), some (vI x2), some (vI x3), none] [] S r S') ∧ ((¬ w32 (S.1 104 (w32 x3)) ≤ 0) → (0 ≤ w32 (S.1 94 9) ∧ w32 (S.1 94 9) < (256 : Nat)) ∧ ∀ S5 : ms, S5 = wI S 102 (w32 (S.1 94 9)) x3 → ∀ S6 : ms, S6 = wI S5 94 9 (S5.1 94 9 + 1) → EV q 100 91 [some (.ref 94), some (.ref a1), some (vI (bO x2 (w32 32768 / ((2 : Int) ^ ((Int.tdiv (w32 x3) (w32 16)) % 32).toNat)))), some (vI x3), none] [] S6 r S'))) : EV q 100 45 [some (.ref 94), some (.ref a1), some (vI x2), some (vI x3), none] [] S r S' := by
  unfold EV
  refine ev_bk 2 (S' := (49, [some (.ref 94), some (.ref a1), some (vI x2), some (vI x3), none], [vI 256, vI x3], hp S, 0, 0)) rfl ?_
  refine mv_icmp 97 rfl rfl (fun c => ?_) (fun c => ?_)
  · have F := F.1 c
    refine ev_bk 2 (S' := (99, [some (.ref 94), some (.ref a1), some (vI x2), some (vI x3), none], [vI x2, .ref a1], hp S, 0, 0)) rfl ?_
    refine mv_i2l rfl ?_
    refine ev_bk 1 (S' := (102, [some (.ref 94), some (.ref a1), some (vI x2), some (vI x3), none], [vI 16, vL (w32 x2), .ref a1], hp S, 0, 0)) rfl ?_
    obtain ⟨S1, e2, F⟩ := F
    refine mv_calv (as := [vL (w32 x2), vI 16]) (rest := []) e2 (ha1.1) rfl rfl rfl ⟨rfl, rfl⟩ rfl rfl rfl rfl rfl ?_
    refine ev_bk 2 (S' := (107, [some (.ref 94), some (.ref a1), some (vI x2), some (vI 0), none], [], hp S1, 0, 0)) rfl ?_
    exact F
  · have F := F.2 c
    refine ev_bk 1 (S' := (53, [some (.ref 94), some (.ref a1), some (vI x2), some (vI x3), none], [.ref 94], hp S, 0, 0)) rfl ?_
    refine mv_gfR rfl rfl (sh_94) (by decide) rfl ?_
    refine ev_bk 1 (S' := (57, [some (.ref 94), some (.ref a1), some (vI x2), some (vI x3), none], [vI x3, .ref 104], hp S, 0, 0)) rfl ?_
    obtain ⟨b3, F⟩ := F
    refine mv_ial rfl (sh_104) b3 ?_
    refine mv_if 91 rfl rfl (fun c => ?_) (fun c => ?_)
    · have F := F.1 c
      exact F
    · have F := F.2 c
      refine ev_bk 1 (S' := (62, [some (.ref 94), some (.ref a1), some (vI x2), some (vI x3), none], [.ref 94], hp S, 0, 0)) rfl ?_
      refine mv_gfR rfl rfl (sh_94) (by decide) rfl ?_
      refine ev_bk 1 (S' := (66, [some (.ref 94), some (.ref a1), some (vI x2), some (vI x3), none], [.ref 94, .ref 102], hp S, 0, 0)) rfl ?_
      refine mv_gfI rfl rfl (sh_94) (by decide) rfl ?_
      refine ev_bk 1 (S' := (70, [some (.ref 94), some (.ref a1), some (vI x2), some (vI x3), none], [vI x3, vI (S.1 94 9), .ref 102], hp S, 0, 0)) rfl ?_
      obtain ⟨b4, F⟩ := F
      refine mv_ias rfl (sh_102) b4 ?_
      have F := F _ rfl
      refine ev_bk 2 (S' := (73, [some (.ref 94), some (.ref a1), some (vI x2), some (vI x3), none], [.ref 94, .ref 94], hp (wI S 102 (w32 (S.1 94 9)) x3), 0, 0)) rfl ?_
      refine mv_gfI rfl rfl (sh_94) (by decide) rfl ?_
      refine ev_bk 1 (S' := (77, [some (.ref 94), some (.ref a1), some (vI x2), some (vI x3), none], [vI 1, vI ((wI S 102 (w32 (S.1 94 9)) x3).1 94 9), .ref 94], hp (wI S 102 (w32 (S.1 94 9)) x3), 0, 0)) rfl ?_
      refine mv_iadd rfl ?_
      refine mv_pfI rfl rfl (sh_94) (by decide) rfl rfl ?_
      have F := F _ rfl
      refine ev_bk 4 (S' := (87, [some (.ref 94), some (.ref a1), some (vI x2), some (vI x3), none], [vI 16, vI x3, vI 32768, vI x2], hp (wI (wI S 102 (w32 (S.1 94 9)) x3) 94 9 ((wI S 102 (w32 (S.1 94 9)) x3).1 94 9 + 1)), 0, 0)) rfl ?_
      refine mv_idiv (by decide) rfl ?_
      refine mv_ishr ((2 : Int) ^ ((Int.tdiv (w32 x3) (w32 16)) % 32).toNat) rfl rfl ?_
      refine mv_ior rfl ?_
      refine ev_bk 1 (S' := (91, [some (.ref 94), some (.ref a1), some (vI (bO x2 (w32 32768 / ((2 : Int) ^ ((Int.tdiv (w32 x3) (w32 16)) % 32).toNat)))), some (vI x3), none], [], hp (wI (wI S 102 (w32 (S.1 94 9)) x3) 94 9 ((wI S 102 (w32 (S.1 94 9)) x3).1 94 9 + 1)), 0, 0)) rfl ?_
      exact F
theorem vc_Sorted_signsOut_91 {q : Nat × (Nat → Int32)} {S S' : ms} {r : Option Value} (x2 x3 : Int) (a1 na1 : Nat) (ha1 : isRow a1 na1)
    (F : EV q 100 45 [some (.ref 94), some (.ref a1), some (vI x2), some (vI (x3 + 1)), none] [] S r S') : EV q 100 91 [some (.ref 94), some (.ref a1), some (vI x2), some (vI x3), none] [] S r S' := by
  unfold EV
  refine mv_inc (lv' := [some (.ref 94), some (.ref a1), some (vI x2), some (vI (x3 + 1)), none]) 3 1 rfl rfl rfl rfl ?_
  refine mv_goto 45 rfl rfl ?_
  exact F
theorem vc_Sorted_signsOut_107 {q : Nat × (Nat → Int32)} {S S' : ms} {r : Option Value} (x2 x3 : Int) (a1 na1 : Nat) (ha1 : isRow a1 na1)
    (F : ((16 ≤ w32 x3) → r = none ∧ S' = S) ∧ ((¬ 16 ≤ w32 x3) → ((w32 (bA x2 (w32 32768 / ((2 : Int) ^ (x3 % 32).toNat))) = 0) → EV q 100 159 [some (.ref 94), some (.ref a1), some (vI x2), some (vI x3), none] [] S r S') ∧ ((¬ w32 (bA x2 (w32 32768 / ((2 : Int) ^ (x3 % 32).toNat))) = 0) → EV q 100 128 [some (.ref 94), some (.ref a1), some (vI x2), some (vI x3), some (vI (16 * x3))] [] S r S'))) : EV q 100 107 [some (.ref 94), some (.ref a1), some (vI x2), some (vI x3), none] [] S r S' := by
  unfold EV
  refine ev_bk 2 (S' := (110, [some (.ref 94), some (.ref a1), some (vI x2), some (vI x3), none], [vI 16, vI x3], hp S, 0, 0)) rfl ?_
  refine mv_icmp 165 rfl rfl (fun c => ?_) (fun c => ?_)
  · have F := F.1 c
    obtain ⟨rfl, rfl⟩ := F
    exact ev_ret rfl rfl
  · have F := F.2 c
    refine ev_bk 3 (S' := (117, [some (.ref 94), some (.ref a1), some (vI x2), some (vI x3), none], [vI x3, vI 32768, vI x2], hp S, 0, 0)) rfl ?_
    refine mv_ishr ((2 : Int) ^ (x3 % 32).toNat) rfl rfl ?_
    refine mv_iand rfl ?_
    refine mv_if 159 rfl rfl (fun c => ?_) (fun c => ?_)
    · have F := F.1 c
      exact F
    · have F := F.2 c
      refine ev_bk 2 (S' := (125, [some (.ref 94), some (.ref a1), some (vI x2), some (vI x3), none], [vI x3, vI 16], hp S, 0, 0)) rfl ?_
      refine mv_imul rfl ?_
      refine ev_bk 1 (S' := (128, [some (.ref 94), some (.ref a1), some (vI x2), some (vI x3), some (vI (16 * x3))], [], hp S, 0, 0)) rfl ?_
      exact F
theorem vc_Sorted_signsOut_128 {q : Nat × (Nat → Int32)} {S S' : ms} {r : Option Value} (x2 x3 x4 : Int) (a1 na1 : Nat) (ha1 : isRow a1 na1)
    (F : ((w32 ((16 * x3) + 16) ≤ w32 x4) → EV q 100 159 [some (.ref 94), some (.ref a1), some (vI x2), some (vI x3), none] [] S r S') ∧ ((¬ w32 ((16 * x3) + 16) ≤ w32 x4) → (0 ≤ w32 x4 ∧ w32 x4 < (258 : Nat)) ∧ ∃ (S2 : ms), EV q 98 0 [some (.ref a1), some (vL (w32 (S.1 104 (w32 x4)))), none, some (vI 1), none, none, none, none] [] S none S2 ∧ EV q 100 128 [some (.ref 94), some (.ref a1), some (vI x2), some (vI x3), some (vI (x4 + 1))] [] S2 r S')) : EV q 100 128 [some (.ref 94), some (.ref a1), some (vI x2), some (vI x3), some (vI x4)] [] S r S' := by
  unfold EV
  refine ev_bk 3 (S' := (133, [some (.ref 94), some (.ref a1), some (vI x2), some (vI x3), some (vI x4)], [vI x3, vI 16, vI x4], hp S, 0, 0)) rfl ?_
  refine mv_imul rfl ?_
  refine ev_bk 1 (S' := (136, [some (.ref 94), some (.ref a1), some (vI x2), some (vI x3), some (vI x4)], [vI 16, vI (16 * x3), vI x4], hp S, 0, 0)) rfl ?_
  refine mv_iadd rfl ?_
  refine mv_icmp 159 rfl rfl (fun c => ?_) (fun c => ?_)
  · have F := F.1 c
    exact ev_wk (le_s (le_s (le_s (le_s (le_n le_0))))) F
  · have F := F.2 c
    refine ev_bk 2 (S' := (142, [some (.ref 94), some (.ref a1), some (vI x2), some (vI x3), some (vI x4)], [.ref 94, .ref a1], hp S, 0, 0)) rfl ?_
    refine mv_gfR rfl rfl (sh_94) (by decide) rfl ?_
    refine ev_bk 1 (S' := (147, [some (.ref 94), some (.ref a1), some (vI x2), some (vI x3), some (vI x4)], [vI x4, .ref 104, .ref a1], hp S, 0, 0)) rfl ?_
    obtain ⟨b1, F⟩ := F
    refine mv_ial rfl (sh_104) b1 ?_
    refine mv_i2l rfl ?_
    refine ev_bk 1 (S' := (150, [some (.ref 94), some (.ref a1), some (vI x2), some (vI x3), some (vI x4)], [vI 1, vL (w32 (S.1 104 (w32 x4))), .ref a1], hp S, 0, 0)) rfl ?_
    obtain ⟨S2, e3, F⟩ := F
    refine mv_calv (as := [vL (w32 (S.1 104 (w32 x4))), vI 1]) (rest := []) e3 (ha1.1) rfl rfl rfl ⟨rfl, rfl⟩ rfl rfl rfl rfl rfl ?_
    refine mv_inc (lv' := [some (.ref 94), some (.ref a1), some (vI x2), some (vI x3), some (vI (x4 + 1))]) 4 1 rfl rfl rfl rfl ?_
    refine mv_goto 128 rfl rfl ?_
    exact F
theorem vc_Sorted_signsOut_159 {q : Nat × (Nat → Int32)} {S S' : ms} {r : Option Value} (x2 x3 : Int) (a1 na1 : Nat) (ha1 : isRow a1 na1)
    (F : EV q 100 107 [some (.ref 94), some (.ref a1), some (vI x2), some (vI (x3 + 1)), none] [] S r S') : EV q 100 159 [some (.ref 94), some (.ref a1), some (vI x2), some (vI x3), none] [] S r S' := by
  unfold EV
  refine mv_inc (lv' := [some (.ref 94), some (.ref a1), some (vI x2), some (vI (x3 + 1)), none]) 3 1 rfl rfl rfl rfl ?_
  refine mv_goto 107 rfl rfl ?_
  exact F
theorem vc_Sorted_makeSymbols {q : Nat × (Nat → Int32)} {S S' : ms} {r : Option Value}
    (F : ∀ S1 : ms, S1 = wI S 94 11 0 → EV q 101 9 [some (.ref 94), some (vI 0), some (vI 0), none] [] S1 r S') : EV q 101 0 [some (.ref 94), none, none, none] [] S r S' := by
  unfold EV
  refine ev_bk 2 (S' := (2, [some (.ref 94), none, none, none], [vI 0, .ref 94], hp S, 0, 0)) rfl ?_
  refine mv_pfI rfl rfl (sh_94) (by decide) rfl rfl ?_
  have F := F _ rfl
  refine ev_bk 4 (S' := (9, [some (.ref 94), some (vI 0), some (vI 0), none], [], hp (wI S 94 11 0), 0, 0)) rfl ?_
  exact F
theorem vc_Sorted_makeSymbols_9 {q : Nat × (Nat → Int32)} {S S' : ms} {r : Option Value} (x1 x2 : Int)
    (F : ((w32 (S.1 94 1) ≤ w32 x2) → ∃ (S1 : ms), EV q 104 0 [some (.ref 94), some (vI x1), none, none, none] [] S none S1 ∧ ∃ (S3 : ms), EV q 105 0 [some (.ref 94), some (vI (S1.1 94 9 + 1))] [] S1 none S3 ∧ r = none ∧ S' = S3) ∧ ((¬ w32 (S.1 94 1) ≤ w32 x2) → (0 ≤ w32 x2 ∧ w32 x2 < (15000 : Nat)) ∧ ∃ (z8 : Int) (S6 : ms), EV q 102 0 [some (.ref 94), some (vI (S.1 101 (w32 x2))), none] [] S (some (vI z8)) S6 ∧ ∃ (z11 : Int) (S9 : ms), EV q 103 0 [some (.ref 94), some (vI z8), none, none] [] S6 (some (vI z11)) S9 ∧ ((¬ w32 z11 = 0) → ∃ (S12 : ms), EV q 104 0 [some (.ref 94), some (vI x1), none, none, none] [] S9 none S12 ∧ ∃ (S14 : ms), EV q 105 0 [some (.ref 94), some (vI (z11 + 1))] [] S12 none S14 ∧ EV q 101 56 [some (.ref 94), some (vI 0), some (vI x2), some (vI z11)] [] S14 r S') ∧ ((¬ (¬ w32 z11 = 0)) → EV q 101 56 [some (.ref 94), some (vI (x1 + 1)), some (vI x2), some (vI z11)] [] S9 r S'))) : EV q 101 9 [some (.ref 94), some (vI x1), some (vI x2), none] [] S r S' := by
  unfold EV
  refine ev_bk 2 (S' := (11, [some (.ref 94), some (vI x1), some (vI x2), none], [.ref 94, vI x2], hp S, 0, 0)) rfl ?_
  refine mv_gfI rfl rfl (sh_94) (by decide) rfl ?_
  refine mv_icmp 62 rfl rfl (fun c => ?_) (fun c => ?_)
  · have F := F.1 c
    refine ev_bk 2 (S' := (64, [some (.ref 94), some (vI x1), some (vI x2), none], [vI x1, .ref 94], hp S, 0, 0)) rfl ?_
    obtain ⟨S1, e2, F⟩ := F
    refine mv_calv (as := [vI x1]) (rest := []) e2 (sh_94) rfl rfl rfl ⟨rfl, rfl⟩ rfl rfl rfl rfl rfl ?_
    refine ev_bk 2 (S' := (69, [some (.ref 94), some (vI x1), some (vI x2), none], [.ref 94, .ref 94], hp S1, 0, 0)) rfl ?_
    refine mv_gfI rfl rfl (sh_94) (by decide) rfl ?_
    refine ev_bk 1 (S' := (73, [some (.ref 94), some (vI x1), some (vI x2), none], [vI 1, vI (S1.1 94 9), .ref 94], hp S1, 0, 0)) rfl ?_
    refine mv_iadd rfl ?_
    obtain ⟨S3, e4, F⟩ := F
    refine mv_calv (as := [vI (S1.1 94 9 + 1)]) (rest := []) e4 (sh_94) rfl rfl rfl ⟨rfl, rfl⟩ rfl rfl rfl rfl rfl ?_
    obtain ⟨rfl, rfl⟩ := F
    exact ev_ret rfl rfl
  · have F := F.2 c
    refine ev_bk 3 (S' := (20, [some (.ref 94), some (vI x1), some (vI x2), none], [.ref 94, .ref 94, .ref 94], hp S, 0, 0)) rfl ?_
    refine mv_gfR rfl rfl (sh_94) (by decide) rfl ?_
    refine ev_bk 1 (S' := (24, [some (.ref 94), some (vI x1), some (vI x2), none], [vI x2, .ref 101, .ref 94, .ref 94], hp S, 0, 0)) rfl ?_
    obtain ⟨b5, F⟩ := F
    refine mv_ial rfl (sh_101) b5 ?_
    obtain ⟨z8, S6, e7, F⟩ := F
    refine mv_calv (as := [vI (S.1 101 (w32 x2))]) (rest := [.ref 94]) e7 (sh_94) rfl rfl rfl ⟨rfl, rfl⟩ rfl rfl rfl rfl rfl ?_
    obtain ⟨z11, S9, e10, F⟩ := F
    refine mv_calv (as := [vI z8]) (rest := []) e10 (sh_94) rfl rfl rfl ⟨rfl, rfl⟩ rfl rfl rfl rfl rfl ?_
    refine ev_bk 2 (S' := (33, [some (.ref 94), some (vI x1), some (vI x2), some (vI z11)], [vI z11], hp S9, 0, 0)) rfl ?_
    refine mv_if 42 rfl rfl (fun c => ?_) (fun c => ?_)
    · have F := F.1 c
      refine ev_bk 2 (S' := (44, [some (.ref 94), some (vI x1), some (vI x2), some (vI z11)], [vI x1, .ref 94], hp S9, 0, 0)) rfl ?_
      obtain ⟨S12, e13, F⟩ := F
      refine mv_calv (as := [vI x1]) (rest := []) e13 (sh_94) rfl rfl rfl ⟨rfl, rfl⟩ rfl rfl rfl rfl rfl ?_
      refine ev_bk 5 (S' := (52, [some (.ref 94), some (vI 0), some (vI x2), some (vI z11)], [vI 1, vI z11, .ref 94], hp S12, 0, 0)) rfl ?_
      refine mv_iadd rfl ?_
      obtain ⟨S14, e15, F⟩ := F
      refine mv_calv (as := [vI (z11 + 1)]) (rest := []) e15 (sh_94) rfl rfl rfl ⟨rfl, rfl⟩ rfl rfl rfl rfl rfl ?_
      exact F
    · have F := F.2 c
      refine mv_inc (lv' := [some (.ref 94), some (vI (x1 + 1)), some (vI x2), some (vI z11)]) 1 1 rfl rfl rfl rfl ?_
      refine mv_goto 56 rfl rfl ?_
      exact F
theorem vc_Sorted_makeSymbols_56 {q : Nat × (Nat → Int32)} {S S' : ms} {r : Option Value} (x1 x2 x3 : Int)
    (F : EV q 101 9 [some (.ref 94), some (vI x1), some (vI (x2 + 1)), none] [] S r S') : EV q 101 56 [some (.ref 94), some (vI x1), some (vI x2), some (vI x3)] [] S r S' := by
  unfold EV
  refine mv_inc (lv' := [some (.ref 94), some (vI x1), some (vI (x2 + 1)), some (vI x3)]) 2 1 rfl rfl rfl rfl ?_
  refine mv_goto 9 rfl rfl ?_
  exact ev_wk (le_s (le_s (le_s (le_n le_0)))) F
theorem vc_Sorted_signPlace {q : Nat × (Nat → Int32)} {S S' : ms} {r : Option Value} (x1 : Int)
    (F : EV q 102 2 [some (.ref 94), some (vI x1), some (vI 0)] [] S r S') : EV q 102 0 [some (.ref 94), some (vI x1), none] [] S r S' := by
  unfold EV
  refine ev_bk 2 (S' := (2, [some (.ref 94), some (vI x1), some (vI 0)], [], hp S, 0, 0)) rfl ?_
  exact F
theorem vc_Sorted_signPlace_2 {q : Nat × (Nat → Int32)} {S S' : ms} {r : Option Value} (x1 x2 : Int)
    (F : ((w32 ((S.1 94 9) - 1) ≤ w32 x2) → r = some (vI x2) ∧ S' = S) ∧ ((¬ w32 ((S.1 94 9) - 1) ≤ w32 x2) → (0 ≤ w32 x2 ∧ w32 x2 < (256 : Nat)) ∧ ((w32 (S.1 102 (w32 x2)) = w32 x1) → r = some (vI x2) ∧ S' = S) ∧ ((¬ w32 (S.1 102 (w32 x2)) = w32 x1) → EV q 102 2 [some (.ref 94), some (vI x1), some (vI (x2 + 1))] [] S r S'))) : EV q 102 2 [some (.ref 94), some (vI x1), some (vI x2)] [] S r S' := by
  unfold EV
  refine ev_bk 2 (S' := (4, [some (.ref 94), some (vI x1), some (vI x2)], [.ref 94, vI x2], hp S, 0, 0)) rfl ?_
  refine mv_gfI rfl rfl (sh_94) (by decide) rfl ?_
  refine ev_bk 1 (S' := (8, [some (.ref 94), some (vI x1), some (vI x2)], [vI 1, vI (S.1 94 9), vI x2], hp S, 0, 0)) rfl ?_
  refine mv_isub rfl ?_
  refine mv_icmp 28 rfl rfl (fun c => ?_) (fun c => ?_)
  · have F := F.1 c
    refine ev_bk 1 (S' := (29, [some (.ref 94), some (vI x1), some (vI x2)], [vI x2], hp S, 0, 0)) rfl ?_
    obtain ⟨rfl, rfl⟩ := F
    exact ev_ret rfl rfl
  · have F := F.2 c
    refine ev_bk 1 (S' := (13, [some (.ref 94), some (vI x1), some (vI x2)], [.ref 94], hp S, 0, 0)) rfl ?_
    refine mv_gfR rfl rfl (sh_94) (by decide) rfl ?_
    refine ev_bk 1 (S' := (17, [some (.ref 94), some (vI x1), some (vI x2)], [vI x2, .ref 102], hp S, 0, 0)) rfl ?_
    obtain ⟨b1, F⟩ := F
    refine mv_ial rfl (sh_102) b1 ?_
    refine ev_bk 1 (S' := (19, [some (.ref 94), some (vI x1), some (vI x2)], [vI x1, vI (S.1 102 (w32 x2))], hp S, 0, 0)) rfl ?_
    refine mv_icmp 28 rfl rfl (fun c => ?_) (fun c => ?_)
    · have F := F.1 c
      refine ev_bk 1 (S' := (29, [some (.ref 94), some (vI x1), some (vI x2)], [vI x2], hp S, 0, 0)) rfl ?_
      obtain ⟨rfl, rfl⟩ := F
      exact ev_ret rfl rfl
    · have F := F.2 c
      refine mv_inc (lv' := [some (.ref 94), some (vI x1), some (vI (x2 + 1))]) 2 1 rfl rfl rfl rfl ?_
      refine mv_goto 2 rfl rfl ?_
      exact F
theorem vc_Sorted_toFront {q : Nat × (Nat → Int32)} {S S' : ms} {r : Option Value} (x1 : Int)
    (F : (0 ≤ w32 x1 ∧ w32 x1 < (256 : Nat)) ∧ EV q 103 9 [some (.ref 94), some (vI x1), some (vI (S.1 102 (w32 x1))), some (vI x1)] [] S r S') : EV q 103 0 [some (.ref 94), some (vI x1), none, none] [] S r S' := by
  unfold EV
  refine ev_bk 1 (S' := (1, [some (.ref 94), some (vI x1), none, none], [.ref 94], hp S, 0, 0)) rfl ?_
  refine mv_gfR rfl rfl (sh_94) (by decide) rfl ?_
  refine ev_bk 1 (S' := (5, [some (.ref 94), some (vI x1), none, none], [vI x1, .ref 102], hp S, 0, 0)) rfl ?_
  obtain ⟨b1, F⟩ := F
  refine mv_ial rfl (sh_102) b1 ?_
  refine ev_bk 3 (S' := (9, [some (.ref 94), some (vI x1), some (vI (S.1 102 (w32 x1))), some (vI x1)], [], hp S, 0, 0)) rfl ?_
  exact F
theorem vc_Sorted_toFront_9 {q : Nat × (Nat → Int32)} {S S' : ms} {r : Option Value} (x1 x2 x3 : Int)
    (F : ((w32 x3 ≤ 0) → (0 ≤ w32 0 ∧ w32 0 < (256 : Nat)) ∧ ∀ S2 : ms, S2 = wI S 102 (w32 0) x2 → r = some (vI x1) ∧ S' = S2) ∧ ((¬ w32 x3 ≤ 0) → (0 ≤ w32 (x3 - 1) ∧ w32 (x3 - 1) < (256 : Nat)) ∧ (0 ≤ w32 x3 ∧ w32 x3 < (256 : Nat)) ∧ ∀ S5 : ms, S5 = wI S 102 (w32 x3) (S.1 102 (w32 (x3 - 1))) → EV q 103 9 [some (.ref 94), some (vI x1), some (vI x2), some (vI (x3 - 1))] [] S5 r S')) : EV q 103 9 [some (.ref 94), some (vI x1), some (vI x2), some (vI x3)] [] S r S' := by
  unfold EV
  refine ev_bk 1 (S' := (10, [some (.ref 94), some (vI x1), some (vI x2), some (vI x3)], [vI x3], hp S, 0, 0)) rfl ?_
  refine mv_if 33 rfl rfl (fun c => ?_) (fun c => ?_)
  · have F := F.1 c
    refine ev_bk 1 (S' := (34, [some (.ref 94), some (vI x1), some (vI x2), some (vI x3)], [.ref 94], hp S, 0, 0)) rfl ?_
    refine mv_gfR rfl rfl (sh_94) (by decide) rfl ?_
    refine ev_bk 2 (S' := (39, [some (.ref 94), some (vI x1), some (vI x2), some (vI x3)], [vI x2, vI 0, .ref 102], hp S, 0, 0)) rfl ?_
    obtain ⟨b1, F⟩ := F
    refine mv_ias rfl (sh_102) b1 ?_
    have F := F _ rfl
    refine ev_bk 1 (S' := (41, [some (.ref 94), some (vI x1), some (vI x2), some (vI x3)], [vI x1], hp (wI S 102 (w32 0) x2), 0, 0)) rfl ?_
    obtain ⟨rfl, rfl⟩ := F
    exact ev_ret rfl rfl
  · have F := F.2 c
    refine ev_bk 1 (S' := (14, [some (.ref 94), some (vI x1), some (vI x2), some (vI x3)], [.ref 94], hp S, 0, 0)) rfl ?_
    refine mv_gfR rfl rfl (sh_94) (by decide) rfl ?_
    refine ev_bk 2 (S' := (19, [some (.ref 94), some (vI x1), some (vI x2), some (vI x3)], [.ref 94, vI x3, .ref 102], hp S, 0, 0)) rfl ?_
    refine mv_gfR rfl rfl (sh_94) (by decide) rfl ?_
    refine ev_bk 2 (S' := (24, [some (.ref 94), some (vI x1), some (vI x2), some (vI x3)], [vI 1, vI x3, .ref 102, vI x3, .ref 102], hp S, 0, 0)) rfl ?_
    refine mv_isub rfl ?_
    obtain ⟨b3, F⟩ := F
    refine mv_ial rfl (sh_102) b3 ?_
    obtain ⟨b4, F⟩ := F
    refine mv_ias rfl (sh_102) b4 ?_
    have F := F _ rfl
    refine mv_inc (lv' := [some (.ref 94), some (vI x1), some (vI x2), some (vI (x3 - 1))]) 3 (-1) rfl rfl rfl (by omega) ?_
    refine mv_goto 9 rfl rfl ?_
    exact F
theorem vc_Sorted_addDigits {q : Nat × (Nat → Int32)} {S S' : ms} {r : Option Value} (x1 : Int)
    (F : EV q 104 4 [some (.ref 94), some (vI x1), some (vI x1), some (vI 0), none] [] S r S') : EV q 104 0 [some (.ref 94), some (vI x1), none, none, none] [] S r S' := by
  unfold EV
  refine ev_bk 4 (S' := (4, [some (.ref 94), some (vI x1), some (vI x1), some (vI 0), none], [], hp S, 0, 0)) rfl ?_
  exact F
theorem vc_Sorted_addDigits_4 {q : Nat × (Nat → Int32)} {S S' : ms} {r : Option Value} (x1 x2 x3 : Int)
    (F : ((32 ≤ w32 x3) → r = none ∧ S' = S) ∧ ((¬ 32 ≤ w32 x3) → ((w32 x2 ≤ 0) → r = none ∧ S' = S) ∧ ((¬ w32 x2 ≤ 0) → ∃ (S1 : ms), EV q 105 0 [some (.ref 94), some (vI ((2 - (Int.tmod (w32 x2) (w32 2))) - 1))] [] S none S1 ∧ EV q 104 4 [some (.ref 94), some (vI x1), some (vI (Int.tdiv (w32 (x2 - (2 - (Int.tmod (w32 x2) (w32 2))))) (w32 2))), some (vI (x3 + 1)), none] [] S1 r S'))) : EV q 104 4 [some (.ref 94), some (vI x1), some (vI x2), some (vI x3), none] [] S r S' := by
  unfold EV
  refine ev_bk 2 (S' := (7, [some (.ref 94), some (vI x1), some (vI x2), some (vI x3), none], [vI 32, vI x3], hp S, 0, 0)) rfl ?_
  refine mv_icmp 42 rfl rfl (fun c => ?_) (fun c => ?_)
  · have F := F.1 c
    obtain ⟨rfl, rfl⟩ := F
    exact ev_ret rfl rfl
  · have F := F.2 c
    refine ev_bk 1 (S' := (11, [some (.ref 94), some (vI x1), some (vI x2), some (vI x3), none], [vI x2], hp S, 0, 0)) rfl ?_
    refine mv_if 42 rfl rfl (fun c => ?_) (fun c => ?_)
    · have F := F.1 c
      obtain ⟨rfl, rfl⟩ := F
      exact ev_ret rfl rfl
    · have F := F.2 c
      refine ev_bk 3 (S' := (17, [some (.ref 94), some (vI x1), some (vI x2), some (vI x3), none], [vI 2, vI x2, vI 2], hp S, 0, 0)) rfl ?_
      refine mv_irem (by decide) rfl ?_
      refine mv_isub rfl ?_
      refine ev_bk 4 (S' := (25, [some (.ref 94), some (vI x1), some (vI x2), some (vI x3), some (vI (2 - (Int.tmod (w32 x2) (w32 2))))], [vI 1, vI (2 - (Int.tmod (w32 x2) (w32 2))), .ref 94], hp S, 0, 0)) rfl ?_
      refine mv_isub rfl ?_
      obtain ⟨S1, e2, F⟩ := F
      refine mv_calv (as := [vI ((2 - (Int.tmod (w32 x2) (w32 2))) - 1)]) (rest := []) e2 (sh_94) rfl rfl rfl ⟨rfl, rfl⟩ rfl rfl rfl rfl rfl ?_
      refine ev_bk 2 (S' := (32, [some (.ref 94), some (vI x1), some (vI x2), some (vI x3), some (vI (2 - (Int.tmod (w32 x2) (w32 2))))], [vI (2 - (Int.tmod (w32 x2) (w32 2))), vI x2], hp S1, 0, 0)) rfl ?_
      refine mv_isub rfl ?_
      refine ev_bk 1 (S' := (34, [some (.ref 94), some (vI x1), some (vI x2), some (vI x3), some (vI (2 - (Int.tmod (w32 x2) (w32 2))))], [vI 2, vI (x2 - (2 - (Int.tmod (w32 x2) (w32 2))))], hp S1, 0, 0)) rfl ?_
      refine mv_idiv (by decide) rfl ?_
      refine ev_bk 1 (S' := (36, [some (.ref 94), some (vI x1), some (vI (Int.tdiv (w32 (x2 - (2 - (Int.tmod (w32 x2) (w32 2))))) (w32 2))), some (vI x3), some (vI (2 - (Int.tmod (w32 x2) (w32 2))))], [], hp S1, 0, 0)) rfl ?_
      refine mv_inc (lv' := [some (.ref 94), some (vI x1), some (vI (Int.tdiv (w32 (x2 - (2 - (Int.tmod (w32 x2) (w32 2))))) (w32 2))), some (vI (x3 + 1)), some (vI (2 - (Int.tmod (w32 x2) (w32 2))))]) 3 1 rfl rfl rfl rfl ?_
      refine mv_goto 4 rfl rfl ?_
      exact ev_wk (le_s (le_s (le_s (le_s (le_n le_0))))) F
theorem vc_Sorted_addSymbol {q : Nat × (Nat → Int32)} {S S' : ms} {r : Option Value} (x1 : Int)
    (F : ((w32 ((2501 : Nat)) ≤ w32 (S.1 94 11)) → r = none ∧ S' = S) ∧ ((¬ w32 ((2501 : Nat)) ≤ w32 (S.1 94 11)) → (0 ≤ w32 (S.1 94 11) ∧ w32 (S.1 94 11) < (2501 : Nat)) ∧ ∀ S2 : ms, S2 = wI S 103 (w32 (S.1 94 11)) x1 → ∀ S3 : ms, S3 = wI S2 94 11 (S2.1 94 11 + 1) → r = none ∧ S' = S3)) : EV q 105 0 [some (.ref 94), some (vI x1)] [] S r S' := by
  unfold EV
  refine ev_bk 1 (S' := (1, [some (.ref 94), some (vI x1)], [.ref 94], hp S, 0, 0)) rfl ?_
  refine mv_gfI rfl rfl (sh_94) (by decide) rfl ?_
  refine ev_bk 1 (S' := (5, [some (.ref 94), some (vI x1)], [.ref 94, vI (S.1 94 11)], hp S, 0, 0)) rfl ?_
  refine mv_gfR rfl rfl (sh_94) (by decide) rfl ?_
  refine mv_len rfl (sh_103) (by decide) ?_
  refine mv_icmp 32 rfl rfl (fun c => ?_) (fun c => ?_)
  · have F := F.1 c
    obtain ⟨rfl, rfl⟩ := F
    exact ev_ret rfl rfl
  · have F := F.2 c
    refine ev_bk 1 (S' := (13, [some (.ref 94), some (vI x1)], [.ref 94], hp S, 0, 0)) rfl ?_
    refine mv_gfR rfl rfl (sh_94) (by decide) rfl ?_
    refine ev_bk 1 (S' := (17, [some (.ref 94), some (vI x1)], [.ref 94, .ref 103], hp S, 0, 0)) rfl ?_
    refine mv_gfI rfl rfl (sh_94) (by decide) rfl ?_
    refine ev_bk 1 (S' := (21, [some (.ref 94), some (vI x1)], [vI x1, vI (S.1 94 11), .ref 103], hp S, 0, 0)) rfl ?_
    obtain ⟨b1, F⟩ := F
    refine mv_ias rfl (sh_103) b1 ?_
    have F := F _ rfl
    refine ev_bk 2 (S' := (24, [some (.ref 94), some (vI x1)], [.ref 94, .ref 94], hp (wI S 103 (w32 (S.1 94 11)) x1), 0, 0)) rfl ?_
    refine mv_gfI rfl rfl (sh_94) (by decide) rfl ?_
    refine ev_bk 1 (S' := (28, [some (.ref 94), some (vI x1)], [vI 1, vI ((wI S 103 (w32 (S.1 94 11)) x1).1 94 11), .ref 94], hp (wI S 103 (w32 (S.1 94 11)) x1), 0, 0)) rfl ?_
    refine mv_iadd rfl ?_
    refine mv_pfI rfl rfl (sh_94) (by decide) rfl rfl ?_
    have F := F _ rfl
    obtain ⟨rfl, rfl⟩ := F
    exact ev_ret rfl rfl
theorem vc_Sorted_symbolsOut {q : Nat × (Nat → Int32)} {S S' : ms} {r : Option Value} (a1 na1 : Nat) (ha1 : isRow a1 na1)
    (F : ∃ (S1 : ms), EV q 11 0 [some (.ref 104), some (vI 0), none, none] [] S none S1 ∧ EV q 106 17 [some (.ref 94), some (.ref a1), some (vI (S.1 94 9 + 2)), some (vI 0), none, none] [] S1 r S') : EV q 106 0 [some (.ref 94), some (.ref a1), none, none, none, none] [] S r S' := by
  unfold EV
  refine ev_bk 1 (S' := (1, [some (.ref 94), some (.ref a1), none, none, none, none], [.ref 94], hp S, 0, 0)) rfl ?_
  refine mv_gfI rfl rfl (sh_94) (by decide) rfl ?_
  refine ev_bk 1 (S' := (5, [some (.ref 94), some (.ref a1), none, none, none, none], [vI 2, vI (S.1 94 9)], hp S, 0, 0)) rfl ?_
  refine mv_iadd rfl ?_
  refine ev_bk 2 (S' := (8, [some (.ref 94), some (.ref a1), some (vI (S.1 94 9 + 2)), none, none, none], [.ref 94], hp S, 0, 0)) rfl ?_
  refine mv_gfR rfl rfl (sh_94) (by decide) rfl ?_
  refine ev_bk 1 (S' := (12, [some (.ref 94), some (.ref a1), some (vI (S.1 94 9 + 2)), none, none, none], [vI 0, .ref 104], hp S, 0, 0)) rfl ?_
  obtain ⟨S1, e2, F⟩ := F
  refine mv_cals (as := [.ref 104, vI 0]) (rest := []) e2 rfl rfl rfl ⟨rfl, rfl, rfl⟩ rfl rfl rfl rfl ?_
  refine ev_bk 2 (S' := (17, [some (.ref 94), some (.ref a1), some (vI (S.1 94 9 + 2)), some (vI 0), none, none], [], hp S1, 0, 0)) rfl ?_
  exact F
theorem vc_Sorted_symbolsOut_17 {q : Nat × (Nat → Int32)} {S S' : ms} {r : Option Value} (x2 x3 : Int) (a1 na1 : Nat) (ha1 : isRow a1 na1)
    (F : ((w32 (S.1 94 11) ≤ w32 x3) → EV q 106 48 [some (.ref 94), some (.ref a1), some (vI x2), some (vI 0), none, none] [] S r S') ∧ ((¬ w32 (S.1 94 11) ≤ w32 x3) → (0 ≤ w32 x3 ∧ w32 x3 < (2501 : Nat)) ∧ (0 ≤ w32 (S.1 103 (w32 x3)) ∧ w32 (S.1 103 (w32 x3)) < (258 : Nat)) ∧ (0 ≤ w32 (S.1 103 (w32 x3)) ∧ w32 (S.1 103 (w32 x3)) < (258 : Nat)) ∧ ∀ S4 : ms, S4 = wI S 104 (w32 (S.1 103 (w32 x3))) ((S.1 104 (w32 (S.1 103 (w32 x3)))) + 1) → EV q 106 17 [some (.ref 94), some (.ref a1), some (vI x2), some (vI (x3 + 1)), none, none] [] S4 r S')) : EV q 106 17 [some (.ref 94), some (.ref a1), some (vI x2), some (vI x3), none, none] [] S r S' := by
  unfold EV
  refine ev_bk 2 (S' := (19, [some (.ref 94), some (.ref a1), some (vI x2), some (vI x3), none, none], [.ref 94, vI x3], hp S, 0, 0)) rfl ?_
  refine mv_gfI rfl rfl (sh_94) (by decide) rfl ?_
  refine mv_icmp 46 rfl rfl (fun c => ?_) (fun c => ?_)
  · have F := F.1 c
    refine ev_bk 2 (S' := (48, [some (.ref 94), some (.ref a1), some (vI x2), some (vI 0), none, none], [], hp S, 0, 0)) rfl ?_
    exact F
  · have F := F.2 c
    refine ev_bk 1 (S' := (26, [some (.ref 94), some (.ref a1), some (vI x2), some (vI x3), none, none], [.ref 94], hp S, 0, 0)) rfl ?_
    refine mv_gfR rfl rfl (sh_94) (by decide) rfl ?_
    refine ev_bk 1 (S' := (30, [some (.ref 94), some (.ref a1), some (vI x2), some (vI x3), none, none], [.ref 94, .ref 104], hp S, 0, 0)) rfl ?_
    refine mv_gfR rfl rfl (sh_94) (by decide) rfl ?_
    refine ev_bk 1 (S' := (34, [some (.ref 94), some (.ref a1), some (vI x2), some (vI x3), none, none], [vI x3, .ref 103, .ref 104], hp S, 0, 0)) rfl ?_
    obtain ⟨b1, F⟩ := F
    refine mv_ial rfl (sh_103) b1 ?_
    refine ev_bk 1 (S' := (36, [some (.ref 94), some (.ref a1), some (vI x2), some (vI x3), none, none], [vI (S.1 103 (w32 x3)), .ref 104, vI (S.1 103 (w32 x3)), .ref 104], hp S, 0, 0)) rfl ?_
    obtain ⟨b2, F⟩ := F
    refine mv_ial rfl (sh_104) b2 ?_
    refine ev_bk 1 (S' := (38, [some (.ref 94), some (.ref a1), some (vI x2), some (vI x3), none, none], [vI 1, vI (S.1 104 (w32 (S.1 103 (w32 x3)))), vI (S.1 103 (w32 x3)), .ref 104], hp S, 0, 0)) rfl ?_
    refine mv_iadd rfl ?_
    obtain ⟨b3, F⟩ := F
    refine mv_ias rfl (sh_104) b3 ?_
    have F := F _ rfl
    refine mv_inc (lv' := [some (.ref 94), some (.ref a1), some (vI x2), some (vI (x3 + 1)), none, none]) 3 1 rfl rfl rfl rfl ?_
    refine mv_goto 17 rfl rfl ?_
    exact F
theorem vc_Sorted_symbolsOut_48 {q : Nat × (Nat → Int32)} {S S' : ms} {r : Option Value} (x2 x3 : Int) (a1 na1 : Nat) (ha1 : isRow a1 na1)
    (F : ((w32 x2 ≤ w32 x3) → (0 ≤ w32 0 ∧ w32 0 < (6 : Nat)) ∧ ∃ (o2 : Nat), sh_r (SH 105).2.2 (w32 0).toNat = some o2 ∧ isCode o2 ∧ ∃ (S5 : ms), EV q 70 0 [some (.ref o2), some (.ref 104), some (vI x2), some (vI 17), none, none, none] [] S none S5 ∧ ∃ (S7 : ms), EV q 98 0 [some (.ref a1), some (vL 2), none, some (vI 3), none, none, none, none] [] S5 none S7 ∧ ∃ (S9 : ms), EV q 98 0 [some (.ref a1), some (vL (w32 (Int.tdiv (w32 ((S5.1 94 11 + 50) - 1)) (w32 50)))), none, some (vI 15), none, none, none, none] [] S7 none S9 ∧ ∃ (S11 : ms), EV q 98 0 [some (.ref a1), some (vL 0), none, some (vI 1), none, none, none, none] [] S9 none S11 ∧ EV q 106 133 [some (.ref 94), some (.ref a1), some (vI x2), some (.ref o2), some (vI (Int.tdiv (w32 ((S5.1 94 11 + 50) - 1)) (w32 50))), some (vI 1)] [] S11 r S') ∧ ((¬ w32 x2 ≤ w32 x3) → (0 ≤ w32 x3 ∧ w32 x3 < (258 : Nat)) ∧ (0 ≤ w32 x3 ∧ w32 x3 < (258 : Nat)) ∧ ∀ S15 : ms, S15 = wI S 104 (w32 x3) (max (w32 (S.1 104 (w32 x3))) (w32 1)) → EV q 106 48 [some (.ref 94), some (.ref a1), some (vI x2), some (vI (x3 + 1)), none, none] [] S15 r S')) : EV q 106 48 [some (.ref 94), some (.ref a1), some (vI x2), some (vI x3), none, none] [] S r S' := by
  unfold EV
  refine ev_bk 2 (S' := (50, [some (.ref 94), some (.ref a1), some (vI x2), some (vI x3), none, none], [vI x2, vI x3], hp S, 0, 0)) rfl ?_
  refine mv_icmp 75 rfl rfl (fun c => ?_) (fun c => ?_)
  · have F := F.1 c
    refine ev_bk 1 (S' := (76, [some (.ref 94), some (.ref a1), some (vI x2), some (vI x3), none, none], [.ref 94], hp S, 0, 0)) rfl ?_
    refine mv_gfR rfl rfl (sh_94) (by decide) rfl ?_
    refine ev_bk 1 (S' := (80, [some (.ref 94), some (.ref a1), some (vI x2), some (vI x3), none, none], [vI 0, .ref 105], hp S, 0, 0)) rfl ?_
    obtain ⟨b1, o2, e4, h3, F⟩ := F
    refine mv_aal rfl (sh_105) (Or.inr rfl) b1 e4 ?_
    refine ev_bk 3 (S' := (84, [some (.ref 94), some (.ref a1), some (vI x2), some (.ref o2), none, none], [.ref 94, .ref o2], hp S, 0, 0)) rfl ?_
    refine mv_gfR rfl rfl (sh_94) (by decide) rfl ?_
    refine ev_bk 2 (S' := (90, [some (.ref 94), some (.ref a1), some (vI x2), some (.ref o2), none, none], [vI 17, vI x2, .ref 104, .ref o2], hp S, 0, 0)) rfl ?_
    obtain ⟨S5, e6, F⟩ := F
    refine mv_calv (as := [.ref 104, vI x2, vI 17]) (rest := []) e6 (h3.1) rfl rfl rfl ⟨rfl, rfl⟩ rfl rfl rfl rfl rfl ?_
    refine ev_bk 1 (S' := (94, [some (.ref 94), some (.ref a1), some (vI x2), some (.ref o2), none, none], [.ref 94], hp S5, 0, 0)) rfl ?_
    refine mv_gfI rfl rfl (sh_94) (by decide) rfl ?_
    refine ev_bk 1 (S' := (99, [some (.ref 94), some (.ref a1), some (vI x2), some (.ref o2), none, none], [vI 50, vI (S5.1 94 11)], hp S5, 0, 0)) rfl ?_
    refine mv_iadd rfl ?_
    refine ev_bk 1 (S' := (101, [some (.ref 94), some (.ref a1), some (vI x2), some (.ref o2), none, none], [vI 1, vI (S5.1 94 11 + 50)], hp S5, 0, 0)) rfl ?_
    refine mv_isub rfl ?_
    refine ev_bk 1 (S' := (104, [some (.ref 94), some (.ref a1), some (vI x2), some (.ref o2), none, none], [vI 50, vI ((S5.1 94 11 + 50) - 1)], hp S5, 0, 0)) rfl ?_
    refine mv_idiv (by decide) rfl ?_
    refine ev_bk 4 (S' := (112, [some (.ref 94), some (.ref a1), some (vI x2), some (.ref o2), some (vI (Int.tdiv (w32 ((S5.1 94 11 + 50) - 1)) (w32 50))), none], [vI 3, vL 2, .ref a1], hp S5, 0, 0)) rfl ?_
    obtain ⟨S7, e8, F⟩ := F
    refine mv_calv (as := [vL 2, vI 3]) (rest := []) e8 (ha1.1) rfl rfl rfl ⟨rfl, rfl⟩ rfl rfl rfl rfl rfl ?_
    refine ev_bk 2 (S' := (118, [some (.ref 94), some (.ref a1), some (vI x2), some (.ref o2), some (vI (Int.tdiv (w32 ((S5.1 94 11 + 50) - 1)) (w32 50))), none], [vI (Int.tdiv (w32 ((S5.1 94 11 + 50) - 1)) (w32 50)), .ref a1], hp S7, 0, 0)) rfl ?_
    refine mv_i2l rfl ?_
    refine ev_bk 1 (S' := (121, [some (.ref 94), some (.ref a1), some (vI x2), some (.ref o2), some (vI (Int.tdiv (w32 ((S5.1 94 11 + 50) - 1)) (w32 50))), none], [vI 15, vL (w32 (Int.tdiv (w32 ((S5.1 94 11 + 50) - 1)) (w32 50))), .ref a1], hp S7, 0, 0)) rfl ?_
    obtain ⟨S9, e10, F⟩ := F
    refine mv_calv (as := [vL (w32 (Int.tdiv (w32 ((S5.1 94 11 + 50) - 1)) (w32 50))), vI 15]) (rest := []) e10 (ha1.1) rfl rfl rfl ⟨rfl, rfl⟩ rfl rfl rfl rfl rfl ?_
    refine ev_bk 3 (S' := (127, [some (.ref 94), some (.ref a1), some (vI x2), some (.ref o2), some (vI (Int.tdiv (w32 ((S5.1 94 11 + 50) - 1)) (w32 50))), none], [vI 1, vL 0, .ref a1], hp S9, 0, 0)) rfl ?_
    obtain ⟨S11, e12, F⟩ := F
    refine mv_calv (as := [vL 0, vI 1]) (rest := []) e12 (ha1.1) rfl rfl rfl ⟨rfl, rfl⟩ rfl rfl rfl rfl rfl ?_
    refine ev_bk 2 (S' := (133, [some (.ref 94), some (.ref a1), some (vI x2), some (.ref o2), some (vI (Int.tdiv (w32 ((S5.1 94 11 + 50) - 1)) (w32 50))), some (vI 1)], [], hp S11, 0, 0)) rfl ?_
    exact F
  · have F := F.2 c
    refine ev_bk 1 (S' := (54, [some (.ref 94), some (.ref a1), some (vI x2), some (vI x3), none, none], [.ref 94], hp S, 0, 0)) rfl ?_
    refine mv_gfR rfl rfl (sh_94) (by decide) rfl ?_
    refine ev_bk 2 (S' := (59, [some (.ref 94), some (.ref a1), some (vI x2), some (vI x3), none, none], [.ref 94, vI x3, .ref 104], hp S, 0, 0)) rfl ?_
    refine mv_gfR rfl rfl (sh_94) (by decide) rfl ?_
    refine ev_bk 1 (S' := (63, [some (.ref 94), some (.ref a1), some (vI x2), some (vI x3), none, none], [vI x3, .ref 104, vI x3, .ref 104], hp S, 0, 0)) rfl ?_
    obtain ⟨b13, F⟩ := F
    refine mv_ial rfl (sh_104) b13 ?_
    refine ev_bk 1 (S' := (65, [some (.ref 94), some (.ref a1), some (vI x2), some (vI x3), none, none], [vI 1, vI (S.1 104 (w32 x3)), vI x3, .ref 104], hp S, 0, 0)) rfl ?_
    refine mv_max rfl rfl rfl ?_
    obtain ⟨b14, F⟩ := F
    refine mv_ias rfl (sh_104) b14 ?_
    have F := F _ rfl
    refine mv_inc (lv' := [some (.ref 94), some (.ref a1), some (vI x2), some (vI (x3 + 1)), none, none]) 3 1 rfl rfl rfl rfl ?_
    refine mv_goto 48 rfl rfl ?_
    exact F
theorem vc_Sorted_symbolsOut_133 {q : Nat × (Nat → Int32)} {S S' : ms} {r : Option Value} (x2 x4 x5 : Int) (a1 na1 : Nat) (ha1 : isRow a1 na1) (a3 : Nat) (ha3 : isCode a3)
    (F : ((w32 x4 ≤ w32 x5) → ∃ (S1 : ms), EV q 107 0 [some (.ref a3), some (vI x2), some (.ref a1), none, none] [] S none S1 ∧ ∃ (S3 : ms), EV q 107 0 [some (.ref a3), some (vI x2), some (.ref a1), none, none] [] S1 none S3 ∧ EV q 106 169 [some (.ref 94), some (.ref a1), some (vI x2), some (.ref a3), some (vI x4), some (vI 0)] [] S3 r S') ∧ ((¬ w32 x4 ≤ w32 x5) → ∃ (S5 : ms), EV q 98 0 [some (.ref a1), some (vL 2), none, some (vI 2), none, none, none, none] [] S none S5 ∧ EV q 106 133 [some (.ref 94), some (.ref a1), some (vI x2), some (.ref a3), some (vI x4), some (vI (x5 + 1))] [] S5 r S')) : EV q 106 133 [some (.ref 94), some (.ref a1), some (vI x2), some (.ref a3), some (vI x4), some (vI x5)] [] S r S' := by
  unfold EV
  refine ev_bk 2 (S' := (137, [some (.ref 94), some (.ref a1), some (vI x2), some (.ref a3), some (vI x4), some (vI x5)], [vI x4, vI x5], hp S, 0, 0)) rfl ?_
  refine mv_icmp 154 rfl rfl (fun c => ?_) (fun c => ?_)
  · have F := F.1 c
    refine ev_bk 3 (S' := (157, [some (.ref 94), some (.ref a1), some (vI x2), some (.ref a3), some (vI x4), some (vI x5)], [.ref a1, vI x2, .ref a3], hp S, 0, 0)) rfl ?_
    obtain ⟨S1, e2, F⟩ := F
    refine mv_cals (as := [.ref a3, vI x2, .ref a1]) (rest := []) e2 rfl rfl rfl ⟨rfl, rfl, rfl⟩ rfl rfl rfl rfl ?_
    refine ev_bk 3 (S' := (163, [some (.ref 94), some (.ref a1), some (vI x2), some (.ref a3), some (vI x4), some (vI x5)], [.ref a1, vI x2, .ref a3], hp S1, 0, 0)) rfl ?_
    obtain ⟨S3, e4, F⟩ := F
    refine mv_cals (as := [.ref a3, vI x2, .ref a1]) (rest := []) e4 rfl rfl rfl ⟨rfl, rfl, rfl⟩ rfl rfl rfl rfl ?_
    refine ev_bk 2 (S' := (169, [some (.ref 94), some (.ref a1), some (vI x2), some (.ref a3), some (vI x4), some (vI 0)], [], hp S3, 0, 0)) rfl ?_
    exact F
  · have F := F.2 c
    refine ev_bk 3 (S' := (145, [some (.ref 94), some (.ref a1), some (vI x2), some (.ref a3), some (vI x4), some (vI x5)], [vI 2, vL 2, .ref a1], hp S, 0, 0)) rfl ?_
    obtain ⟨S5, e6, F⟩ := F
    refine mv_calv (as := [vL 2, vI 2]) (rest := []) e6 (ha1.1) rfl rfl rfl ⟨rfl, rfl⟩ rfl rfl rfl rfl rfl ?_
    refine mv_inc (lv' := [some (.ref 94), some (.ref a1), some (vI x2), some (.ref a3), some (vI x4), some (vI (x5 + 1))]) 5 1 rfl rfl rfl rfl ?_
    refine mv_goto 133 rfl rfl ?_
    exact F
theorem vc_Sorted_symbolsOut_169 {q : Nat × (Nat → Int32)} {S S' : ms} {r : Option Value} (x2 x4 x5 : Int) (a1 na1 : Nat) (ha1 : isRow a1 na1) (a3 : Nat) (ha3 : isCode a3)
    (F : ((w32 (S.1 94 11) ≤ w32 x5) → r = none ∧ S' = S) ∧ ((¬ w32 (S.1 94 11) ≤ w32 x5) → (0 ≤ w32 x5 ∧ w32 x5 < (2501 : Nat)) ∧ (0 ≤ w32 (S.1 103 (w32 x5)) ∧ w32 (S.1 103 (w32 x5)) < (288 : Nat)) ∧ (0 ≤ w32 x5 ∧ w32 x5 < (2501 : Nat)) ∧ (0 ≤ w32 (S.1 103 (w32 x5)) ∧ w32 (S.1 103 (w32 x5)) < (288 : Nat)) ∧ ∃ (S5 : ms), EV q 98 0 [some (.ref a1), some (vL (w32 (S.1 (a3 + 2) (w32 (S.1 103 (w32 x5)))))), none, some (vI (S.1 (a3 + 1) (w32 (S.1 103 (w32 x5))))), none, none, none, none] [] S none S5 ∧ EV q 106 169 [some (.ref 94), some (.ref a1), some (vI x2), some (.ref a3), some (vI x4), some (vI (x5 + 1))] [] S5 r S')) : EV q 106 169 [some (.ref 94), some (.ref a1), some (vI x2), some (.ref a3), some (vI x4), some (vI x5)] [] S r S' := by
  unfold EV
  refine ev_bk 2 (S' := (172, [some (.ref 94), some (.ref a1), some (vI x2), some (.ref a3), some (vI x4), some (vI x5)], [.ref 94, vI x5], hp S, 0, 0)) rfl ?_
  refine mv_gfI rfl rfl (sh_94) (by decide) rfl ?_
  refine mv_icmp 213 rfl rfl (fun c => ?_) (fun c => ?_)
  · have F := F.1 c
    obtain ⟨rfl, rfl⟩ := F
    exact ev_ret rfl rfl
  · have F := F.2 c
    refine ev_bk 2 (S' := (180, [some (.ref 94), some (.ref a1), some (vI x2), some (.ref a3), some (vI x4), some (vI x5)], [.ref a3, .ref a1], hp S, 0, 0)) rfl ?_
    refine mv_gfR rfl rfl (ha3.1) (by decide) rfl ?_
    refine ev_bk 1 (S' := (184, [some (.ref 94), some (.ref a1), some (vI x2), some (.ref a3), some (vI x4), some (vI x5)], [.ref 94, .ref (a3 + 2), .ref a1], hp S, 0, 0)) rfl ?_
    refine mv_gfR rfl rfl (sh_94) (by decide) rfl ?_
    refine ev_bk 1 (S' := (189, [some (.ref 94), some (.ref a1), some (vI x2), some (.ref a3), some (vI x4), some (vI x5)], [vI x5, .ref 103, .ref (a3 + 2), .ref a1], hp S, 0, 0)) rfl ?_
    obtain ⟨b1, F⟩ := F
    refine mv_ial rfl (sh_103) b1 ?_
    obtain ⟨b2, F⟩ := F
    refine mv_ial rfl (ha3.2.2.1) b2 ?_
    refine mv_i2l rfl ?_
    refine ev_bk 1 (S' := (193, [some (.ref 94), some (.ref a1), some (vI x2), some (.ref a3), some (vI x4), some (vI x5)], [.ref a3, vL (w32 (S.1 (a3 + 2) (w32 (S.1 103 (w32 x5))))), .ref a1], hp S, 0, 0)) rfl ?_
    refine mv_gfR rfl rfl (ha3.1) (by decide) rfl ?_
    refine ev_bk 1 (S' := (197, [some (.ref 94), some (.ref a1), some (vI x2), some (.ref a3), some (vI x4), some (vI x5)], [.ref 94, .ref (a3 + 1), vL (w32 (S.1 (a3 + 2) (w32 (S.1 103 (w32 x5))))), .ref a1], hp S, 0, 0)) rfl ?_
    refine mv_gfR rfl rfl (sh_94) (by decide) rfl ?_
    refine ev_bk 1 (S' := (202, [some (.ref 94), some (.ref a1), some (vI x2), some (.ref a3), some (vI x4), some (vI x5)], [vI x5, .ref 103, .ref (a3 + 1), vL (w32 (S.1 (a3 + 2) (w32 (S.1 103 (w32 x5))))), .ref a1], hp S, 0, 0)) rfl ?_
    obtain ⟨b3, F⟩ := F
    refine mv_ial rfl (sh_103) b3 ?_
    obtain ⟨b4, F⟩ := F
    refine mv_ial rfl (ha3.2.1) b4 ?_
    obtain ⟨S5, e6, F⟩ := F
    refine mv_calv (as := [vL (w32 (S.1 (a3 + 2) (w32 (S.1 103 (w32 x5))))), vI (S.1 (a3 + 1) (w32 (S.1 103 (w32 x5))))]) (rest := []) e6 (ha1.1) rfl rfl rfl ⟨rfl, rfl⟩ rfl rfl rfl rfl rfl ?_
    refine mv_inc (lv' := [some (.ref 94), some (.ref a1), some (vI x2), some (.ref a3), some (vI x4), some (vI (x5 + 1))]) 5 1 rfl rfl rfl rfl ?_
    refine mv_goto 169 rfl rfl ?_
    exact F
theorem vc_Sorted_lengthsOut {q : Nat × (Nat → Int32)} {S S' : ms} {r : Option Value} (x1 : Int) (a0 : Nat) (ha0 : isCode a0) (a2 na2 : Nat) (ha2 : isRow a2 na2)
    (F : (0 ≤ w32 0 ∧ w32 0 < (288 : Nat)) ∧ ∃ (S2 : ms), EV q 98 0 [some (.ref a2), some (vL (w32 (S.1 (a0 + 1) (w32 0)))), none, some (vI 5), none, none, none, none] [] S none S2 ∧ EV q 107 17 [some (.ref a0), some (vI x1), some (.ref a2), some (vI (S.1 (a0 + 1) (w32 0))), some (vI 0)] [] S2 r S') : EV q 107 0 [some (.ref a0), some (vI x1), some (.ref a2), none, none] [] S r S' := by
  unfold EV
  refine ev_bk 1 (S' := (1, [some (.ref a0), some (vI x1), some (.ref a2), none, none], [.ref a0], hp S, 0, 0)) rfl ?_
  refine mv_gfR rfl rfl (ha0.1) (by decide) rfl ?_
  refine ev_bk 1 (S' := (5, [some (.ref a0), some (vI x1), some (.ref a2), none, none], [vI 0, .ref (a0 + 1)], hp S, 0, 0)) rfl ?_
  obtain ⟨b1, F⟩ := F
  refine mv_ial rfl (ha0.2.1) b1 ?_
  refine ev_bk 3 (S' := (9, [some (.ref a0), some (vI x1), some (.ref a2), some (vI (S.1 (a0 + 1) (w32 0))), none], [vI (S.1 (a0 + 1) (w32 0)), .ref a2], hp S, 0, 0)) rfl ?_
  refine mv_i2l rfl ?_
  refine ev_bk 1 (S' := (11, [some (.ref a0), some (vI x1), some (.ref a2), some (vI (S.1 (a0 + 1) (w32 0))), none], [vI 5, vL (w32 (S.1 (a0 + 1) (w32 0))), .ref a2], hp S, 0, 0)) rfl ?_
  obtain ⟨S2, e3, F⟩ := F
  refine mv_calv (as := [vL (w32 (S.1 (a0 + 1) (w32 0))), vI 5]) (rest := []) e3 (ha2.1) rfl rfl rfl ⟨rfl, rfl⟩ rfl rfl rfl rfl rfl ?_
  refine ev_bk 2 (S' := (17, [some (.ref a0), some (vI x1), some (.ref a2), some (vI (S.1 (a0 + 1) (w32 0))), some (vI 0)], [], hp S2, 0, 0)) rfl ?_
  exact F
theorem vc_Sorted_lengthsOut_17 {q : Nat × (Nat → Int32)} {S S' : ms} {r : Option Value} (x1 x3 x4 : Int) (a0 : Nat) (ha0 : isCode a0) (a2 na2 : Nat) (ha2 : isRow a2 na2)
    (F : ((w32 x1 ≤ w32 x4) → r = none ∧ S' = S) ∧ ((¬ w32 x1 ≤ w32 x4) → EV q 107 23 [some (.ref a0), some (vI x1), some (.ref a2), some (vI x3), some (vI x4)] [] S r S')) : EV q 107 17 [some (.ref a0), some (vI x1), some (.ref a2), some (vI x3), some (vI x4)] [] S r S' := by
  unfold EV
  refine ev_bk 2 (S' := (20, [some (.ref a0), some (vI x1), some (.ref a2), some (vI x3), some (vI x4)], [vI x1, vI x4], hp S, 0, 0)) rfl ?_
  refine mv_icmp 85 rfl rfl (fun c => ?_) (fun c => ?_)
  · have F := F.1 c
    obtain ⟨rfl, rfl⟩ := F
    exact ev_ret rfl rfl
  · have F := F.2 c
    exact F
theorem vc_Sorted_lengthsOut_23 {q : Nat × (Nat → Int32)} {S S' : ms} {r : Option Value} (x1 x3 x4 : Int) (a0 : Nat) (ha0 : isCode a0) (a2 na2 : Nat) (ha2 : isRow a2 na2)
    (F : (0 ≤ w32 x4 ∧ w32 x4 < (288 : Nat)) ∧ ((w32 (S.1 (a0 + 1) (w32 x4)) ≤ w32 x3) → EV q 107 48 [some (.ref a0), some (vI x1), some (.ref a2), some (vI x3), some (vI x4)] [] S r S') ∧ ((¬ w32 (S.1 (a0 + 1) (w32 x4)) ≤ w32 x3) → ∃ (S2 : ms), EV q 98 0 [some (.ref a2), some (vL 2), none, some (vI 2), none, none, none, none] [] S none S2 ∧ EV q 107 23 [some (.ref a0), some (vI x1), some (.ref a2), some (vI (x3 + 1)), some (vI x4)] [] S2 r S')) : EV q 107 23 [some (.ref a0), some (vI x1), some (.ref a2), some (vI x3), some (vI x4)] [] S r S' := by
  unfold EV
  refine ev_bk 2 (S' := (25, [some (.ref a0), some (vI x1), some (.ref a2), some (vI x3), some (vI x4)], [.ref a0, vI x3], hp S, 0, 0)) rfl ?_
  refine mv_gfR rfl rfl (ha0.1) (by decide) rfl ?_
  refine ev_bk 1 (S' := (30, [some (.ref a0), some (vI x1), some (.ref a2), some (vI x3), some (vI x4)], [vI x4, .ref (a0 + 1), vI x3], hp S, 0, 0)) rfl ?_
  obtain ⟨b1, F⟩ := F
  refine mv_ial rfl (ha0.2.1) b1 ?_
  refine mv_icmp 48 rfl rfl (fun c => ?_) (fun c => ?_)
  · have F := F.1 c
    exact F
  · have F := F.2 c
    refine ev_bk 3 (S' := (39, [some (.ref a0), some (vI x1), some (.ref a2), some (vI x3), some (vI x4)], [vI 2, vL 2, .ref a2], hp S, 0, 0)) rfl ?_
    obtain ⟨S2, e3, F⟩ := F
    refine mv_calv (as := [vL 2, vI 2]) (rest := []) e3 (ha2.1) rfl rfl rfl ⟨rfl, rfl⟩ rfl rfl rfl rfl rfl ?_
    refine mv_inc (lv' := [some (.ref a0), some (vI x1), some (.ref a2), some (vI (x3 + 1)), some (vI x4)]) 3 1 rfl rfl rfl rfl ?_
    refine mv_goto 23 rfl rfl ?_
    exact F
theorem vc_Sorted_lengthsOut_48 {q : Nat × (Nat → Int32)} {S S' : ms} {r : Option Value} (x1 x3 x4 : Int) (a0 : Nat) (ha0 : isCode a0) (a2 na2 : Nat) (ha2 : isRow a2 na2)
    (F : (0 ≤ w32 x4 ∧ w32 x4 < (288 : Nat)) ∧ ((w32 x3 ≤ w32 (S.1 (a0 + 1) (w32 x4))) → ∃ (S2 : ms), EV q 98 0 [some (.ref a2), some (vL 0), none, some (vI 1), none, none, none, none] [] S none S2 ∧ EV q 107 17 [some (.ref a0), some (vI x1), some (.ref a2), some (vI x3), some (vI (x4 + 1))] [] S2 r S') ∧ ((¬ w32 x3 ≤ w32 (S.1 (a0 + 1) (w32 x4))) → ∃ (S4 : ms), EV q 98 0 [some (.ref a2), some (vL 3), none, some (vI 2), none, none, none, none] [] S none S4 ∧ EV q 107 48 [some (.ref a0), some (vI x1), some (.ref a2), some (vI (x3 - 1)), some (vI x4)] [] S4 r S')) : EV q 107 48 [some (.ref a0), some (vI x1), some (.ref a2), some (vI x3), some (vI x4)] [] S r S' := by
  unfold EV
  refine ev_bk 2 (S' := (50, [some (.ref a0), some (vI x1), some (.ref a2), some (vI x3), some (vI x4)], [.ref a0, vI x3], hp S, 0, 0)) rfl ?_
  refine mv_gfR rfl rfl (ha0.1) (by decide) rfl ?_
  refine ev_bk 1 (S' := (55, [some (.ref a0), some (vI x1), some (.ref a2), some (vI x3), some (vI x4)], [vI x4, .ref (a0 + 1), vI x3], hp S, 0, 0)) rfl ?_
  obtain ⟨b1, F⟩ := F
  refine mv_ial rfl (ha0.2.1) b1 ?_
  refine mv_icmp 73 rfl rfl (fun c => ?_) (fun c => ?_)
  · have F := F.1 c
    refine ev_bk 3 (S' := (76, [some (.ref a0), some (vI x1), some (.ref a2), some (vI x3), some (vI x4)], [vI 1, vL 0, .ref a2], hp S, 0, 0)) rfl ?_
    obtain ⟨S2, e3, F⟩ := F
    refine mv_calv (as := [vL 0, vI 1]) (rest := []) e3 (ha2.1) rfl rfl rfl ⟨rfl, rfl⟩ rfl rfl rfl rfl rfl ?_
    refine mv_inc (lv' := [some (.ref a0), some (vI x1), some (.ref a2), some (vI x3), some (vI (x4 + 1))]) 4 1 rfl rfl rfl rfl ?_
    refine mv_goto 17 rfl rfl ?_
    exact F
  · have F := F.2 c
    refine ev_bk 3 (S' := (64, [some (.ref a0), some (vI x1), some (.ref a2), some (vI x3), some (vI x4)], [vI 2, vL 3, .ref a2], hp S, 0, 0)) rfl ?_
    obtain ⟨S4, e5, F⟩ := F
    refine mv_calv (as := [vL 3, vI 2]) (rest := []) e5 (ha2.1) rfl rfl rfl ⟨rfl, rfl⟩ rfl rfl rfl rfl rfl ?_
    refine mv_inc (lv' := [some (.ref a0), some (vI x1), some (.ref a2), some (vI (x3 - 1)), some (vI x4)]) 3 (-1) rfl rfl rfl (by omega) ?_
    refine mv_goto 48 rfl rfl ?_
    exact F
theorem vc_Sorted_openSorted {q : Nat × (Nat → Int32)} {S S' : ms} {r : Option Value}
    (F : ∃ (S1 : ms), EV q 146 0 [some (.ref 9), some (vI 66), some (vI 80), none] [] S none S1 ∧ ∃ (S3 : ms), EV q 146 0 [some (.ref 9), some (vI 90), some (vI 80), none] [] S1 none S3 ∧ ∃ (S5 : ms), EV q 146 0 [some (.ref 9), some (vI 104), some (vI 80), none] [] S3 none S5 ∧ ∃ (z9 : Int) (S7 : ms), EV q 118 0 [some (.ref 9)] [] S5 (some (vI z9)) S7 ∧ ((w32 z9 < 49) → EV q 161 41 [some (.ref 94), some (.ref 9), some (vI z9), none, none, none, none] [] S7 r S') ∧ ((¬ w32 z9 < 49) → ((w32 z9 ≤ 57) → EV q 161 47 [some (.ref 94), some (.ref 9), some (vI z9), none, none, none, none] [] S7 r S') ∧ ((¬ w32 z9 ≤ 57) → EV q 161 41 [some (.ref 94), some (.ref 9), some (vI z9), none, none, none, none] [] S7 r S'))) : EV q 161 0 [some (.ref 94), some (.ref 9), none, none, none, none, none] [] S r S' := by
  unfold EV
  refine ev_bk 3 (S' := (5, [some (.ref 94), some (.ref 9), none, none, none, none, none], [vI 80, vI 66, .ref 9], hp S, 0, 0)) rfl ?_
  obtain ⟨S1, e2, F⟩ := F
  refine mv_calv (as := [vI 66, vI 80]) (rest := []) e2 (sh_9) rfl rfl rfl ⟨rfl, rfl⟩ rfl rfl rfl rfl rfl ?_
  refine ev_bk 3 (S' := (13, [some (.ref 94), some (.ref 9), none, none, none, none, none], [vI 80, vI 90, .ref 9], hp S1, 0, 0)) rfl ?_
  obtain ⟨S3, e4, F⟩ := F
  refine mv_calv (as := [vI 90, vI 80]) (rest := []) e4 (sh_9) rfl rfl rfl ⟨rfl, rfl⟩ rfl rfl rfl rfl rfl ?_
  refine ev_bk 3 (S' := (21, [some (.ref 94), some (.ref 9), none, none, none, none, none], [vI 80, vI 104, .ref 9], hp S3, 0, 0)) rfl ?_
  obtain ⟨S5, e6, F⟩ := F
  refine mv_calv (as := [vI 104, vI 80]) (rest := []) e6 (sh_9) rfl rfl rfl ⟨rfl, rfl⟩ rfl rfl rfl rfl rfl ?_
  refine ev_bk 1 (S' := (25, [some (.ref 94), some (.ref 9), none, none, none, none, none], [.ref 9], hp S5, 0, 0)) rfl ?_
  obtain ⟨z9, S7, e8, F⟩ := F
  refine mv_calv (as := []) (rest := []) e8 (sh_9) rfl rfl rfl ⟨rfl, rfl⟩ rfl rfl rfl rfl rfl ?_
  refine ev_bk 3 (S' := (32, [some (.ref 94), some (.ref 9), some (vI z9), none, none, none, none], [vI 49, vI z9], hp S7, 0, 0)) rfl ?_
  refine mv_icmp 41 rfl rfl (fun c => ?_) (fun c => ?_)
  · have F := F.1 c
    exact F
  · have F := F.2 c
    refine ev_bk 2 (S' := (38, [some (.ref 94), some (.ref 9), some (vI z9), none, none, none, none], [vI 57, vI z9], hp S7, 0, 0)) rfl ?_
    refine mv_icmp 47 rfl rfl (fun c => ?_) (fun c => ?_)
    · have F := F.1 c
      exact F
    · have F := F.2 c
      exact F
theorem vc_Sorted_openSorted_41 {q : Nat × (Nat → Int32)} {S S' : ms} {r : Option Value} (x2 : Int)
    (F : ∃ (S1 : ms), EV q 124 0 [some (.ref 9), some (vI 80)] [] S none S1 ∧ EV q 161 47 [some (.ref 94), some (.ref 9), some (vI x2), none, none, none, none] [] S1 r S') : EV q 161 41 [some (.ref 94), some (.ref 9), some (vI x2), none, none, none, none] [] S r S' := by
  unfold EV
  refine ev_bk 2 (S' := (44, [some (.ref 94), some (.ref 9), some (vI x2), none, none, none, none], [vI 80, .ref 9], hp S, 0, 0)) rfl ?_
  obtain ⟨S1, e2, F⟩ := F
  refine mv_calv (as := [vI 80]) (rest := []) e2 (sh_9) rfl rfl rfl ⟨rfl, rfl⟩ rfl rfl rfl rfl rfl ?_
  exact F
theorem vc_Sorted_openSorted_47 {q : Nat × (Nat → Int32)} {S S' : ms} {r : Option Value} (x2 : Int)
    (F : EV q 161 52 [some (.ref 94), some (.ref 9), some (vI x2), some (vI 0), some (vI 0), none, none] [] S r S') : EV q 161 47 [some (.ref 94), some (.ref 9), some (vI x2), none, none, none, none] [] S r S' := by
  unfold EV
  refine ev_bk 4 (S' := (52, [some (.ref 94), some (.ref 9), some (vI x2), some (vI 0), some (vI 0), none, none], [], hp S, 0, 0)) rfl ?_
  exact F
theorem vc_Sorted_openSorted_52 {q : Nat × (Nat → Int32)} {S S' : ms} {r : Option Value} (x2 x3 x4 : Int)
    (F : ((1000000 ≤ w32 x4) → r = none ∧ S' = S) ∧ ((¬ 1000000 ≤ w32 x4) → ((¬ w32 (S.1 9 5) = 0) → r = none ∧ S' = S) ∧ ((¬ (¬ w32 (S.1 9 5) = 0)) → ∃ (z3 : Int) (S1 : ms), EV q 123 0 [some (.ref 9), some (vI 48), none, none, none] [] S (some (vL z3)) S1 ∧ ((¬ w64 z3 = w64 25779555029136) → ((w64 z3 = w64 54156738319193) → EV q 161 125 [some (.ref 94), some (.ref 9), some (vI x2), some (vI x3), some (vI x4), some (vL z3), none] [] S1 r S') ∧ ((¬ w64 z3 = w64 54156738319193) → ∃ (S4 : ms), EV q 124 0 [some (.ref 9), some (vI 81)] [] S1 none S4 ∧ EV q 161 125 [some (.ref 94), some (.ref 9), some (vI x2), some (vI x3), some (vI x4), some (vL z3), none] [] S4 r S')) ∧ ((¬ (¬ w64 z3 = w64 25779555029136)) → ∃ (z8 : Int) (S6 : ms), EV q 123 0 [some (.ref 9), some (vI 32), none, none, none] [] S1 (some (vL z8)) S6 ∧ ((w64 z8 = w64 ((w32 x3) % 4294967296)) → EV q 161 105 [some (.ref 94), some (.ref 9), some (vI x2), some (vI x3), some (vI x4), some (vL z3), none] [] S6 r S') ∧ ((¬ w64 z8 = w64 ((w32 x3) % 4294967296)) → ∃ (S9 : ms), EV q 124 0 [some (.ref 9), some (vI 91)] [] S6 none S9 ∧ EV q 161 105 [some (.ref 94), some (.ref 9), some (vI x2), some (vI x3), some (vI x4), some (vL z3), none] [] S9 r S'))))) : EV q 161 52 [some (.ref 94), some (.ref 9), some (vI x2), some (vI x3), some (vI x4), none, none] [] S r S' := by
  unfold EV
  refine ev_bk 2 (S' := (56, [some (.ref 94), some (.ref 9), some (vI x2), some (vI x3), some (vI x4), none, none], [vI 1000000, vI x4], hp S, 0, 0)) rfl ?_
  refine mv_icmp 143 rfl rfl (fun c => ?_) (fun c => ?_)
  · have F := F.1 c
    obtain ⟨rfl, rfl⟩ := F
    exact ev_ret rfl rfl
  · have F := F.2 c
    refine ev_bk 1 (S' := (60, [some (.ref 94), some (.ref 9), some (vI x2), some (vI x3), some (vI x4), none, none], [.ref 9], hp S, 0, 0)) rfl ?_
    refine mv_gfI rfl rfl (sh_9) (by decide) rfl ?_
    refine mv_if 143 rfl rfl (fun c => ?_) (fun c => ?_)
    · have F := F.1 c
      obtain ⟨rfl, rfl⟩ := F
      exact ev_ret rfl rfl
    · have F := F.2 c
      refine ev_bk 2 (S' := (69, [some (.ref 94), some (.ref 9), some (vI x2), some (vI x3), some (vI x4), none, none], [vI 48, .ref 9], hp S, 0, 0)) rfl ?_
      obtain ⟨z3, S1, e2, F⟩ := F
      refine mv_calv (as := [vI 48]) (rest := []) e2 (sh_9) rfl rfl rfl ⟨rfl, rfl⟩ rfl rfl rfl rfl rfl ?_
      refine ev_bk 3 (S' := (79, [some (.ref 94), some (.ref 9), some (vI x2), some (vI x3), some (vI x4), some (vL z3), none], [vL 25779555029136, vL z3], hp S1, 0, 0)) rfl ?_
      refine mv_lif 110 rfl rfl rfl (fun c => ?_) (fun c => ?_)
      · have F := F.1 c
        refine ev_bk 2 (S' := (115, [some (.ref 94), some (.ref 9), some (vI x2), some (vI x3), some (vI x4), some (vL z3), none], [vL 54156738319193, vL z3], hp S1, 0, 0)) rfl ?_
        refine mv_lif 125 rfl rfl rfl (fun c => ?_) (fun c => ?_)
        · have F := F.1 c
          exact F
        · have F := F.2 c
          refine ev_bk 2 (S' := (122, [some (.ref 94), some (.ref 9), some (vI x2), some (vI x3), some (vI x4), some (vL z3), none], [vI 81, .ref 9], hp S1, 0, 0)) rfl ?_
          obtain ⟨S4, e5, F⟩ := F
          refine mv_calv (as := [vI 81]) (rest := []) e5 (sh_9) rfl rfl rfl ⟨rfl, rfl⟩ rfl rfl rfl rfl rfl ?_
          exact F
      · have F := F.2 c
        refine ev_bk 2 (S' := (86, [some (.ref 94), some (.ref 9), some (vI x2), some (vI x3), some (vI x4), some (vL z3), none], [vI 32, .ref 9], hp S1, 0, 0)) rfl ?_
        obtain ⟨z8, S6, e7, F⟩ := F
        refine mv_calv (as := [vI 32]) (rest := []) e7 (sh_9) rfl rfl rfl ⟨rfl, rfl⟩ rfl rfl rfl rfl rfl ?_
        refine ev_bk 1 (S' := (90, [some (.ref 94), some (.ref 9), some (vI x2), some (vI x3), some (vI x4), some (vL z3), none], [vI x3, vL z8], hp S6, 0, 0)) rfl ?_
        refine mv_i2l rfl ?_
        refine ev_bk 1 (S' := (94, [some (.ref 94), some (.ref 9), some (vI x2), some (vI x3), some (vI x4), some (vL z3), none], [vL 4294967295, vL (w32 x3), vL z8], hp S6, 0, 0)) rfl ?_
        refine mv_landm 4294967296 32 (by decide) rfl rfl rfl ?_
        refine mv_lif 105 rfl rfl rfl (fun c => ?_) (fun c => ?_)
        · have F := F.1 c
          exact F
        · have F := F.2 c
          refine ev_bk 2 (S' := (102, [some (.ref 94), some (.ref 9), some (vI x2), some (vI x3), some (vI x4), some (vL z3), none], [vI 91, .ref 9], hp S6, 0, 0)) rfl ?_
          obtain ⟨S9, e10, F⟩ := F
          refine mv_calv (as := [vI 91]) (rest := []) e10 (sh_9) rfl rfl rfl ⟨rfl, rfl⟩ rfl rfl rfl rfl rfl ?_
          exact F
theorem vc_Sorted_openSorted_105 {q : Nat × (Nat → Int32)} {S S' : ms} {r : Option Value} (x2 x3 x4 x5 : Int)
    (F : ∃ (S1 : ms), EV q 125 0 [some (.ref 9)] [] S none S1 ∧ r = none ∧ S' = S1) : EV q 161 105 [some (.ref 94), some (.ref 9), some (vI x2), some (vI x3), some (vI x4), some (vL x5), none] [] S r S' := by
  unfold EV
  refine ev_bk 1 (S' := (106, [some (.ref 94), some (.ref 9), some (vI x2), some (vI x3), some (vI x4), some (vL x5), none], [.ref 9], hp S, 0, 0)) rfl ?_
  obtain ⟨S1, e2, F⟩ := F
  refine mv_calv (as := []) (rest := []) e2 (sh_9) rfl rfl rfl ⟨rfl, rfl⟩ rfl rfl rfl rfl rfl ?_
  obtain ⟨rfl, rfl⟩ := F
  exact ev_ret rfl rfl
theorem vc_Sorted_openSorted_125 {q : Nat × (Nat → Int32)} {S S' : ms} {r : Option Value} (x2 x3 x4 x5 : Int)
    (F : ∃ (z3 : Int) (S1 : ms), EV q 32 0 [some (vI x3), some (vI 1)] [] S (some (vI z3)) S1 ∧ ∃ (z6 : Int) (S4 : ms), EV q 162 0 [some (.ref 94), some (.ref 9), none, none, none, none] [] S1 (some (vI z6)) S4 ∧ EV q 161 52 [some (.ref 94), some (.ref 9), some (vI x2), some (vI (bX z3 z6)), some (vI (x4 + 1)), none, none] [] S4 r S') : EV q 161 125 [some (.ref 94), some (.ref 9), some (vI x2), some (vI x3), some (vI x4), some (vL x5), none] [] S r S' := by
  unfold EV
  refine ev_bk 2 (S' := (127, [some (.ref 94), some (.ref 9), some (vI x2), some (vI x3), some (vI x4), some (vL x5), none], [vI 1, vI x3], hp S, 0, 0)) rfl ?_
  obtain ⟨z3, S1, e2, F⟩ := F
  refine mv_cals (as := [vI x3, vI 1]) (rest := []) e2 rfl rfl rfl ⟨rfl, rfl, rfl⟩ rfl rfl rfl rfl ?_
  refine ev_bk 2 (S' := (132, [some (.ref 94), some (.ref 9), some (vI x2), some (vI x3), some (vI x4), some (vL x5), none], [.ref 9, .ref 94, vI z3], hp S1, 0, 0)) rfl ?_
  obtain ⟨z6, S4, e5, F⟩ := F
  refine mv_calv (as := [.ref 9]) (rest := [vI z3]) e5 (sh_94) rfl rfl rfl ⟨rfl, rfl⟩ rfl rfl rfl rfl rfl ?_
  refine mv_ixor rfl ?_
  refine ev_bk 1 (S' := (137, [some (.ref 94), some (.ref 9), some (vI x2), some (vI (bX z3 z6)), some (vI x4), some (vL x5), none], [], hp S4, 0, 0)) rfl ?_
  refine mv_inc (lv' := [some (.ref 94), some (.ref 9), some (vI x2), some (vI (bX z3 z6)), some (vI (x4 + 1)), some (vL x5), none]) 4 1 rfl rfl rfl rfl ?_
  refine mv_goto 52 rfl rfl ?_
  exact ev_wk (le_s (le_s (le_s (le_s (le_s (le_n (le_s le_0))))))) F
theorem vc_Sorted_openBlock {q : Nat × (Nat → Int32)} {S S' : ms} {r : Option Value}
    (F : ∃ (z3 : Int) (S1 : ms), EV q 123 0 [some (.ref 9), some (vI 32), none, none, none] [] S (some (vL z3)) S1 ∧ ∃ (z6 : Int) (S4 : ms), EV q 123 0 [some (.ref 9), some (vI 1), none, none, none] [] S1 (some (vL z6)) S4 ∧ ((w64 z6 = w64 0) → EV q 162 24 [some (.ref 94), some (.ref 9), some (vI z3), none, none, none] [] S4 r S') ∧ ((¬ w64 z6 = w64 0) → ∃ (S7 : ms), EV q 124 0 [some (.ref 9), some (vI 82)] [] S4 none S7 ∧ EV q 162 24 [some (.ref 94), some (.ref 9), some (vI z3), none, none, none] [] S7 r S')) : EV q 162 0 [some (.ref 94), some (.ref 9), none, none, none, none] [] S r S' := by
  unfold EV
  refine ev_bk 2 (S' := (3, [some (.ref 94), some (.ref 9), none, none, none, none], [vI 32, .ref 9], hp S, 0, 0)) rfl ?_
  obtain ⟨z3, S1, e2, F⟩ := F
  refine mv_calv (as := [vI 32]) (rest := []) e2 (sh_9) rfl rfl rfl ⟨rfl, rfl⟩ rfl rfl rfl rfl rfl ?_
  refine mv_l2i rfl ?_
  refine ev_bk 3 (S' := (10, [some (.ref 94), some (.ref 9), some (vI z3), none, none, none], [vI 1, .ref 9], hp S1, 0, 0)) rfl ?_
  obtain ⟨z6, S4, e5, F⟩ := F
  refine mv_calv (as := [vI 1]) (rest := []) e5 (sh_9) rfl rfl rfl ⟨rfl, rfl⟩ rfl rfl rfl rfl rfl ?_
  refine ev_bk 1 (S' := (14, [some (.ref 94), some (.ref 9), some (vI z3), none, none, none], [vL 0, vL z6], hp S4, 0, 0)) rfl ?_
  refine mv_lif 24 rfl rfl rfl (fun c => ?_) (fun c => ?_)
  · have F := F.1 c
    exact F
  · have F := F.2 c
    refine ev_bk 2 (S' := (21, [some (.ref 94), some (.ref 9), some (vI z3), none, none, none], [vI 82, .ref 9], hp S4, 0, 0)) rfl ?_
    obtain ⟨S7, e8, F⟩ := F
    refine mv_calv (as := [vI 82]) (rest := []) e8 (sh_9) rfl rfl rfl ⟨rfl, rfl⟩ rfl rfl rfl rfl rfl ?_
    exact F
theorem vc_Sorted_openBlock_24 {q : Nat × (Nat → Int32)} {S S' : ms} {r : Option Value} (x2 : Int)
    (F : ∃ (z3 : Int) (S1 : ms), EV q 123 0 [some (.ref 9), some (vI 24), none, none, none] [] S (some (vL z3)) S1 ∧ ∃ (S4 : ms), EV q 163 0 [some (.ref 94), some (.ref 9), none, none, none, none, none, none] [] S1 none S4 ∧ ∃ (z8 : Int) (S6 : ms), EV q 123 0 [some (.ref 9), some (vI 3), none, none, none] [] S4 (some (vL z8)) S6 ∧ ((w32 z8 < 2) → EV q 162 58 [some (.ref 94), some (.ref 9), some (vI x2), some (vI z3), some (vI z8), none] [] S6 r S') ∧ ((¬ w32 z8 < 2) → ((w32 z8 ≤ 6) → EV q 162 64 [some (.ref 94), some (.ref 9), some (vI x2), some (vI z3), some (vI z8), none] [] S6 r S') ∧ ((¬ w32 z8 ≤ 6) → EV q 162 58 [some (.ref 94), some (.ref 9), some (vI x2), some (vI z3), some (vI z8), none] [] S6 r S'))) : EV q 162 24 [some (.ref 94), some (.ref 9), some (vI x2), none, none, none] [] S r S' := by
  unfold EV
  refine ev_bk 2 (S' := (27, [some (.ref 94), some (.ref 9), some (vI x2), none, none, none], [vI 24, .ref 9], hp S, 0, 0)) rfl ?_
  obtain ⟨z3, S1, e2, F⟩ := F
  refine mv_calv (as := [vI 24]) (rest := []) e2 (sh_9) rfl rfl rfl ⟨rfl, rfl⟩ rfl rfl rfl rfl rfl ?_
  refine mv_l2i rfl ?_
  refine ev_bk 3 (S' := (34, [some (.ref 94), some (.ref 9), some (vI x2), some (vI z3), none, none], [.ref 9, .ref 94], hp S1, 0, 0)) rfl ?_
  obtain ⟨S4, e5, F⟩ := F
  refine mv_calv (as := [.ref 9]) (rest := []) e5 (sh_94) rfl rfl rfl ⟨rfl, rfl⟩ rfl rfl rfl rfl rfl ?_
  refine ev_bk 2 (S' := (39, [some (.ref 94), some (.ref 9), some (vI x2), some (vI z3), none, none], [vI 3, .ref 9], hp S4, 0, 0)) rfl ?_
  obtain ⟨z8, S6, e7, F⟩ := F
  refine mv_calv (as := [vI 3]) (rest := []) e7 (sh_9) rfl rfl rfl ⟨rfl, rfl⟩ rfl rfl rfl rfl rfl ?_
  refine mv_l2i rfl ?_
  refine ev_bk 3 (S' := (48, [some (.ref 94), some (.ref 9), some (vI x2), some (vI z3), some (vI z8), none], [vI 2, vI z8], hp S6, 0, 0)) rfl ?_
  refine mv_icmp 58 rfl rfl (fun c => ?_) (fun c => ?_)
  · have F := F.1 c
    exact F
  · have F := F.2 c
    refine ev_bk 2 (S' := (55, [some (.ref 94), some (.ref 9), some (vI x2), some (vI z3), some (vI z8), none], [vI 6, vI z8], hp S6, 0, 0)) rfl ?_
    refine mv_icmp 64 rfl rfl (fun c => ?_) (fun c => ?_)
    · have F := F.1 c
      exact F
    · have F := F.2 c
      exact F
theorem vc_Sorted_openBlock_58 {q : Nat × (Nat → Int32)} {S S' : ms} {r : Option Value} (x2 x3 x4 : Int)
    (F : ∃ (S1 : ms), EV q 124 0 [some (.ref 9), some (vI 85)] [] S none S1 ∧ EV q 162 64 [some (.ref 94), some (.ref 9), some (vI x2), some (vI x3), some (vI x4), none] [] S1 r S') : EV q 162 58 [some (.ref 94), some (.ref 9), some (vI x2), some (vI x3), some (vI x4), none] [] S r S' := by
  unfold EV
  refine ev_bk 2 (S' := (61, [some (.ref 94), some (.ref 9), some (vI x2), some (vI x3), some (vI x4), none], [vI 85, .ref 9], hp S, 0, 0)) rfl ?_
  obtain ⟨S1, e2, F⟩ := F
  refine mv_calv (as := [vI 85]) (rest := []) e2 (sh_9) rfl rfl rfl ⟨rfl, rfl⟩ rfl rfl rfl rfl rfl ?_
  exact F
theorem vc_Sorted_openBlock_64 {q : Nat × (Nat → Int32)} {S S' : ms} {r : Option Value} (x2 x3 x4 : Int)
    (F : ∃ (z3 : Int) (S1 : ms), EV q 123 0 [some (.ref 9), some (vI 15), none, none, none] [] S (some (vL z3)) S1 ∧ ∀ S4 : ms, S4 = wI S1 94 15 z3 → ((¬ w32 (S4.1 94 15) = 0) → EV q 162 88 [some (.ref 94), some (.ref 9), some (vI x2), some (vI x3), some (vI x4), none] [] S4 r S') ∧ ((¬ (¬ w32 (S4.1 94 15) = 0)) → ∃ (S5 : ms), EV q 124 0 [some (.ref 9), some (vI 85)] [] S4 none S5 ∧ EV q 162 88 [some (.ref 94), some (.ref 9), some (vI x2), some (vI x3), some (vI x4), none] [] S5 r S')) : EV q 162 64 [some (.ref 94), some (.ref 9), some (vI x2), some (vI x3), some (vI x4), none] [] S r S' := by
  unfold EV
  refine ev_bk 3 (S' := (68, [some (.ref 94), some (.ref 9), some (vI x2), some (vI x3), some (vI x4), none], [vI 15, .ref 9, .ref 94], hp S, 0, 0)) rfl ?_
  obtain ⟨z3, S1, e2, F⟩ := F
  refine mv_calv (as := [vI 15]) (rest := [.ref 94]) e2 (sh_9) rfl rfl rfl ⟨rfl, rfl⟩ rfl rfl rfl rfl rfl ?_
  refine mv_l2i rfl ?_
  refine mv_pfI rfl rfl (sh_94) (by decide) rfl rfl ?_
  have F := F _ rfl
  refine ev_bk 1 (S' := (76, [some (.ref 94), some (.ref 9), some (vI x2), some (vI x3), some (vI x4), none], [.ref 94], hp (wI S1 94 15 z3), 0, 0)) rfl ?_
  refine mv_gfI rfl rfl (sh_94) (by decide) rfl ?_
  refine mv_if 88 rfl rfl (fun c => ?_) (fun c => ?_)
  · have F := F.1 c
    exact F
  · have F := F.2 c
    refine ev_bk 2 (S' := (85, [some (.ref 94), some (.ref 9), some (vI x2), some (vI x3), some (vI x4), none], [vI 85, .ref 9], hp (wI S1 94 15 z3), 0, 0)) rfl ?_
    obtain ⟨S5, e6, F⟩ := F
    refine mv_calv (as := [vI 85]) (rest := []) e6 (sh_9) rfl rfl rfl ⟨rfl, rfl⟩ rfl rfl rfl rfl rfl ?_
    exact F
theorem vc_Sorted_openBlock_88 {q : Nat × (Nat → Int32)} {S S' : ms} {r : Option Value} (x2 x3 x4 : Int)
    (F : ∃ (S1 : ms), EV q 164 0 [some (.ref 94), some (.ref 9), some (vI x4), none, none, none, none, none, none] [] S none S1 ∧ EV q 162 98 [some (.ref 94), some (.ref 9), some (vI x2), some (vI x3), some (vI x4), some (vI 0)] [] S1 r S') : EV q 162 88 [some (.ref 94), some (.ref 9), some (vI x2), some (vI x3), some (vI x4), none] [] S r S' := by
  unfold EV
  refine ev_bk 3 (S' := (92, [some (.ref 94), some (.ref 9), some (vI x2), some (vI x3), some (vI x4), none], [vI x4, .ref 9, .ref 94], hp S, 0, 0)) rfl ?_
  obtain ⟨S1, e2, F⟩ := F
  refine mv_calv (as := [.ref 9, vI x4]) (rest := []) e2 (sh_94) rfl rfl rfl ⟨rfl, rfl⟩ rfl rfl rfl rfl rfl ?_
  refine ev_bk 2 (S' := (98, [some (.ref 94), some (.ref 9), some (vI x2), some (vI x3), some (vI x4), some (vI 0)], [], hp S1, 0, 0)) rfl ?_
  exact F
theorem vc_Sorted_openBlock_98 {q : Nat × (Nat → Int32)} {S S' : ms} {r : Option Value} (x2 x3 x4 x5 : Int)
    (F : ((w32 x4 ≤ w32 x5) → EV q 162 130 [some (.ref 94), some (.ref 9), some (vI x2), some (vI x3), some (vI x4), some (vI x5)] [] S r S') ∧ ((¬ w32 x4 ≤ w32 x5) → ((¬ w32 (S.1 9 5) = 0) → EV q 162 130 [some (.ref 94), some (.ref 9), some (vI x2), some (vI x3), some (vI x4), some (vI x5)] [] S r S') ∧ ((¬ (¬ w32 (S.1 9 5) = 0)) → (0 ≤ w32 x5 ∧ w32 x5 < (6 : Nat)) ∧ ∃ (o2 : Nat), sh_r (SH 105).2.2 (w32 x5).toNat = some o2 ∧ isCode o2 ∧ ∃ (S5 : ms), EV q 165 0 [some (.ref 94), some (.ref 9), some (.ref o2), none, none, none] [] S none S5 ∧ EV q 162 98 [some (.ref 94), some (.ref 9), some (vI x2), some (vI x3), some (vI x4), some (vI (x5 + 1))] [] S5 r S'))) : EV q 162 98 [some (.ref 94), some (.ref 9), some (vI x2), some (vI x3), some (vI x4), some (vI x5)] [] S r S' := by
  unfold EV
  refine ev_bk 2 (S' := (102, [some (.ref 94), some (.ref 9), some (vI x2), some (vI x3), some (vI x4), some (vI x5)], [vI x4, vI x5], hp S, 0, 0)) rfl ?_
  refine mv_icmp 130 rfl rfl (fun c => ?_) (fun c => ?_)
  · have F := F.1 c
    exact F
  · have F := F.2 c
    refine ev_bk 1 (S' := (106, [some (.ref 94), some (.ref 9), some (vI x2), some (vI x3), some (vI x4), some (vI x5)], [.ref 9], hp S, 0, 0)) rfl ?_
    refine mv_gfI rfl rfl (sh_9) (by decide) rfl ?_
    refine mv_if 130 rfl rfl (fun c => ?_) (fun c => ?_)
    · have F := F.1 c
      exact F
    · have F := F.2 c
      refine ev_bk 3 (S' := (115, [some (.ref 94), some (.ref 9), some (vI x2), some (vI x3), some (vI x4), some (vI x5)], [.ref 94, .ref 9, .ref 94], hp S, 0, 0)) rfl ?_
      refine mv_gfR rfl rfl (sh_94) (by decide) rfl ?_
      refine ev_bk 1 (S' := (120, [some (.ref 94), some (.ref 9), some (vI x2), some (vI x3), some (vI x4), some (vI x5)], [vI x5, .ref 105, .ref 9, .ref 94], hp S, 0, 0)) rfl ?_
      obtain ⟨b1, o2, e4, h3, F⟩ := F
      refine mv_aal rfl (sh_105) (Or.inr rfl) b1 e4 ?_
      obtain ⟨S5, e6, F⟩ := F
      refine mv_calv (as := [.ref 9, .ref o2]) (rest := []) e6 (sh_94) rfl rfl rfl ⟨rfl, rfl⟩ rfl rfl rfl rfl rfl ?_
      refine mv_inc (lv' := [some (.ref 94), some (.ref 9), some (vI x2), some (vI x3), some (vI x4), some (vI (x5 + 1))]) 5 1 rfl rfl rfl rfl ?_
      refine mv_goto 98 rfl rfl ?_
      exact F
theorem vc_Sorted_openBlock_130 {q : Nat × (Nat → Int32)} {S S' : ms} {r : Option Value} (x2 x3 x4 x5 : Int)
    (F : ∃ (S1 : ms), EV q 167 0 [some (.ref 94), some (.ref 9), none, none, none, none] [] S none S1 ∧ ((w32 x3 < w32 (S1.1 94 1)) → EV q 162 149 [some (.ref 94), some (.ref 9), some (vI x2), some (vI x3), some (vI x4), some (vI x5)] [] S1 r S') ∧ ((¬ w32 x3 < w32 (S1.1 94 1)) → ∃ (S3 : ms), EV q 124 0 [some (.ref 9), some (vI 83)] [] S1 none S3 ∧ EV q 162 149 [some (.ref 94), some (.ref 9), some (vI x2), some (vI x3), some (vI x4), some (vI x5)] [] S3 r S')) : EV q 162 130 [some (.ref 94), some (.ref 9), some (vI x2), some (vI x3), some (vI x4), some (vI x5)] [] S r S' := by
  unfold EV
  refine ev_bk 2 (S' := (132, [some (.ref 94), some (.ref 9), some (vI x2), some (vI x3), some (vI x4), some (vI x5)], [.ref 9, .ref 94], hp S, 0, 0)) rfl ?_
  obtain ⟨S1, e2, F⟩ := F
  refine mv_calv (as := [.ref 9]) (rest := []) e2 (sh_94) rfl rfl rfl ⟨rfl, rfl⟩ rfl rfl rfl rfl rfl ?_
  refine ev_bk 2 (S' := (137, [some (.ref 94), some (.ref 9), some (vI x2), some (vI x3), some (vI x4), some (vI x5)], [.ref 94, vI x3], hp S1, 0, 0)) rfl ?_
  refine mv_gfI rfl rfl (sh_94) (by decide) rfl ?_
  refine mv_icmp 149 rfl rfl (fun c => ?_) (fun c => ?_)
  · have F := F.1 c
    exact F
  · have F := F.2 c
    refine ev_bk 2 (S' := (146, [some (.ref 94), some (.ref 9), some (vI x2), some (vI x3), some (vI x4), some (vI x5)], [vI 83, .ref 9], hp S1, 0, 0)) rfl ?_
    obtain ⟨S3, e4, F⟩ := F
    refine mv_calv (as := [vI 83]) (rest := []) e4 (sh_9) rfl rfl rfl ⟨rfl, rfl⟩ rfl rfl rfl rfl rfl ?_
    exact F
theorem vc_Sorted_openBlock_149 {q : Nat × (Nat → Int32)} {S S' : ms} {r : Option Value} (x2 x3 x4 x5 : Int)
    (F : ((¬ w32 (S.1 9 5) = 0) → r = some (vI x2) ∧ S' = S) ∧ ((¬ (¬ w32 (S.1 9 5) = 0)) → ∃ (S1 : ms), EV q 169 0 [some (.ref 94), some (.ref 9), some (vI x3), some (vI x2), none, none, none, none, none, none] [] S none S1 ∧ r = some (vI x2) ∧ S' = S1)) : EV q 162 149 [some (.ref 94), some (.ref 9), some (vI x2), some (vI x3), some (vI x4), some (vI x5)] [] S r S' := by
  unfold EV
  refine ev_bk 1 (S' := (150, [some (.ref 94), some (.ref 9), some (vI x2), some (vI x3), some (vI x4), some (vI x5)], [.ref 9], hp S, 0, 0)) rfl ?_
  refine mv_gfI rfl rfl (sh_9) (by decide) rfl ?_
  refine mv_if 163 rfl rfl (fun c => ?_) (fun c => ?_)
  · have F := F.1 c
    refine ev_bk 1 (S' := (164, [some (.ref 94), some (.ref 9), some (vI x2), some (vI x3), some (vI x4), some (vI x5)], [vI x2], hp S, 0, 0)) rfl ?_
    obtain ⟨rfl, rfl⟩ := F
    exact ev_ret rfl rfl
  · have F := F.2 c
    refine ev_bk 4 (S' := (160, [some (.ref 94), some (.ref 9), some (vI x2), some (vI x3), some (vI x4), some (vI x5)], [vI x2, vI x3, .ref 9, .ref 94], hp S, 0, 0)) rfl ?_
    obtain ⟨S1, e2, F⟩ := F
    refine mv_calv (as := [.ref 9, vI x3, vI x2]) (rest := []) e2 (sh_94) rfl rfl rfl ⟨rfl, rfl⟩ rfl rfl rfl rfl rfl ?_
    refine ev_bk 1 (S' := (164, [some (.ref 94), some (.ref 9), some (vI x2), some (vI x3), some (vI x4), some (vI x5)], [vI x2], hp S1, 0, 0)) rfl ?_
    obtain ⟨rfl, rfl⟩ := F
    exact ev_ret rfl rfl
theorem vc_Sorted_openSigns {q : Nat × (Nat → Int32)} {S S' : ms} {r : Option Value}
    (F : ∀ S1 : ms, S1 = wI S 94 9 0 → ∃ (z4 : Int) (S2 : ms), EV q 123 0 [some (.ref 9), some (vI 16), none, none, none] [] S1 (some (vL z4)) S2 ∧ EV q 163 15 [some (.ref 94), some (.ref 9), some (vL z4), none, some (vI 0), none, none, none] [] S2 r S') : EV q 163 0 [some (.ref 94), some (.ref 9), none, none, none, none, none, none] [] S r S' := by
  unfold EV
  refine ev_bk 2 (S' := (2, [some (.ref 94), some (.ref 9), none, none, none, none, none, none], [vI 0, .ref 94], hp S, 0, 0)) rfl ?_
  refine mv_pfI rfl rfl (sh_94) (by decide) rfl rfl ?_
  have F := F _ rfl
  refine ev_bk 2 (S' := (8, [some (.ref 94), some (.ref 9), none, none, none, none, none, none], [vI 16, .ref 9], hp (wI S 94 9 0), 0, 0)) rfl ?_
  obtain ⟨z4, S2, e3, F⟩ := F
  refine mv_calv (as := [vI 16]) (rest := []) e3 (sh_9) rfl rfl rfl ⟨rfl, rfl⟩ rfl rfl rfl rfl rfl ?_
  refine ev_bk 3 (S' := (15, [some (.ref 94), some (.ref 9), some (vL z4), none, some (vI 0), none, none, none], [], hp S2, 0, 0)) rfl ?_
  exact F
theorem vc_Sorted_openSigns_15 {q : Nat × (Nat → Int32)} {S S' : ms} {r : Option Value} (x2 x4 : Int)
    (F : ((16 ≤ w32 x4) → EV q 163 117 [some (.ref 94), some (.ref 9), some (vL x2), none, some (vI x4), none, none, none] [] S r S') ∧ ((¬ 16 ≤ w32 x4) → ((¬ w32 (S.1 9 5) = 0) → EV q 163 117 [some (.ref 94), some (.ref 9), some (vL x2), none, some (vI x4), none, none, none] [] S r S') ∧ ((¬ (¬ w32 (S.1 9 5) = 0)) → ((w64 (lA x2 (w32 (w32 32768 / ((2 : Int) ^ (x4 % 32).toNat)))) = w64 0) → EV q 163 52 [some (.ref 94), some (.ref 9), some (vL x2), none, some (vI x4), none, none, none] [vL 0] S r S') ∧ ((¬ w64 (lA x2 (w32 (w32 32768 / ((2 : Int) ^ (x4 % 32).toNat)))) = w64 0) → ∃ (z3 : Int) (S1 : ms), EV q 123 0 [some (.ref 9), some (vI 16), none, none, none] [] S (some (vL z3)) S1 ∧ EV q 163 52 [some (.ref 94), some (.ref 9), some (vL x2), none, some (vI x4), none, none, none] [vL z3] S1 r S')))) : EV q 163 15 [some (.ref 94), some (.ref 9), some (vL x2), none, some (vI x4), none, none, none] [] S r S' := by
  unfold EV
  refine ev_bk 2 (S' := (19, [some (.ref 94), some (.ref 9), some (vL x2), none, some (vI x4), none, none, none], [vI 16, vI x4], hp S, 0, 0)) rfl ?_
  refine mv_icmp 117 rfl rfl (fun c => ?_) (fun c => ?_)
  · have F := F.1 c
    exact F
  · have F := F.2 c
    refine ev_bk 1 (S' := (23, [some (.ref 94), some (.ref 9), some (vL x2), none, some (vI x4), none, none, none], [.ref 9], hp S, 0, 0)) rfl ?_
    refine mv_gfI rfl rfl (sh_9) (by decide) rfl ?_
    refine mv_if 117 rfl rfl (fun c => ?_) (fun c => ?_)
    · have F := F.1 c
      exact F
    · have F := F.2 c
      refine ev_bk 3 (S' := (34, [some (.ref 94), some (.ref 9), some (vL x2), none, some (vI x4), none, none, none], [vI x4, vI 32768, vL x2], hp S, 0, 0)) rfl ?_
      refine mv_ishr ((2 : Int) ^ (x4 % 32).toNat) rfl rfl ?_
      refine mv_i2l rfl ?_
      refine mv_land rfl ?_
      refine ev_bk 1 (S' := (38, [some (.ref 94), some (.ref 9), some (vL x2), none, some (vI x4), none, none, none], [vL 0, vL (lA x2 (w32 (w32 32768 / ((2 : Int) ^ (x4 % 32).toNat))))], hp S, 0, 0)) rfl ?_
      refine mv_lif 51 rfl rfl rfl (fun c => ?_) (fun c => ?_)
      · have F := F.1 c
        refine ev_bk 1 (S' := (52, [some (.ref 94), some (.ref 9), some (vL x2), none, some (vI x4), none, none, none], [vL 0], hp S, 0, 0)) rfl ?_
        exact F
      · have F := F.2 c
        refine ev_bk 2 (S' := (45, [some (.ref 94), some (.ref 9), some (vL x2), none, some (vI x4), none, none, none], [vI 16, .ref 9], hp S, 0, 0)) rfl ?_
        obtain ⟨z3, S1, e2, F⟩ := F
        refine mv_calv (as := [vI 16]) (rest := []) e2 (sh_9) rfl rfl rfl ⟨rfl, rfl⟩ rfl rfl rfl rfl rfl ?_
        refine mv_goto 52 rfl rfl ?_
        exact F
theorem vc_Sorted_openSigns_52 {q : Nat × (Nat → Int32)} {S S' : ms} {r : Option Value} (x2 x4 y0 : Int)
    (F : EV q 163 57 [some (.ref 94), some (.ref 9), some (vL x2), none, some (vI x4), some (vL y0), none, some (vI 0)] [] S r S') : EV q 163 52 [some (.ref 94), some (.ref 9), some (vL x2), none, some (vI x4), none, none, none] [vL y0] S r S' := by
  unfold EV
  refine ev_bk 3 (S' := (57, [some (.ref 94), some (.ref 9), some (vL x2), none, some (vI x4), some (vL y0), none, some (vI 0)], [], hp S, 0, 0)) rfl ?_
  exact F
theorem vc_Sorted_openSigns_57 {q : Nat × (Nat → Int32)} {S S' : ms} {r : Option Value} (x2 x4 x5 x7 : Int)
    (F : ((16 ≤ w32 x7) → EV q 163 15 [some (.ref 94), some (.ref 9), some (vL x2), none, some (vI (x4 + 1)), none, none, none] [] S r S') ∧ ((¬ 16 ≤ w32 x7) → ((w64 (lA x5 (w32 (w32 32768 / ((2 : Int) ^ (x7 % 32).toNat)))) = w64 0) → EV q 163 105 [some (.ref 94), some (.ref 9), some (vL x2), none, some (vI x4), some (vL x5), none, some (vI x7)] [] S r S') ∧ ((¬ w64 (lA x5 (w32 (w32 32768 / ((2 : Int) ^ (x7 % 32).toNat)))) = w64 0) → (0 ≤ w32 (S.1 94 9) ∧ w32 (S.1 94 9) < (256 : Nat)) ∧ ∀ S2 : ms, S2 = wI S 102 (w32 (S.1 94 9)) ((16 * x4) + x7) → ∀ S3 : ms, S3 = wI S2 94 9 (S2.1 94 9 + 1) → EV q 163 105 [some (.ref 94), some (.ref 9), some (vL x2), none, some (vI x4), some (vL x5), none, some (vI x7)] [] S3 r S'))) : EV q 163 57 [some (.ref 94), some (.ref 9), some (vL x2), none, some (vI x4), some (vL x5), none, some (vI x7)] [] S r S' := by
  unfold EV
  refine ev_bk 2 (S' := (61, [some (.ref 94), some (.ref 9), some (vL x2), none, some (vI x4), some (vL x5), none, some (vI x7)], [vI 16, vI x7], hp S, 0, 0)) rfl ?_
  refine mv_icmp 111 rfl rfl (fun c => ?_) (fun c => ?_)
  · have F := F.1 c
    refine mv_inc (lv' := [some (.ref 94), some (.ref 9), some (vL x2), none, some (vI (x4 + 1)), some (vL x5), none, some (vI x7)]) 4 1 rfl rfl rfl rfl ?_
    refine mv_goto 15 rfl rfl ?_
    exact ev_wk (le_s (le_s (le_s (le_s (le_s (le_n (le_s (le_n le_0)))))))) F
  · have F := F.2 c
    refine ev_bk 3 (S' := (70, [some (.ref 94), some (.ref 9), some (vL x2), none, some (vI x4), some (vL x5), none, some (vI x7)], [vI x7, vI 32768, vL x5], hp S, 0, 0)) rfl ?_
    refine mv_ishr ((2 : Int) ^ (x7 % 32).toNat) rfl rfl ?_
    refine mv_i2l rfl ?_
    refine mv_land rfl ?_
    refine ev_bk 1 (S' := (74, [some (.ref 94), some (.ref 9), some (vL x2), none, some (vI x4), some (vL x5), none, some (vI x7)], [vL 0, vL (lA x5 (w32 (w32 32768 / ((2 : Int) ^ (x7 % 32).toNat))))], hp S, 0, 0)) rfl ?_
    refine mv_lif 105 rfl rfl rfl (fun c => ?_) (fun c => ?_)
    · have F := F.1 c
      exact F
    · have F := F.2 c
      refine ev_bk 1 (S' := (79, [some (.ref 94), some (.ref 9), some (vL x2), none, some (vI x4), some (vL x5), none, some (vI x7)], [.ref 94], hp S, 0, 0)) rfl ?_
      refine mv_gfR rfl rfl (sh_94) (by decide) rfl ?_
      refine ev_bk 1 (S' := (83, [some (.ref 94), some (.ref 9), some (vL x2), none, some (vI x4), some (vL x5), none, some (vI x7)], [.ref 94, .ref 102], hp S, 0, 0)) rfl ?_
      refine mv_gfI rfl rfl (sh_94) (by decide) rfl ?_
      refine ev_bk 2 (S' := (90, [some (.ref 94), some (.ref 9), some (vL x2), none, some (vI x4), some (vL x5), none, some (vI x7)], [vI x4, vI 16, vI (S.1 94 9), .ref 102], hp S, 0, 0)) rfl ?_
      refine mv_imul rfl ?_
      refine ev_bk 1 (S' := (93, [some (.ref 94), some (.ref 9), some (vL x2), none, some (vI x4), some (vL x5), none, some (vI x7)], [vI x7, vI (16 * x4), vI (S.1 94 9), .ref 102], hp S, 0, 0)) rfl ?_
      refine mv_iadd rfl ?_
      obtain ⟨b1, F⟩ := F
      refine mv_ias rfl (sh_102) b1 ?_
      have F := F _ rfl
      refine ev_bk 2 (S' := (97, [some (.ref 94), some (.ref 9), some (vL x2), none, some (vI x4), some (vL x5), none, some (vI x7)], [.ref 94, .ref 94], hp (wI S 102 (w32 (S.1 94 9)) ((16 * x4) + x7)), 0, 0)) rfl ?_
      refine mv_gfI rfl rfl (sh_94) (by decide) rfl ?_
      refine ev_bk 1 (S' := (101, [some (.ref 94), some (.ref 9), some (vL x2), none, some (vI x4), some (vL x5), none, some (vI x7)], [vI 1, vI ((wI S 102 (w32 (S.1 94 9)) ((16 * x4) + x7)).1 94 9), .ref 94], hp (wI S 102 (w32 (S.1 94 9)) ((16 * x4) + x7)), 0, 0)) rfl ?_
      refine mv_iadd rfl ?_
      refine mv_pfI rfl rfl (sh_94) (by decide) rfl rfl ?_
      have F := F _ rfl
      exact F
theorem vc_Sorted_openSigns_105 {q : Nat × (Nat → Int32)} {S S' : ms} {r : Option Value} (x2 x4 x5 x7 : Int)
    (F : EV q 163 57 [some (.ref 94), some (.ref 9), some (vL x2), none, some (vI x4), some (vL x5), none, some (vI (x7 + 1))] [] S r S') : EV q 163 105 [some (.ref 94), some (.ref 9), some (vL x2), none, some (vI x4), some (vL x5), none, some (vI x7)] [] S r S' := by
  unfold EV
  refine mv_inc (lv' := [some (.ref 94), some (.ref 9), some (vL x2), none, some (vI x4), some (vL x5), none, some (vI (x7 + 1))]) 7 1 rfl rfl rfl rfl ?_
  refine mv_goto 57 rfl rfl ?_
  exact F
theorem vc_Sorted_openSigns_117 {q : Nat × (Nat → Int32)} {S S' : ms} {r : Option Value} (x2 x4 : Int)
    (F : ((¬ w32 (S.1 94 9) = 0) → r = none ∧ S' = S) ∧ ((¬ (¬ w32 (S.1 94 9) = 0)) → ∃ (S1 : ms), EV q 124 0 [some (.ref 9), some (vI 84)] [] S none S1 ∧ r = none ∧ S' = S1)) : EV q 163 117 [some (.ref 94), some (.ref 9), some (vL x2), none, some (vI x4), none, none, none] [] S r S' := by
  unfold EV
  refine ev_bk 1 (S' := (118, [some (.ref 94), some (.ref 9), some (vL x2), none, some (vI x4), none, none, none], [.ref 94], hp S, 0, 0)) rfl ?_
  refine mv_gfI rfl rfl (sh_94) (by decide) rfl ?_
  refine mv_if 130 rfl rfl (fun c => ?_) (fun c => ?_)
  · have F := F.1 c
    obtain ⟨rfl, rfl⟩ := F
    exact ev_ret rfl rfl
  · have F := F.2 c
    refine ev_bk 2 (S' := (127, [some (.ref 94), some (.ref 9), some (vL x2), none, some (vI x4), none, none, none], [vI 84, .ref 9], hp S, 0, 0)) rfl ?_
    obtain ⟨S1, e2, F⟩ := F
    refine mv_calv (as := [vI 84]) (rest := []) e2 (sh_9) rfl rfl rfl ⟨rfl, rfl⟩ rfl rfl rfl rfl rfl ?_
    obtain ⟨rfl, rfl⟩ := F
    exact ev_ret rfl rfl
theorem vc_Sorted_openChoices {q : Nat × (Nat → Int32)} {S S' : ms} {r : Option Value} (x2 : Int)
    (F : EV q 164 6 [some (.ref 94), some (.ref 9), some (vI x2), some (vI 181896), some (vI 0), none, none, none, none] [] S r S') : EV q 164 0 [some (.ref 94), some (.ref 9), some (vI x2), none, none, none, none, none, none] [] S r S' := by
  unfold EV
  refine ev_bk 4 (S' := (6, [some (.ref 94), some (.ref 9), some (vI x2), some (vI 181896), some (vI 0), none, none, none, none], [], hp S, 0, 0)) rfl ?_
  exact F
theorem vc_Sorted_openChoices_6 {q : Nat × (Nat → Int32)} {S S' : ms} {r : Option Value} (x2 x3 x4 : Int)
    (F : ((w32 (S.1 94 15) ≤ w32 x4) → r = none ∧ S' = S) ∧ ((¬ w32 (S.1 94 15) ≤ w32 x4) → ((¬ w32 (S.1 9 5) = 0) → r = none ∧ S' = S) ∧ ((¬ (¬ w32 (S.1 9 5) = 0)) → EV q 164 25 [some (.ref 94), some (.ref 9), some (vI x2), some (vI x3), some (vI x4), some (vI 0), none, none, none] [] S r S'))) : EV q 164 6 [some (.ref 94), some (.ref 9), some (vI x2), some (vI x3), some (vI x4), none, none, none, none] [] S r S' := by
  unfold EV
  refine ev_bk 2 (S' := (9, [some (.ref 94), some (.ref 9), some (vI x2), some (vI x3), some (vI x4), none, none, none, none], [.ref 94, vI x4], hp S, 0, 0)) rfl ?_
  refine mv_gfI rfl rfl (sh_94) (by decide) rfl ?_
  refine mv_icmp 126 rfl rfl (fun c => ?_) (fun c => ?_)
  · have F := F.1 c
    obtain ⟨rfl, rfl⟩ := F
    exact ev_ret rfl rfl
  · have F := F.2 c
    refine ev_bk 1 (S' := (16, [some (.ref 94), some (.ref 9), some (vI x2), some (vI x3), some (vI x4), none, none, none, none], [.ref 9], hp S, 0, 0)) rfl ?_
    refine mv_gfI rfl rfl (sh_9) (by decide) rfl ?_
    refine mv_if 126 rfl rfl (fun c => ?_) (fun c => ?_)
    · have F := F.1 c
      obtain ⟨rfl, rfl⟩ := F
      exact ev_ret rfl rfl
    · have F := F.2 c
      refine ev_bk 2 (S' := (25, [some (.ref 94), some (.ref 9), some (vI x2), some (vI x3), some (vI x4), some (vI 0), none, none, none], [], hp S, 0, 0)) rfl ?_
      exact F
theorem vc_Sorted_openChoices_25 {q : Nat × (Nat → Int32)} {S S' : ms} {r : Option Value} (x2 x3 x4 x5 : Int)
    (F : ((w32 x2 ≤ w32 x5) → EV q 164 47 [some (.ref 94), some (.ref 9), some (vI x2), some (vI x3), some (vI x4), some (vI x5), none, none, none] [] S r S') ∧ ((¬ w32 x2 ≤ w32 x5) → ∃ (z3 : Int) (S1 : ms), EV q 123 0 [some (.ref 9), some (vI 1), none, none, none] [] S (some (vL z3)) S1 ∧ ((¬ w64 z3 = w64 1) → EV q 164 47 [some (.ref 94), some (.ref 9), some (vI x2), some (vI x3), some (vI x4), some (vI x5), none, none, none] [] S1 r S') ∧ ((¬ (¬ w64 z3 = w64 1)) → EV q 164 25 [some (.ref 94), some (.ref 9), some (vI x2), some (vI x3), some (vI x4), some (vI (x5 + 1)), none, none, none] [] S1 r S'))) : EV q 164 25 [some (.ref 94), some (.ref 9), some (vI x2), some (vI x3), some (vI x4), some (vI x5), none, none, none] [] S r S' := by
  unfold EV
  refine ev_bk 2 (S' := (28, [some (.ref 94), some (.ref 9), some (vI x2), some (vI x3), some (vI x4), some (vI x5), none, none, none], [vI x2, vI x5], hp S, 0, 0)) rfl ?_
  refine mv_icmp 47 rfl rfl (fun c => ?_) (fun c => ?_)
  · have F := F.1 c
    exact F
  · have F := F.2 c
    refine ev_bk 2 (S' := (33, [some (.ref 94), some (.ref 9), some (vI x2), some (vI x3), some (vI x4), some (vI x5), none, none, none], [vI 1, .ref 9], hp S, 0, 0)) rfl ?_
    obtain ⟨z3, S1, e2, F⟩ := F
    refine mv_calv (as := [vI 1]) (rest := []) e2 (sh_9) rfl rfl rfl ⟨rfl, rfl⟩ rfl rfl rfl rfl rfl ?_
    refine ev_bk 1 (S' := (37, [some (.ref 94), some (.ref 9), some (vI x2), some (vI x3), some (vI x4), some (vI x5), none, none, none], [vL 1, vL z3], hp S1, 0, 0)) rfl ?_
    refine mv_lif 47 rfl rfl rfl (fun c => ?_) (fun c => ?_)
    · have F := F.1 c
      exact F
    · have F := F.2 c
      refine mv_inc (lv' := [some (.ref 94), some (.ref 9), some (vI x2), some (vI x3), some (vI x4), some (vI (x5 + 1)), none, none, none]) 5 1 rfl rfl rfl rfl ?_
      refine mv_goto 25 rfl rfl ?_
      exact F
theorem vc_Sorted_openChoices_47 {q : Nat × (Nat → Int32)} {S S' : ms} {r : Option Value} (x2 x3 x4 x5 : Int)
    (F : ((¬ w32 x5 = w32 x2) → (0 ≤ w32 x4 ∧ w32 x4 < (32768 : Nat)) ∧ ∀ S2 : ms, S2 = wI S 106 (w32 x4) ((w32 x3 / ((2 : Int) ^ ((3 * x5) % 32).toNat)) % 8) → EV q 164 6 [some (.ref 94), some (.ref 9), some (vI x2), some (vI (bO (bO ((w32 x3 / ((2 : Int) ^ (((3 * x5) + 3) % 32).toNat)) * ((2 : Int) ^ (((3 * x5) + 3) % 32).toNat)) ((bA x3 ((1 * ((2 : Int) ^ ((3 * x5) % 32).toNat)) - 1)) * 8)) ((w32 x3 / ((2 : Int) ^ ((3 * x5) % 32).toNat)) % 8))), some (vI (x4 + 1)), none, none, none, none] [] S2 r S') ∧ ((¬ (¬ w32 x5 = w32 x2)) → ∃ (S3 : ms), EV q 124 0 [some (.ref 9), some (vI 86)] [] S none S3 ∧ r = none ∧ S' = S3)) : EV q 164 47 [some (.ref 94), some (.ref 9), some (vI x2), some (vI x3), some (vI x4), some (vI x5), none, none, none] [] S r S' := by
  unfold EV
  refine ev_bk 2 (S' := (50, [some (.ref 94), some (.ref 9), some (vI x2), some (vI x3), some (vI x4), some (vI x5), none, none, none], [vI x2, vI x5], hp S, 0, 0)) rfl ?_
  refine mv_icmp 60 rfl rfl (fun c => ?_) (fun c => ?_)
  · have F := F.1 c
    refine ev_bk 3 (S' := (64, [some (.ref 94), some (.ref 9), some (vI x2), some (vI x3), some (vI x4), some (vI x5), none, none, none], [vI x5, vI 3, vI x3], hp S, 0, 0)) rfl ?_
    refine mv_imul rfl ?_
    refine mv_ishr ((2 : Int) ^ ((3 * x5) % 32).toNat) rfl rfl ?_
    refine ev_bk 1 (S' := (68, [some (.ref 94), some (.ref 9), some (vI x2), some (vI x3), some (vI x4), some (vI x5), none, none, none], [vI 7, vI (w32 x3 / ((2 : Int) ^ ((3 * x5) % 32).toNat))], hp S, 0, 0)) rfl ?_
    refine mv_iandm 8 3 (by decide) rfl rfl rfl ?_
    refine ev_bk 5 (S' := (76, [some (.ref 94), some (.ref 9), some (vI x2), some (vI x3), some (vI x4), some (vI x5), some (vI ((w32 x3 / ((2 : Int) ^ ((3 * x5) % 32).toNat)) % 8)), none, none], [vI x5, vI 3, vI 1, vI x3], hp S, 0, 0)) rfl ?_
    refine mv_imul rfl ?_
    refine mv_ishl ((2 : Int) ^ ((3 * x5) % 32).toNat) rfl rfl ?_
    refine ev_bk 1 (S' := (79, [some (.ref 94), some (.ref 9), some (vI x2), some (vI x3), some (vI x4), some (vI x5), some (vI ((w32 x3 / ((2 : Int) ^ ((3 * x5) % 32).toNat)) % 8)), none, none], [vI 1, vI (1 * ((2 : Int) ^ ((3 * x5) % 32).toNat)), vI x3], hp S, 0, 0)) rfl ?_
    refine mv_isub rfl ?_
    refine mv_iand rfl ?_
    refine ev_bk 4 (S' := (87, [some (.ref 94), some (.ref 9), some (vI x2), some (vI x3), some (vI x4), some (vI x5), some (vI ((w32 x3 / ((2 : Int) ^ ((3 * x5) % 32).toNat)) % 8)), some (vI (bA x3 ((1 * ((2 : Int) ^ ((3 * x5) % 32).toNat)) - 1))), none], [vI x5, vI 3, vI x3], hp S, 0, 0)) rfl ?_
    refine mv_imul rfl ?_
    refine ev_bk 1 (S' := (89, [some (.ref 94), some (.ref 9), some (vI x2), some (vI x3), some (vI x4), some (vI x5), some (vI ((w32 x3 / ((2 : Int) ^ ((3 * x5) % 32).toNat)) % 8)), some (vI (bA x3 ((1 * ((2 : Int) ^ ((3 * x5) % 32).toNat)) - 1))), none], [vI 3, vI (3 * x5), vI x3], hp S, 0, 0)) rfl ?_
    refine mv_iadd rfl ?_
    refine mv_ishr ((2 : Int) ^ (((3 * x5) + 3) % 32).toNat) rfl rfl ?_
    refine ev_bk 2 (S' := (94, [some (.ref 94), some (.ref 9), some (vI x2), some (vI x3), some (vI x4), some (vI x5), some (vI ((w32 x3 / ((2 : Int) ^ ((3 * x5) % 32).toNat)) % 8)), some (vI (bA x3 ((1 * ((2 : Int) ^ ((3 * x5) % 32).toNat)) - 1))), none], [vI x5, vI 3, vI (w32 x3 / ((2 : Int) ^ (((3 * x5) + 3) % 32).toNat))], hp S, 0, 0)) rfl ?_
    refine mv_imul rfl ?_
    refine ev_bk 1 (S' := (96, [some (.ref 94), some (.ref 9), some (vI x2), some (vI x3), some (vI x4), some (vI x5), some (vI ((w32 x3 / ((2 : Int) ^ ((3 * x5) % 32).toNat)) % 8)), some (vI (bA x3 ((1 * ((2 : Int) ^ ((3 * x5) % 32).toNat)) - 1))), none], [vI 3, vI (3 * x5), vI (w32 x3 / ((2 : Int) ^ (((3 * x5) + 3) % 32).toNat))], hp S, 0, 0)) rfl ?_
    refine mv_iadd rfl ?_
    refine mv_ishl ((2 : Int) ^ (((3 * x5) + 3) % 32).toNat) rfl rfl ?_
    refine ev_bk 4 (S' := (105, [some (.ref 94), some (.ref 9), some (vI x2), some (vI x3), some (vI x4), some (vI x5), some (vI ((w32 x3 / ((2 : Int) ^ ((3 * x5) % 32).toNat)) % 8)), some (vI (bA x3 ((1 * ((2 : Int) ^ ((3 * x5) % 32).toNat)) - 1))), some (vI ((w32 x3 / ((2 : Int) ^ (((3 * x5) + 3) % 32).toNat)) * ((2 : Int) ^ (((3 * x5) + 3) % 32).toNat)))], [vI 3, vI (bA x3 ((1 * ((2 : Int) ^ ((3 * x5) % 32).toNat)) - 1)), vI ((w32 x3 / ((2 : Int) ^ (((3 * x5) + 3) % 32).toNat)) * ((2 : Int) ^ (((3 * x5) + 3) % 32).toNat))], hp S, 0, 0)) rfl ?_
    refine mv_ishl 8 rfl rfl ?_
    refine mv_ior rfl ?_
    refine ev_bk 1 (S' := (109, [some (.ref 94), some (.ref 9), some (vI x2), some (vI x3), some (vI x4), some (vI x5), some (vI ((w32 x3 / ((2 : Int) ^ ((3 * x5) % 32).toNat)) % 8)), some (vI (bA x3 ((1 * ((2 : Int) ^ ((3 * x5) % 32).toNat)) - 1))), some (vI ((w32 x3 / ((2 : Int) ^ (((3 * x5) + 3) % 32).toNat)) * ((2 : Int) ^ (((3 * x5) + 3) % 32).toNat)))], [vI ((w32 x3 / ((2 : Int) ^ ((3 * x5) % 32).toNat)) % 8), vI (bO ((w32 x3 / ((2 : Int) ^ (((3 * x5) + 3) % 32).toNat)) * ((2 : Int) ^ (((3 * x5) + 3) % 32).toNat)) ((bA x3 ((1 * ((2 : Int) ^ ((3 * x5) % 32).toNat)) - 1)) * 8))], hp S, 0, 0)) rfl ?_
    refine mv_ior rfl ?_
    refine ev_bk 2 (S' := (112, [some (.ref 94), some (.ref 9), some (vI x2), some (vI (bO (bO ((w32 x3 / ((2 : Int) ^ (((3 * x5) + 3) % 32).toNat)) * ((2 : Int) ^ (((3 * x5) + 3) % 32).toNat)) ((bA x3 ((1 * ((2 : Int) ^ ((3 * x5) % 32).toNat)) - 1)) * 8)) ((w32 x3 / ((2 : Int) ^ ((3 * x5) % 32).toNat)) % 8))), some (vI x4), some (vI x5), some (vI ((w32 x3 / ((2 : Int) ^ ((3 * x5) % 32).toNat)) % 8)), some (vI (bA x3 ((1 * ((2 : Int) ^ ((3 * x5) % 32).toNat)) - 1))), some (vI ((w32 x3 / ((2 : Int) ^ (((3 * x5) + 3) % 32).toNat)) * ((2 : Int) ^ (((3 * x5) + 3) % 32).toNat)))], [.ref 94], hp S, 0, 0)) rfl ?_
    refine mv_gfR rfl rfl (sh_94) (by decide) rfl ?_
    refine ev_bk 2 (S' := (119, [some (.ref 94), some (.ref 9), some (vI x2), some (vI (bO (bO ((w32 x3 / ((2 : Int) ^ (((3 * x5) + 3) % 32).toNat)) * ((2 : Int) ^ (((3 * x5) + 3) % 32).toNat)) ((bA x3 ((1 * ((2 : Int) ^ ((3 * x5) % 32).toNat)) - 1)) * 8)) ((w32 x3 / ((2 : Int) ^ ((3 * x5) % 32).toNat)) % 8))), some (vI x4), some (vI x5), some (vI ((w32 x3 / ((2 : Int) ^ ((3 * x5) % 32).toNat)) % 8)), some (vI (bA x3 ((1 * ((2 : Int) ^ ((3 * x5) % 32).toNat)) - 1))), some (vI ((w32 x3 / ((2 : Int) ^ (((3 * x5) + 3) % 32).toNat)) * ((2 : Int) ^ (((3 * x5) + 3) % 32).toNat)))], [vI ((w32 x3 / ((2 : Int) ^ ((3 * x5) % 32).toNat)) % 8), vI x4, .ref 106], hp S, 0, 0)) rfl ?_
    obtain ⟨b1, F⟩ := F
    refine mv_ias rfl (sh_106) b1 ?_
    have F := F _ rfl
    refine mv_inc (lv' := [some (.ref 94), some (.ref 9), some (vI x2), some (vI (bO (bO ((w32 x3 / ((2 : Int) ^ (((3 * x5) + 3) % 32).toNat)) * ((2 : Int) ^ (((3 * x5) + 3) % 32).toNat)) ((bA x3 ((1 * ((2 : Int) ^ ((3 * x5) % 32).toNat)) - 1)) * 8)) ((w32 x3 / ((2 : Int) ^ ((3 * x5) % 32).toNat)) % 8))), some (vI (x4 + 1)), some (vI x5), some (vI ((w32 x3 / ((2 : Int) ^ ((3 * x5) % 32).toNat)) % 8)), some (vI (bA x3 ((1 * ((2 : Int) ^ ((3 * x5) % 32).toNat)) - 1))), some (vI ((w32 x3 / ((2 : Int) ^ (((3 * x5) + 3) % 32).toNat)) * ((2 : Int) ^ (((3 * x5) + 3) % 32).toNat)))]) 4 1 rfl rfl rfl rfl ?_
    refine mv_goto 6 rfl rfl ?_
    exact ev_wk (le_s (le_s (le_s (le_s (le_s (le_n (le_n (le_n (le_n le_0))))))))) F
  · have F := F.2 c
    refine ev_bk 2 (S' := (56, [some (.ref 94), some (.ref 9), some (vI x2), some (vI x3), some (vI x4), some (vI x5), none, none, none], [vI 86, .ref 9], hp S, 0, 0)) rfl ?_
    obtain ⟨S3, e4, F⟩ := F
    refine mv_calv (as := [vI 86]) (rest := []) e4 (sh_9) rfl rfl rfl ⟨rfl, rfl⟩ rfl rfl rfl rfl rfl ?_
    obtain ⟨rfl, rfl⟩ := F
    exact ev_ret rfl rfl
theorem vc_Sorted_openLengths {q : Nat × (Nat → Int32)} {S S' : ms} {r : Option Value} (a2 : Nat) (ha2 : isCode a2)
    (F : ∃ (z3 : Int) (S1 : ms), EV q 123 0 [some (.ref 9), some (vI 5), none, none, none] [] S (some (vL z3)) S1 ∧ EV q 165 10 [some (.ref 94), some (.ref 9), some (.ref a2), some (vI z3), some (vI 0), none] [] S1 r S') : EV q 165 0 [some (.ref 94), some (.ref 9), some (.ref a2), none, none, none] [] S r S' := by
  unfold EV
  refine ev_bk 2 (S' := (2, [some (.ref 94), some (.ref 9), some (.ref a2), none, none, none], [vI 5, .ref 9], hp S, 0, 0)) rfl ?_
  obtain ⟨z3, S1, e2, F⟩ := F
  refine mv_calv (as := [vI 5]) (rest := []) e2 (sh_9) rfl rfl rfl ⟨rfl, rfl⟩ rfl rfl rfl rfl rfl ?_
  refine mv_l2i rfl ?_
  refine ev_bk 3 (S' := (10, [some (.ref 94), some (.ref 9), some (.ref a2), some (vI z3), some (vI 0), none], [], hp S1, 0, 0)) rfl ?_
  exact F
theorem vc_Sorted_openLengths_10 {q : Nat × (Nat → Int32)} {S S' : ms} {r : Option Value} (x3 x4 : Int) (a2 : Nat) (ha2 : isCode a2)
    (F : ((w32 (S.1 94 9 + 2) ≤ w32 x4) → EV q 165 104 [some (.ref 94), some (.ref 9), some (.ref a2), some (vI x3), some (vI x4), none] [] S r S') ∧ ((¬ w32 (S.1 94 9 + 2) ≤ w32 x4) → ((¬ w32 (S.1 9 5) = 0) → EV q 165 104 [some (.ref 94), some (.ref 9), some (.ref a2), some (vI x3), some (vI x4), none] [] S r S') ∧ ((¬ (¬ w32 (S.1 9 5) = 0)) → EV q 165 31 [some (.ref 94), some (.ref 9), some (.ref a2), some (vI x3), some (vI x4), some (vI 0)] [] S r S'))) : EV q 165 10 [some (.ref 94), some (.ref 9), some (.ref a2), some (vI x3), some (vI x4), none] [] S r S' := by
  unfold EV
  refine ev_bk 2 (S' := (13, [some (.ref 94), some (.ref 9), some (.ref a2), some (vI x3), some (vI x4), none], [.ref 94, vI x4], hp S, 0, 0)) rfl ?_
  refine mv_gfI rfl rfl (sh_94) (by decide) rfl ?_
  refine ev_bk 1 (S' := (17, [some (.ref 94), some (.ref 9), some (.ref a2), some (vI x3), some (vI x4), none], [vI 2, vI (S.1 94 9), vI x4], hp S, 0, 0)) rfl ?_
  refine mv_iadd rfl ?_
  refine mv_icmp 104 rfl rfl (fun c => ?_) (fun c => ?_)
  · have F := F.1 c
    exact F
  · have F := F.2 c
    refine ev_bk 1 (S' := (22, [some (.ref 94), some (.ref 9), some (.ref a2), some (vI x3), some (vI x4), none], [.ref 9], hp S, 0, 0)) rfl ?_
    refine mv_gfI rfl rfl (sh_9) (by decide) rfl ?_
    refine mv_if 104 rfl rfl (fun c => ?_) (fun c => ?_)
    · have F := F.1 c
      exact F
    · have F := F.2 c
      refine ev_bk 2 (S' := (31, [some (.ref 94), some (.ref 9), some (.ref a2), some (vI x3), some (vI x4), some (vI 0)], [], hp S, 0, 0)) rfl ?_
      exact F
theorem vc_Sorted_openLengths_31 {q : Nat × (Nat → Int32)} {S S' : ms} {r : Option Value} (x3 x4 x5 : Int) (a2 : Nat) (ha2 : isCode a2)
    (F : ((1000000 ≤ w32 x5) → EV q 165 72 [some (.ref 94), some (.ref 9), some (.ref a2), some (vI x3), some (vI x4), some (vI x5)] [] S r S') ∧ ((¬ 1000000 ≤ w32 x5) → ∃ (z3 : Int) (S1 : ms), EV q 123 0 [some (.ref 9), some (vI 1), none, none, none] [] S (some (vL z3)) S1 ∧ ((¬ w64 z3 = w64 1) → EV q 165 72 [some (.ref 94), some (.ref 9), some (.ref a2), some (vI x3), some (vI x4), some (vI x5)] [] S1 r S') ∧ ((¬ (¬ w64 z3 = w64 1)) → ∃ (z6 : Int) (S4 : ms), EV q 123 0 [some (.ref 9), some (vI 1), none, none, none] [] S1 (some (vL z6)) S4 ∧ ((¬ w64 z6 = w64 0) → EV q 165 64 [some (.ref 94), some (.ref 9), some (.ref a2), some (vI x3), some (vI x4), some (vI x5)] [vI ((-1)), vI x3] S4 r S') ∧ ((¬ (¬ w64 z6 = w64 0)) → EV q 165 64 [some (.ref 94), some (.ref 9), some (.ref a2), some (vI x3), some (vI x4), some (vI x5)] [vI 1, vI x3] S4 r S')))) : EV q 165 31 [some (.ref 94), some (.ref 9), some (.ref a2), some (vI x3), some (vI x4), some (vI x5)] [] S r S' := by
  unfold EV
  refine ev_bk 2 (S' := (35, [some (.ref 94), some (.ref 9), some (.ref a2), some (vI x3), some (vI x4), some (vI x5)], [vI 1000000, vI x5], hp S, 0, 0)) rfl ?_
  refine mv_icmp 72 rfl rfl (fun c => ?_) (fun c => ?_)
  · have F := F.1 c
    exact F
  · have F := F.2 c
    refine ev_bk 2 (S' := (40, [some (.ref 94), some (.ref 9), some (.ref a2), some (vI x3), some (vI x4), some (vI x5)], [vI 1, .ref 9], hp S, 0, 0)) rfl ?_
    obtain ⟨z3, S1, e2, F⟩ := F
    refine mv_calv (as := [vI 1]) (rest := []) e2 (sh_9) rfl rfl rfl ⟨rfl, rfl⟩ rfl rfl rfl rfl rfl ?_
    refine ev_bk 1 (S' := (44, [some (.ref 94), some (.ref 9), some (.ref a2), some (vI x3), some (vI x4), some (vI x5)], [vL 1, vL z3], hp S1, 0, 0)) rfl ?_
    refine mv_lif 72 rfl rfl rfl (fun c => ?_) (fun c => ?_)
    · have F := F.1 c
      exact F
    · have F := F.2 c
      refine ev_bk 3 (S' := (51, [some (.ref 94), some (.ref 9), some (.ref a2), some (vI x3), some (vI x4), some (vI x5)], [vI 1, .ref 9, vI x3], hp S1, 0, 0)) rfl ?_
      obtain ⟨z6, S4, e5, F⟩ := F
      refine mv_calv (as := [vI 1]) (rest := [vI x3]) e5 (sh_9) rfl rfl rfl ⟨rfl, rfl⟩ rfl rfl rfl rfl rfl ?_
      refine ev_bk 1 (S' := (55, [some (.ref 94), some (.ref 9), some (.ref a2), some (vI x3), some (vI x4), some (vI x5)], [vL 0, vL z6, vI x3], hp S4, 0, 0)) rfl ?_
      refine mv_lif 63 rfl rfl rfl (fun c => ?_) (fun c => ?_)
      · have F := F.1 c
        refine ev_bk 1 (S' := (64, [some (.ref 94), some (.ref 9), some (.ref a2), some (vI x3), some (vI x4), some (vI x5)], [vI ((-1)), vI x3], hp S4, 0, 0)) rfl ?_
        exact F
      · have F := F.2 c
        refine ev_bk 1 (S' := (60, [some (.ref 94), some (.ref 9), some (.ref a2), some (vI x3), some (vI x4), some (vI x5)], [vI 1, vI x3], hp S4, 0, 0)) rfl ?_
        refine mv_goto 64 rfl rfl ?_
        exact F
theorem vc_Sorted_openLengths_64 {q : Nat × (Nat → Int32)} {S S' : ms} {r : Option Value} (x3 x4 x5 y0 y1 : Int) (a2 : Nat) (ha2 : isCode a2)
    (F : EV q 165 31 [some (.ref 94), some (.ref 9), some (.ref a2), some (vI (y1 + y0)), some (vI x4), some (vI (x5 + 1))] [] S r S') : EV q 165 64 [some (.ref 94), some (.ref 9), some (.ref a2), some (vI x3), some (vI x4), some (vI x5)] [vI y0, vI y1] S r S' := by
  unfold EV
  refine mv_iadd rfl ?_
  refine ev_bk 1 (S' := (66, [some (.ref 94), some (.ref 9), some (.ref a2), some (vI (y1 + y0)), some (vI x4), some (vI x5)], [], hp S, 0, 0)) rfl ?_
  refine mv_inc (lv' := [some (.ref 94), some (.ref 9), some (.ref a2), some (vI (y1 + y0)), some (vI x4), some (vI (x5 + 1))]) 5 1 rfl rfl rfl rfl ?_
  refine mv_goto 31 rfl rfl ?_
  exact F
theorem vc_Sorted_openLengths_72 {q : Nat × (Nat → Int32)} {S S' : ms} {r : Option Value} (x3 x4 x5 : Int) (a2 : Nat) (ha2 : isCode a2)
    (F : ((w32 x3 < 1) → EV q 165 83 [some (.ref 94), some (.ref 9), some (.ref a2), some (vI x3), some (vI x4), some (vI x5)] [] S r S') ∧ ((¬ w32 x3 < 1) → ((w32 x3 ≤ 20) → (0 ≤ w32 x4 ∧ w32 x4 < (288 : Nat)) ∧ ∀ S2 : ms, S2 = wI S (a2 + 1) (w32 x4) x3 → EV q 165 10 [some (.ref 94), some (.ref 9), some (.ref a2), some (vI x3), some (vI (x4 + 1)), none] [] S2 r S') ∧ ((¬ w32 x3 ≤ 20) → EV q 165 83 [some (.ref 94), some (.ref 9), some (.ref a2), some (vI x3), some (vI x4), some (vI x5)] [] S r S'))) : EV q 165 72 [some (.ref 94), some (.ref 9), some (.ref a2), some (vI x3), some (vI x4), some (vI x5)] [] S r S' := by
  unfold EV
  refine ev_bk 2 (S' := (74, [some (.ref 94), some (.ref 9), some (.ref a2), some (vI x3), some (vI x4), some (vI x5)], [vI 1, vI x3], hp S, 0, 0)) rfl ?_
  refine mv_icmp 83 rfl rfl (fun c => ?_) (fun c => ?_)
  · have F := F.1 c
    exact F
  · have F := F.2 c
    refine ev_bk 2 (S' := (80, [some (.ref 94), some (.ref 9), some (.ref a2), some (vI x3), some (vI x4), some (vI x5)], [vI 20, vI x3], hp S, 0, 0)) rfl ?_
    refine mv_icmp 90 rfl rfl (fun c => ?_) (fun c => ?_)
    · have F := F.1 c
      refine ev_bk 1 (S' := (91, [some (.ref 94), some (.ref 9), some (.ref a2), some (vI x3), some (vI x4), some (vI x5)], [.ref a2], hp S, 0, 0)) rfl ?_
      refine mv_gfR rfl rfl (ha2.1) (by decide) rfl ?_
      refine ev_bk 2 (S' := (97, [some (.ref 94), some (.ref 9), some (.ref a2), some (vI x3), some (vI x4), some (vI x5)], [vI x3, vI x4, .ref (a2 + 1)], hp S, 0, 0)) rfl ?_
      obtain ⟨b1, F⟩ := F
      refine mv_ias rfl (ha2.2.1) b1 ?_
      have F := F _ rfl
      refine mv_inc (lv' := [some (.ref 94), some (.ref 9), some (.ref a2), some (vI x3), some (vI (x4 + 1)), some (vI x5)]) 4 1 rfl rfl rfl rfl ?_
      refine mv_goto 10 rfl rfl ?_
      exact ev_wk (le_s (le_s (le_s (le_s (le_s (le_n le_0)))))) F
    · have F := F.2 c
      exact F
theorem vc_Sorted_openLengths_83 {q : Nat × (Nat → Int32)} {S S' : ms} {r : Option Value} (x3 x4 x5 : Int) (a2 : Nat) (ha2 : isCode a2)
    (F : ∃ (S1 : ms), EV q 124 0 [some (.ref 9), some (vI 87)] [] S none S1 ∧ r = none ∧ S' = S1) : EV q 165 83 [some (.ref 94), some (.ref 9), some (.ref a2), some (vI x3), some (vI x4), some (vI x5)] [] S r S' := by
  unfold EV
  refine ev_bk 2 (S' := (86, [some (.ref 94), some (.ref 9), some (.ref a2), some (vI x3), some (vI x4), some (vI x5)], [vI 87, .ref 9], hp S, 0, 0)) rfl ?_
  obtain ⟨S1, e2, F⟩ := F
  refine mv_calv (as := [vI 87]) (rest := []) e2 (sh_9) rfl rfl rfl ⟨rfl, rfl⟩ rfl rfl rfl rfl rfl ?_
  obtain ⟨rfl, rfl⟩ := F
  exact ev_ret rfl rfl
theorem vc_Sorted_openLengths_104 {q : Nat × (Nat → Int32)} {S S' : ms} {r : Option Value} (x3 x4 : Int) (a2 : Nat) (ha2 : isCode a2)
    (F : ((¬ w32 (S.1 9 5) = 0) → r = none ∧ S' = S) ∧ ((¬ (¬ w32 (S.1 9 5) = 0)) → ∃ (S1 : ms), EV q 10 0 [some (.ref a2), some (vI (S.1 94 9 + 2)), none, none] [] S none S1 ∧ ∃ (z5 : Int) (S3 : ms), EV q 166 0 [some (.ref a2)] [] S1 (some (vI z5)) S3 ∧ ((w32 z5 = 0) → r = none ∧ S' = S3) ∧ ((¬ w32 z5 = 0) → ∃ (S6 : ms), EV q 124 0 [some (.ref 9), some (vI 87)] [] S3 none S6 ∧ r = none ∧ S' = S6))) : EV q 165 104 [some (.ref 94), some (.ref 9), some (.ref a2), some (vI x3), some (vI x4), none] [] S r S' := by
  unfold EV
  refine ev_bk 1 (S' := (105, [some (.ref 94), some (.ref 9), some (.ref a2), some (vI x3), some (vI x4), none], [.ref 9], hp S, 0, 0)) rfl ?_
  refine mv_gfI rfl rfl (sh_9) (by decide) rfl ?_
  refine mv_if 134 rfl rfl (fun c => ?_) (fun c => ?_)
  · have F := F.1 c
    obtain ⟨rfl, rfl⟩ := F
    exact ev_ret rfl rfl
  · have F := F.2 c
    refine ev_bk 2 (S' := (113, [some (.ref 94), some (.ref 9), some (.ref a2), some (vI x3), some (vI x4), none], [.ref 94, .ref a2], hp S, 0, 0)) rfl ?_
    refine mv_gfI rfl rfl (sh_94) (by decide) rfl ?_
    refine ev_bk 1 (S' := (117, [some (.ref 94), some (.ref 9), some (.ref a2), some (vI x3), some (vI x4), none], [vI 2, vI (S.1 94 9), .ref a2], hp S, 0, 0)) rfl ?_
    refine mv_iadd rfl ?_
    obtain ⟨S1, e2, F⟩ := F
    refine mv_calv (as := [vI (S.1 94 9 + 2)]) (rest := []) e2 (ha2.1) rfl rfl rfl ⟨rfl, rfl⟩ rfl rfl rfl rfl rfl ?_
    refine ev_bk 1 (S' := (122, [some (.ref 94), some (.ref 9), some (.ref a2), some (vI x3), some (vI x4), none], [.ref a2], hp S1, 0, 0)) rfl ?_
    obtain ⟨z5, S3, e4, F⟩ := F
    refine mv_calv (as := []) (rest := []) e4 (ha2.1) rfl rfl rfl ⟨rfl, rfl⟩ rfl rfl rfl rfl rfl ?_
    refine mv_if 134 rfl rfl (fun c => ?_) (fun c => ?_)
    · have F := F.1 c
      obtain ⟨rfl, rfl⟩ := F
      exact ev_ret rfl rfl
    · have F := F.2 c
      refine ev_bk 2 (S' := (131, [some (.ref 94), some (.ref 9), some (.ref a2), some (vI x3), some (vI x4), none], [vI 87, .ref 9], hp S3, 0, 0)) rfl ?_
      obtain ⟨S6, e7, F⟩ := F
      refine mv_calv (as := [vI 87]) (rest := []) e7 (sh_9) rfl rfl rfl ⟨rfl, rfl⟩ rfl rfl rfl rfl rfl ?_
      obtain ⟨rfl, rfl⟩ := F
      exact ev_ret rfl rfl
theorem vc_Sorted_openRow {q : Nat × (Nat → Int32)} {S S' : ms} {r : Option Value}
    (F : ∀ S1 : ms, S1 = wI S 94 1 0 → EV q 167 12 [some (.ref 94), some (.ref 9), some (vI 0), some (vI 1), some (vI 0), none] [] S1 r S') : EV q 167 0 [some (.ref 94), some (.ref 9), none, none, none, none] [] S r S' := by
  unfold EV
  refine ev_bk 2 (S' := (2, [some (.ref 94), some (.ref 9), none, none, none, none], [vI 0, .ref 94], hp S, 0, 0)) rfl ?_
  refine mv_pfI rfl rfl (sh_94) (by decide) rfl rfl ?_
  have F := F _ rfl
  refine ev_bk 6 (S' := (12, [some (.ref 94), some (.ref 9), some (vI 0), some (vI 1), some (vI 0), none], [], hp (wI S 94 1 0), 0, 0)) rfl ?_
  exact F
theorem vc_Sorted_openRow_12 {q : Nat × (Nat → Int32)} {S S' : ms} {r : Option Value} (x2 x3 x4 : Int)
    (F : ((1000000 ≤ w32 x4) → r = none ∧ S' = S) ∧ ((¬ 1000000 ≤ w32 x4) → ((¬ w32 (S.1 9 5) = 0) → r = none ∧ S' = S) ∧ ((¬ (¬ w32 (S.1 9 5) = 0)) → ((w32 (Int.tdiv (w32 x4) (w32 50)) < w32 (S.1 94 15)) → (0 ≤ w32 (Int.tdiv (w32 x4) (w32 50)) ∧ w32 (Int.tdiv (w32 x4) (w32 50)) < (32768 : Nat)) ∧ (0 ≤ w32 (S.1 106 (w32 (Int.tdiv (w32 x4) (w32 50)))) ∧ w32 (S.1 106 (w32 (Int.tdiv (w32 x4) (w32 50)))) < (6 : Nat)) ∧ ∃ (o3 : Nat), sh_r (SH 105).2.2 (w32 (S.1 106 (w32 (Int.tdiv (w32 x4) (w32 50))))).toNat = some o3 ∧ isCode o3 ∧ ∃ (z8 : Int) (S6 : ms), EV q 134 0 [some (.ref 9), some (.ref o3), some (vI 88), none, none, none, none, none] [] S (some (vI z8)) S6 ∧ ((w32 z8 = 0) → EV q 167 79 [some (.ref 94), some (.ref 9), some (vI x2), some (vI x3), some (vI x4), some (vI z8)] [] S6 r S') ∧ ((¬ w32 z8 = 0) → ((¬ w32 z8 = 1) → ((w32 z8 ≤ 1) → EV q 167 161 [some (.ref 94), some (.ref 9), some (vI x2), some (vI x3), some (vI x4), some (vI z8)] [] S6 r S') ∧ ((¬ w32 z8 ≤ 1) → (0 ≤ w32 0 ∧ w32 0 < (256 : Nat)) ∧ ∃ (S10 : ms), EV q 168 0 [some (.ref 94), some (.ref 9), some (vI (S6.1 102 (w32 0))), some (vI x2), none] [] S6 none S10 ∧ ((w32 z8 ≤ w32 (S10.1 94 9)) → ∃ (z14 : Int) (S12 : ms), EV q 103 0 [some (.ref 94), some (vI (z8 - 1)), none, none] [] S10 (some (vI z14)) S12 ∧ (0 ≤ w32 0 ∧ w32 0 < (256 : Nat)) ∧ ∃ (S16 : ms), EV q 168 0 [some (.ref 94), some (.ref 9), some (vI (S12.1 102 (w32 0))), some (vI 1), none] [] S12 none S16 ∧ EV q 167 161 [some (.ref 94), some (.ref 9), some (vI 0), some (vI 1), some (vI x4), some (vI z8)] [] S16 r S') ∧ ((¬ w32 z8 ≤ w32 (S10.1 94 9)) → r = none ∧ S' = S10))) ∧ ((¬ (¬ w32 z8 = 1)) → EV q 167 79 [some (.ref 94), some (.ref 9), some (vI x2), some (vI x3), some (vI x4), some (vI z8)] [] S6 r S'))) ∧ ((¬ w32 (Int.tdiv (w32 x4) (w32 50)) < w32 (S.1 94 15)) → ∃ (S18 : ms), EV q 124 0 [some (.ref 9), some (vI 89)] [] S none S18 ∧ r = none ∧ S' = S18)))) : EV q 167 12 [some (.ref 94), some (.ref 9), some (vI x2), some (vI x3), some (vI x4), none] [] S r S' := by
  unfold EV
  refine ev_bk 2 (S' := (16, [some (.ref 94), some (.ref 9), some (vI x2), some (vI x3), some (vI x4), none], [vI 1000000, vI x4], hp S, 0, 0)) rfl ?_
  refine mv_icmp 167 rfl rfl (fun c => ?_) (fun c => ?_)
  · have F := F.1 c
    obtain ⟨rfl, rfl⟩ := F
    exact ev_ret rfl rfl
  · have F := F.2 c
    refine ev_bk 1 (S' := (20, [some (.ref 94), some (.ref 9), some (vI x2), some (vI x3), some (vI x4), none], [.ref 9], hp S, 0, 0)) rfl ?_
    refine mv_gfI rfl rfl (sh_9) (by decide) rfl ?_
    refine mv_if 167 rfl rfl (fun c => ?_) (fun c => ?_)
    · have F := F.1 c
      obtain ⟨rfl, rfl⟩ := F
      exact ev_ret rfl rfl
    · have F := F.2 c
      refine ev_bk 2 (S' := (30, [some (.ref 94), some (.ref 9), some (vI x2), some (vI x3), some (vI x4), none], [vI 50, vI x4], hp S, 0, 0)) rfl ?_
      refine mv_idiv (by decide) rfl ?_
      refine ev_bk 1 (S' := (32, [some (.ref 94), some (.ref 9), some (vI x2), some (vI x3), some (vI x4), none], [.ref 94, vI (Int.tdiv (w32 x4) (w32 50))], hp S, 0, 0)) rfl ?_
      refine mv_gfI rfl rfl (sh_94) (by decide) rfl ?_
      refine mv_icmp 45 rfl rfl (fun c => ?_) (fun c => ?_)
      · have F := F.1 c
        refine ev_bk 2 (S' := (47, [some (.ref 94), some (.ref 9), some (vI x2), some (vI x3), some (vI x4), none], [.ref 94, .ref 9], hp S, 0, 0)) rfl ?_
        refine mv_gfR rfl rfl (sh_94) (by decide) rfl ?_
        refine ev_bk 1 (S' := (51, [some (.ref 94), some (.ref 9), some (vI x2), some (vI x3), some (vI x4), none], [.ref 94, .ref 105, .ref 9], hp S, 0, 0)) rfl ?_
        refine mv_gfR rfl rfl (sh_94) (by decide) rfl ?_
        refine ev_bk 2 (S' := (58, [some (.ref 94), some (.ref 9), some (vI x2), some (vI x3), some (vI x4), none], [vI 50, vI x4, .ref 106, .ref 105, .ref 9], hp S, 0, 0)) rfl ?_
        refine mv_idiv (by decide) rfl ?_
        obtain ⟨b1, F⟩ := F
        refine mv_ial rfl (sh_106) b1 ?_
        obtain ⟨b2, o3, e5, h4, F⟩ := F
        refine mv_aal rfl (sh_105) (Or.inr rfl) b2 e5 ?_
        refine ev_bk 1 (S' := (63, [some (.ref 94), some (.ref 9), some (vI x2), some (vI x3), some (vI x4), none], [vI 88, .ref o3, .ref 9], hp S, 0, 0)) rfl ?_
        obtain ⟨z8, S6, e7, F⟩ := F
        refine mv_calv (as := [.ref o3, vI 88]) (rest := []) e7 (sh_9) rfl rfl rfl ⟨rfl, rfl⟩ rfl rfl rfl rfl rfl ?_
        refine ev_bk 2 (S' := (70, [some (.ref 94), some (.ref 9), some (vI x2), some (vI x3), some (vI x4), some (vI z8)], [vI z8], hp S6, 0, 0)) rfl ?_
        refine mv_if 79 rfl rfl (fun c => ?_) (fun c => ?_)
        · have F := F.1 c
          exact F
        · have F := F.2 c
          refine ev_bk 2 (S' := (76, [some (.ref 94), some (.ref 9), some (vI x2), some (vI x3), some (vI x4), some (vI z8)], [vI 1, vI z8], hp S6, 0, 0)) rfl ?_
          refine mv_icmp 108 rfl rfl (fun c => ?_) (fun c => ?_)
          · have F := F.1 c
            refine ev_bk 2 (S' := (111, [some (.ref 94), some (.ref 9), some (vI x2), some (vI x3), some (vI x4), some (vI z8)], [vI 1, vI z8], hp S6, 0, 0)) rfl ?_
            refine mv_icmp 161 rfl rfl (fun c => ?_) (fun c => ?_)
            · have F := F.1 c
              exact F
            · have F := F.2 c
              refine ev_bk 3 (S' := (117, [some (.ref 94), some (.ref 9), some (vI x2), some (vI x3), some (vI x4), some (vI z8)], [.ref 94, .ref 9, .ref 94], hp S6, 0, 0)) rfl ?_
              refine mv_gfR rfl rfl (sh_94) (by decide) rfl ?_
              refine ev_bk 1 (S' := (121, [some (.ref 94), some (.ref 9), some (vI x2), some (vI x3), some (vI x4), some (vI z8)], [vI 0, .ref 102, .ref 9, .ref 94], hp S6, 0, 0)) rfl ?_
              obtain ⟨b9, F⟩ := F
              refine mv_ial rfl (sh_102) b9 ?_
              refine ev_bk 1 (S' := (123, [some (.ref 94), some (.ref 9), some (vI x2), some (vI x3), some (vI x4), some (vI z8)], [vI x2, vI (S6.1 102 (w32 0)), .ref 9, .ref 94], hp S6, 0, 0)) rfl ?_
              obtain ⟨S10, e11, F⟩ := F
              refine mv_calv (as := [.ref 9, vI (S6.1 102 (w32 0)), vI x2]) (rest := []) e11 (sh_94) rfl rfl rfl ⟨rfl, rfl⟩ rfl rfl rfl rfl rfl ?_
              refine ev_bk 6 (S' := (133, [some (.ref 94), some (.ref 9), some (vI 0), some (vI 1), some (vI x4), some (vI z8)], [.ref 94, vI z8], hp S10, 0, 0)) rfl ?_
              refine mv_gfI rfl rfl (sh_94) (by decide) rfl ?_
              refine mv_icmp 140 rfl rfl (fun c => ?_) (fun c => ?_)
              · have F := F.1 c
                refine ev_bk 3 (S' := (144, [some (.ref 94), some (.ref 9), some (vI 0), some (vI 1), some (vI x4), some (vI z8)], [vI 1, vI z8, .ref 94], hp S10, 0, 0)) rfl ?_
                refine mv_isub rfl ?_
                obtain ⟨z14, S12, e13, F⟩ := F
                refine mv_calv (as := [vI (z8 - 1)]) (rest := []) e13 (sh_94) rfl rfl rfl ⟨rfl, rfl⟩ rfl rfl rfl rfl rfl ?_
                refine ev_bk 4 (S' := (152, [some (.ref 94), some (.ref 9), some (vI 0), some (vI 1), some (vI x4), some (vI z8)], [.ref 94, .ref 9, .ref 94], hp S12, 0, 0)) rfl ?_
                refine mv_gfR rfl rfl (sh_94) (by decide) rfl ?_
                refine ev_bk 1 (S' := (156, [some (.ref 94), some (.ref 9), some (vI 0), some (vI 1), some (vI x4), some (vI z8)], [vI 0, .ref 102, .ref 9, .ref 94], hp S12, 0, 0)) rfl ?_
                obtain ⟨b15, F⟩ := F
                refine mv_ial rfl (sh_102) b15 ?_
                refine ev_bk 1 (S' := (158, [some (.ref 94), some (.ref 9), some (vI 0), some (vI 1), some (vI x4), some (vI z8)], [vI 1, vI (S12.1 102 (w32 0)), .ref 9, .ref 94], hp S12, 0, 0)) rfl ?_
                obtain ⟨S16, e17, F⟩ := F
                refine mv_calv (as := [.ref 9, vI (S12.1 102 (w32 0)), vI 1]) (rest := []) e17 (sh_94) rfl rfl rfl ⟨rfl, rfl⟩ rfl rfl rfl rfl rfl ?_
                exact F
              · have F := F.2 c
                obtain ⟨rfl, rfl⟩ := F
                exact ev_ret rfl rfl
          · have F := F.2 c
            exact F
      · have F := F.2 c
        refine ev_bk 2 (S' := (41, [some (.ref 94), some (.ref 9), some (vI x2), some (vI x3), some (vI x4), none], [vI 89, .ref 9], hp S, 0, 0)) rfl ?_
        obtain ⟨S18, e19, F⟩ := F
        refine mv_calv (as := [vI 89]) (rest := []) e19 (sh_9) rfl rfl rfl ⟨rfl, rfl⟩ rfl rfl rfl rfl rfl ?_
        obtain ⟨rfl, rfl⟩ := F
        exact ev_ret rfl rfl
theorem vc_Sorted_openRow_79 {q : Nat × (Nat → Int32)} {S S' : ms} {r : Option Value} (x2 x3 x4 x5 : Int)
    (F : ((w32 (x2 + (x3 * (x5 + 1))) ≤ 15000) → EV q 167 161 [some (.ref 94), some (.ref 9), some (vI (x2 + (x3 * (x5 + 1)))), some (vI (x3 * 2)), some (vI x4), some (vI x5)] [] S r S') ∧ ((¬ w32 (x2 + (x3 * (x5 + 1))) ≤ 15000) → ∃ (S1 : ms), EV q 124 0 [some (.ref 9), some (vI 13)] [] S none S1 ∧ EV q 167 161 [some (.ref 94), some (.ref 9), some (vI (x2 + (x3 * (x5 + 1)))), some (vI (x3 * 2)), some (vI x4), some (vI x5)] [] S1 r S')) : EV q 167 79 [some (.ref 94), some (.ref 9), some (vI x2), some (vI x3), some (vI x4), some (vI x5)] [] S r S' := by
  unfold EV
  refine ev_bk 4 (S' := (84, [some (.ref 94), some (.ref 9), some (vI x2), some (vI x3), some (vI x4), some (vI x5)], [vI 1, vI x5, vI x3, vI x2], hp S, 0, 0)) rfl ?_
  refine mv_iadd rfl ?_
  refine mv_imul rfl ?_
  refine mv_iadd rfl ?_
  refine ev_bk 3 (S' := (90, [some (.ref 94), some (.ref 9), some (vI (x2 + (x3 * (x5 + 1)))), some (vI x3), some (vI x4), some (vI x5)], [vI 2, vI x3], hp S, 0, 0)) rfl ?_
  refine mv_imul rfl ?_
  refine ev_bk 3 (S' := (96, [some (.ref 94), some (.ref 9), some (vI (x2 + (x3 * (x5 + 1)))), some (vI (x3 * 2)), some (vI x4), some (vI x5)], [vI 15000, vI (x2 + (x3 * (x5 + 1)))], hp S, 0, 0)) rfl ?_
  refine mv_icmp 161 rfl rfl (fun c => ?_) (fun c => ?_)
  · have F := F.1 c
    exact F
  · have F := F.2 c
    refine ev_bk 2 (S' := (102, [some (.ref 94), some (.ref 9), some (vI (x2 + (x3 * (x5 + 1)))), some (vI (x3 * 2)), some (vI x4), some (vI x5)], [vI 13, .ref 9], hp S, 0, 0)) rfl ?_
    obtain ⟨S1, e2, F⟩ := F
    refine mv_calv (as := [vI 13]) (rest := []) e2 (sh_9) rfl rfl rfl ⟨rfl, rfl⟩ rfl rfl rfl rfl rfl ?_
    refine mv_goto 161 rfl rfl ?_
    exact F
theorem vc_Sorted_openRow_161 {q : Nat × (Nat → Int32)} {S S' : ms} {r : Option Value} (x2 x3 x4 x5 : Int)
    (F : EV q 167 12 [some (.ref 94), some (.ref 9), some (vI x2), some (vI x3), some (vI (x4 + 1)), none] [] S r S') : EV q 167 161 [some (.ref 94), some (.ref 9), some (vI x2), some (vI x3), some (vI x4), some (vI x5)] [] S r S' := by
  unfold EV
  refine mv_inc (lv' := [some (.ref 94), some (.ref 9), some (vI x2), some (vI x3), some (vI (x4 + 1)), some (vI x5)]) 4 1 rfl rfl rfl rfl ?_
  refine mv_goto 12 rfl rfl ?_
  exact ev_wk (le_s (le_s (le_s (le_s (le_s (le_n le_0)))))) F
theorem vc_Sorted_rowTimes {q : Nat × (Nat → Int32)} {S S' : ms} {r : Option Value} (x2 x3 : Int)
    (F : ((w32 x3 ≤ w32 (15000 - (S.1 94 1))) → EV q 168 22 [some (.ref 94), some (.ref 9), some (vI x2), some (vI x3), some (vI 0)] [] S r S') ∧ ((¬ w32 x3 ≤ w32 (15000 - (S.1 94 1))) → ∃ (S1 : ms), EV q 124 0 [some (.ref 9), some (vI 13)] [] S none S1 ∧ r = none ∧ S' = S1)) : EV q 168 0 [some (.ref 94), some (.ref 9), some (vI x2), some (vI x3), none] [] S r S' := by
  unfold EV
  refine ev_bk 3 (S' := (5, [some (.ref 94), some (.ref 9), some (vI x2), some (vI x3), none], [.ref 94, vI 15000, vI x3], hp S, 0, 0)) rfl ?_
  refine mv_gfI rfl rfl (sh_94) (by decide) rfl ?_
  refine mv_isub rfl ?_
  refine mv_icmp 19 rfl rfl (fun c => ?_) (fun c => ?_)
  · have F := F.1 c
    refine ev_bk 2 (S' := (22, [some (.ref 94), some (.ref 9), some (vI x2), some (vI x3), some (vI 0)], [], hp S, 0, 0)) rfl ?_
    exact F
  · have F := F.2 c
    refine ev_bk 2 (S' := (15, [some (.ref 94), some (.ref 9), some (vI x2), some (vI x3), none], [vI 13, .ref 9], hp S, 0, 0)) rfl ?_
    obtain ⟨S1, e2, F⟩ := F
    refine mv_calv (as := [vI 13]) (rest := []) e2 (sh_9) rfl rfl rfl ⟨rfl, rfl⟩ rfl rfl rfl rfl rfl ?_
    obtain ⟨rfl, rfl⟩ := F
    exact ev_ret rfl rfl
theorem vc_Sorted_rowTimes_22 {q : Nat × (Nat → Int32)} {S S' : ms} {r : Option Value} (x2 x3 x4 : Int)
    (F : ((w32 x3 ≤ w32 x4) → r = none ∧ S' = S) ∧ ((¬ w32 x3 ≤ w32 x4) → (0 ≤ w32 (S.1 94 1) ∧ w32 (S.1 94 1) < (15000 : Nat)) ∧ ∀ S2 : ms, S2 = wI S 101 (w32 (S.1 94 1)) x2 → ∀ S3 : ms, S3 = wI S2 94 1 (S2.1 94 1 + 1) → EV q 168 22 [some (.ref 94), some (.ref 9), some (vI x2), some (vI x3), some (vI (x4 + 1))] [] S3 r S')) : EV q 168 22 [some (.ref 94), some (.ref 9), some (vI x2), some (vI x3), some (vI x4)] [] S r S' := by
  unfold EV
  refine ev_bk 2 (S' := (25, [some (.ref 94), some (.ref 9), some (vI x2), some (vI x3), some (vI x4)], [vI x3, vI x4], hp S, 0, 0)) rfl ?_
  refine mv_icmp 54 rfl rfl (fun c => ?_) (fun c => ?_)
  · have F := F.1 c
    obtain ⟨rfl, rfl⟩ := F
    exact ev_ret rfl rfl
  · have F := F.2 c
    refine ev_bk 1 (S' := (29, [some (.ref 94), some (.ref 9), some (vI x2), some (vI x3), some (vI x4)], [.ref 94], hp S, 0, 0)) rfl ?_
    refine mv_gfR rfl rfl (sh_94) (by decide) rfl ?_
    refine ev_bk 1 (S' := (33, [some (.ref 94), some (.ref 9), some (vI x2), some (vI x3), some (vI x4)], [.ref 94, .ref 101], hp S, 0, 0)) rfl ?_
    refine mv_gfI rfl rfl (sh_94) (by decide) rfl ?_
    refine ev_bk 1 (S' := (37, [some (.ref 94), some (.ref 9), some (vI x2), some (vI x3), some (vI x4)], [vI x2, vI (S.1 94 1), .ref 101], hp S, 0, 0)) rfl ?_
    obtain ⟨b1, F⟩ := F
    refine mv_ias rfl (sh_101) b1 ?_
    have F := F _ rfl
    refine ev_bk 2 (S' := (40, [some (.ref 94), some (.ref 9), some (vI x2), some (vI x3), some (vI x4)], [.ref 94, .ref 94], hp (wI S 101 (w32 (S.1 94 1)) x2), 0, 0)) rfl ?_
    refine mv_gfI rfl rfl (sh_94) (by decide) rfl ?_
    refine ev_bk 1 (S' := (44, [some (.ref 94), some (.ref 9), some (vI x2), some (vI x3), some (vI x4)], [vI 1, vI ((wI S 101 (w32 (S.1 94 1)) x2).1 94 1), .ref 94], hp (wI S 101 (w32 (S.1 94 1)) x2), 0, 0)) rfl ?_
    refine mv_iadd rfl ?_
    refine mv_pfI rfl rfl (sh_94) (by decide) rfl rfl ?_
    have F := F _ rfl
    refine mv_inc (lv' := [some (.ref 94), some (.ref 9), some (vI x2), some (vI x3), some (vI (x4 + 1))]) 4 1 rfl rfl rfl rfl ?_
    refine mv_goto 22 rfl rfl ?_
    exact F
theorem vc_Sorted_openText {q : Nat × (Nat → Int32)} {S S' : ms} {r : Option Value} (x2 x3 : Int)
    (F : ∃ (o1 no1 : Nat), S.2.2 9 1 = o1 ∧ isRow o1 no1 ∧ ∃ (S4 : ms), EV q 170 0 [some (.ref 94), none] [] S none S4 ∧ (0 ≤ w32 x2 ∧ w32 x2 < (15000 : Nat)) ∧ EV q 169 30 [some (.ref 94), some (.ref 9), some (vI x2), some (vI x3), some (vI (S.1 o1 1)), some (vI (S4.1 96 (w32 x2))), some (vI ((-1))), some (vI 0), some (vI 0), none] [] S4 r S') : EV q 169 0 [some (.ref 94), some (.ref 9), some (vI x2), some (vI x3), none, none, none, none, none, none] [] S r S' := by
  unfold EV
  refine ev_bk 1 (S' := (1, [some (.ref 94), some (.ref 9), some (vI x2), some (vI x3), none, none, none, none, none, none], [.ref 9], hp S, 0, 0)) rfl ?_
  obtain ⟨o1, no1, e3, h2, F⟩ := F
  refine mv_gfV rfl rfl (sh_9) (by decide) rfl e3 ?_
  refine mv_gfI rfl rfl (h2.1) (by decide) rfl ?_
  refine ev_bk 2 (S' := (10, [some (.ref 94), some (.ref 9), some (vI x2), some (vI x3), some (vI (S.1 o1 1)), none, none, none, none, none], [.ref 94], hp S, 0, 0)) rfl ?_
  obtain ⟨S4, e5, F⟩ := F
  refine mv_calv (as := []) (rest := []) e5 (sh_94) rfl rfl rfl ⟨rfl, rfl⟩ rfl rfl rfl rfl rfl ?_
  refine ev_bk 1 (S' := (14, [some (.ref 94), some (.ref 9), some (vI x2), some (vI x3), some (vI (S.1 o1 1)), none, none, none, none, none], [.ref 94], hp S4, 0, 0)) rfl ?_
  refine mv_gfR rfl rfl (sh_94) (by decide) rfl ?_
  refine ev_bk 1 (S' := (18, [some (.ref 94), some (.ref 9), some (vI x2), some (vI x3), some (vI (S.1 o1 1)), none, none, none, none, none], [vI x2, .ref 96], hp S4, 0, 0)) rfl ?_
  obtain ⟨b6, F⟩ := F
  refine mv_ial rfl (sh_96) b6 ?_
  refine ev_bk 7 (S' := (30, [some (.ref 94), some (.ref 9), some (vI x2), some (vI x3), some (vI (S.1 o1 1)), some (vI (S4.1 96 (w32 x2))), some (vI ((-1))), some (vI 0), some (vI 0), none], [], hp S4, 0, 0)) rfl ?_
  exact F
theorem vc_Sorted_openText_30 {q : Nat × (Nat → Int32)} {S S' : ms} {r : Option Value} (x2 x3 x4 x5 x6 x7 x8 : Int)
    (F : ((w32 (S.1 94 1) ≤ w32 x8) → EV q 169 122 [some (.ref 94), some (.ref 9), some (vI x2), some (vI x3), some (vI x4), some (vI x5), some (vI x6), some (vI x7), some (vI x8), none] [] S r S') ∧ ((¬ w32 (S.1 94 1) ≤ w32 x8) → ((¬ w32 (S.1 9 5) = 0) → EV q 169 122 [some (.ref 94), some (.ref 9), some (vI x2), some (vI x3), some (vI x4), some (vI x5), some (vI x6), some (vI x7), some (vI x8), none] [] S r S') ∧ ((¬ (¬ w32 (S.1 9 5) = 0)) → (0 ≤ w32 x5 ∧ w32 x5 < (15000 : Nat)) ∧ (0 ≤ w32 x5 ∧ w32 x5 < (15000 : Nat)) ∧ ((¬ w32 x7 = 4) → ((w32 x7 ≤ 0) → EV q 169 103 [some (.ref 94), some (.ref 9), some (vI x2), some (vI x3), some (vI x4), some (vI (S.1 96 (w32 x5))), some (vI x6), some (vI x7), some (vI x8), some (vI (S.1 101 (w32 x5)))] [] S r S') ∧ ((¬ w32 x7 ≤ 0) → ((¬ w32 (S.1 101 (w32 x5)) = w32 x6) → EV q 169 103 [some (.ref 94), some (.ref 9), some (vI x2), some (vI x3), some (vI x4), some (vI (S.1 96 (w32 x5))), some (vI x6), some (vI x7), some (vI x8), some (vI (S.1 101 (w32 x5)))] [] S r S') ∧ ((¬ (¬ w32 (S.1 101 (w32 x5)) = w32 x6)) → EV q 169 104 [some (.ref 94), some (.ref 9), some (vI x2), some (vI x3), some (vI x4), some (vI (S.1 96 (w32 x5))), some (vI x6), some (vI x7), some (vI x8), some (vI (S.1 101 (w32 x5)))] [vI (x7 + 1)] S r S'))) ∧ ((¬ (¬ w32 x7 = 4)) → ∃ (S3 : ms), EV q 121 0 [some (.ref 9), some (vI x6), some (vI (S.1 101 (w32 x5))), none] [] S none S3 ∧ EV q 169 116 [some (.ref 94), some (.ref 9), some (vI x2), some (vI x3), some (vI x4), some (vI (S.1 96 (w32 x5))), some (vI x6), some (vI 0), some (vI x8), some (vI (S.1 101 (w32 x5)))] [] S3 r S')))) : EV q 169 30 [some (.ref 94), some (.ref 9), some (vI x2), some (vI x3), some (vI x4), some (vI x5), some (vI x6), some (vI x7), some (vI x8), none] [] S r S' := by
  unfold EV
  refine ev_bk 2 (S' := (33, [some (.ref 94), some (.ref 9), some (vI x2), some (vI x3), some (vI x4), some (vI x5), some (vI x6), some (vI x7), some (vI x8), none], [.ref 94, vI x8], hp S, 0, 0)) rfl ?_
  refine mv_gfI rfl rfl (sh_94) (by decide) rfl ?_
  refine mv_icmp 122 rfl rfl (fun c => ?_) (fun c => ?_)
  · have F := F.1 c
    exact F
  · have F := F.2 c
    refine ev_bk 1 (S' := (40, [some (.ref 94), some (.ref 9), some (vI x2), some (vI x3), some (vI x4), some (vI x5), some (vI x6), some (vI x7), some (vI x8), none], [.ref 9], hp S, 0, 0)) rfl ?_
    refine mv_gfI rfl rfl (sh_9) (by decide) rfl ?_
    refine mv_if 122 rfl rfl (fun c => ?_) (fun c => ?_)
    · have F := F.1 c
      exact F
    · have F := F.2 c
      refine ev_bk 1 (S' := (47, [some (.ref 94), some (.ref 9), some (vI x2), some (vI x3), some (vI x4), some (vI x5), some (vI x6), some (vI x7), some (vI x8), none], [.ref 94], hp S, 0, 0)) rfl ?_
      refine mv_gfR rfl rfl (sh_94) (by decide) rfl ?_
      refine ev_bk 1 (S' := (52, [some (.ref 94), some (.ref 9), some (vI x2), some (vI x3), some (vI x4), some (vI x5), some (vI x6), some (vI x7), some (vI x8), none], [vI x5, .ref 101], hp S, 0, 0)) rfl ?_
      obtain ⟨b1, F⟩ := F
      refine mv_ial rfl (sh_101) b1 ?_
      refine ev_bk 2 (S' := (56, [some (.ref 94), some (.ref 9), some (vI x2), some (vI x3), some (vI x4), some (vI x5), some (vI x6), some (vI x7), some (vI x8), some (vI (S.1 101 (w32 x5)))], [.ref 94], hp S, 0, 0)) rfl ?_
      refine mv_gfR rfl rfl (sh_94) (by decide) rfl ?_
      refine ev_bk 1 (S' := (61, [some (.ref 94), some (.ref 9), some (vI x2), some (vI x3), some (vI x4), some (vI x5), some (vI x6), some (vI x7), some (vI x8), some (vI (S.1 101 (w32 x5)))], [vI x5, .ref 96], hp S, 0, 0)) rfl ?_
      obtain ⟨b2, F⟩ := F
      refine mv_ial rfl (sh_96) b2 ?_
      refine ev_bk 3 (S' := (67, [some (.ref 94), some (.ref 9), some (vI x2), some (vI x3), some (vI x4), some (vI (S.1 96 (w32 x5))), some (vI x6), some (vI x7), some (vI x8), some (vI (S.1 101 (w32 x5)))], [vI 4, vI x7], hp S, 0, 0)) rfl ?_
      refine mv_icmp 84 rfl rfl (fun c => ?_) (fun c => ?_)
      · have F := F.1 c
        refine ev_bk 1 (S' := (86, [some (.ref 94), some (.ref 9), some (vI x2), some (vI x3), some (vI x4), some (vI (S.1 96 (w32 x5))), some (vI x6), some (vI x7), some (vI x8), some (vI (S.1 101 (w32 x5)))], [vI x7], hp S, 0, 0)) rfl ?_
        refine mv_if 103 rfl rfl (fun c => ?_) (fun c => ?_)
        · have F := F.1 c
          exact F
        · have F := F.2 c
          refine ev_bk 2 (S' := (93, [some (.ref 94), some (.ref 9), some (vI x2), some (vI x3), some (vI x4), some (vI (S.1 96 (w32 x5))), some (vI x6), some (vI x7), some (vI x8), some (vI (S.1 101 (w32 x5)))], [vI x6, vI (S.1 101 (w32 x5))], hp S, 0, 0)) rfl ?_
          refine mv_icmp 103 rfl rfl (fun c => ?_) (fun c => ?_)
          · have F := F.1 c
            exact F
          · have F := F.2 c
            refine ev_bk 2 (S' := (99, [some (.ref 94), some (.ref 9), some (vI x2), some (vI x3), some (vI x4), some (vI (S.1 96 (w32 x5))), some (vI x6), some (vI x7), some (vI x8), some (vI (S.1 101 (w32 x5)))], [vI 1, vI x7], hp S, 0, 0)) rfl ?_
            refine mv_iadd rfl ?_
            refine mv_goto 104 rfl rfl ?_
            exact F
      · have F := F.2 c
        refine ev_bk 3 (S' := (75, [some (.ref 94), some (.ref 9), some (vI x2), some (vI x3), some (vI x4), some (vI (S.1 96 (w32 x5))), some (vI x6), some (vI x7), some (vI x8), some (vI (S.1 101 (w32 x5)))], [vI (S.1 101 (w32 x5)), vI x6, .ref 9], hp S, 0, 0)) rfl ?_
        obtain ⟨S3, e4, F⟩ := F
        refine mv_calv (as := [vI x6, vI (S.1 101 (w32 x5))]) (rest := []) e4 (sh_9) rfl rfl rfl ⟨rfl, rfl⟩ rfl rfl rfl rfl rfl ?_
        refine ev_bk 2 (S' := (81, [some (.ref 94), some (.ref 9), some (vI x2), some (vI x3), some (vI x4), some (vI (S.1 96 (w32 x5))), some (vI x6), some (vI 0), some (vI x8), some (vI (S.1 101 (w32 x5)))], [], hp S3, 0, 0)) rfl ?_
        refine mv_goto 116 rfl rfl ?_
        exact F
theorem vc_Sorted_openText_103 {q : Nat × (Nat → Int32)} {S S' : ms} {r : Option Value} (x2 x3 x4 x5 x6 x7 x8 x9 : Int)
    (F : EV q 169 104 [some (.ref 94), some (.ref 9), some (vI x2), some (vI x3), some (vI x4), some (vI x5), some (vI x6), some (vI x7), some (vI x8), some (vI x9)] [vI 1] S r S') : EV q 169 103 [some (.ref 94), some (.ref 9), some (vI x2), some (vI x3), some (vI x4), some (vI x5), some (vI x6), some (vI x7), some (vI x8), some (vI x9)] [] S r S' := by
  unfold EV
  refine ev_bk 1 (S' := (104, [some (.ref 94), some (.ref 9), some (vI x2), some (vI x3), some (vI x4), some (vI x5), some (vI x6), some (vI x7), some (vI x8), some (vI x9)], [vI 1], hp S, 0, 0)) rfl ?_
  exact F
theorem vc_Sorted_openText_104 {q : Nat × (Nat → Int32)} {S S' : ms} {r : Option Value} (x2 x3 x4 x5 x6 x7 x8 x9 y0 : Int)
    (F : ∃ (S1 : ms), EV q 120 0 [some (.ref 9), some (vI x9)] [] S none S1 ∧ EV q 169 116 [some (.ref 94), some (.ref 9), some (vI x2), some (vI x3), some (vI x4), some (vI x5), some (vI x9), some (vI y0), some (vI x8), some (vI x9)] [] S1 r S') : EV q 169 104 [some (.ref 94), some (.ref 9), some (vI x2), some (vI x3), some (vI x4), some (vI x5), some (vI x6), some (vI x7), some (vI x8), some (vI x9)] [vI y0] S r S' := by
  unfold EV
  refine ev_bk 5 (S' := (113, [some (.ref 94), some (.ref 9), some (vI x2), some (vI x3), some (vI x4), some (vI x5), some (vI x9), some (vI y0), some (vI x8), some (vI x9)], [vI x9, .ref 9], hp S, 0, 0)) rfl ?_
  obtain ⟨S1, e2, F⟩ := F
  refine mv_calv (as := [vI x9]) (rest := []) e2 (sh_9) rfl rfl rfl ⟨rfl, rfl⟩ rfl rfl rfl rfl rfl ?_
  exact F
theorem vc_Sorted_openText_116 {q : Nat × (Nat → Int32)} {S S' : ms} {r : Option Value} (x2 x3 x4 x5 x6 x7 x8 x9 : Int)
    (F : EV q 169 30 [some (.ref 94), some (.ref 9), some (vI x2), some (vI x3), some (vI x4), some (vI x5), some (vI x6), some (vI x7), some (vI (x8 + 1)), none] [] S r S') : EV q 169 116 [some (.ref 94), some (.ref 9), some (vI x2), some (vI x3), some (vI x4), some (vI x5), some (vI x6), some (vI x7), some (vI x8), some (vI x9)] [] S r S' := by
  unfold EV
  refine mv_inc (lv' := [some (.ref 94), some (.ref 9), some (vI x2), some (vI x3), some (vI x4), some (vI x5), some (vI x6), some (vI x7), some (vI (x8 + 1)), some (vI x9)]) 8 1 rfl rfl rfl rfl ?_
  refine mv_goto 30 rfl rfl ?_
  exact ev_wk (le_s (le_s (le_s (le_s (le_s (le_s (le_s (le_s (le_s (le_n le_0)))))))))) F
theorem vc_Sorted_openText_122 {q : Nat × (Nat → Int32)} {S S' : ms} {r : Option Value} (x2 x3 x4 x5 x6 x7 x8 : Int)
    (F : ((¬ w32 x7 = 4) → EV q 169 134 [some (.ref 94), some (.ref 9), some (vI x2), some (vI x3), some (vI x4), some (vI x5), some (vI x6), some (vI x7), some (vI x8), none] [] S r S') ∧ ((¬ (¬ w32 x7 = 4)) → ∃ (S1 : ms), EV q 124 0 [some (.ref 9), some (vI 92)] [] S none S1 ∧ EV q 169 134 [some (.ref 94), some (.ref 9), some (vI x2), some (vI x3), some (vI x4), some (vI x5), some (vI x6), some (vI x7), some (vI x8), none] [] S1 r S')) : EV q 169 122 [some (.ref 94), some (.ref 9), some (vI x2), some (vI x3), some (vI x4), some (vI x5), some (vI x6), some (vI x7), some (vI x8), none] [] S r S' := by
  unfold EV
  refine ev_bk 2 (S' := (125, [some (.ref 94), some (.ref 9), some (vI x2), some (vI x3), some (vI x4), some (vI x5), some (vI x6), some (vI x7), some (vI x8), none], [vI 4, vI x7], hp S, 0, 0)) rfl ?_
  refine mv_icmp 134 rfl rfl (fun c => ?_) (fun c => ?_)
  · have F := F.1 c
    exact F
  · have F := F.2 c
    refine ev_bk 2 (S' := (131, [some (.ref 94), some (.ref 9), some (vI x2), some (vI x3), some (vI x4), some (vI x5), some (vI x6), some (vI x7), some (vI x8), none], [vI 92, .ref 9], hp S, 0, 0)) rfl ?_
    obtain ⟨S1, e2, F⟩ := F
    refine mv_calv (as := [vI 92]) (rest := []) e2 (sh_9) rfl rfl rfl ⟨rfl, rfl⟩ rfl rfl rfl rfl rfl ?_
    exact F
theorem vc_Sorted_openText_134 {q : Nat × (Nat → Int32)} {S S' : ms} {r : Option Value} (x2 x3 x4 x5 x6 x7 x8 : Int)
    (F : ∃ (o1 no1 : Nat), S.2.2 9 1 = o1 ∧ isRow o1 no1 ∧ ∃ (o4 no4 : Nat), S.2.2 9 1 = o4 ∧ isRow o4 no4 ∧ ∃ (z9 : Int) (S7 : ms), EV q 29 0 [some (.ref (o1 + 1)), some (vI x4), some (vI (S.1 o4 1)), none, none] [] S (some (vI z9)) S7 ∧ ((w32 x3 = w32 z9) → r = none ∧ S' = S7) ∧ ((¬ w32 x3 = w32 z9) → ∃ (S10 : ms), EV q 124 0 [some (.ref 9), some (vI 90)] [] S7 none S10 ∧ r = none ∧ S' = S10)) : EV q 169 134 [some (.ref 94), some (.ref 9), some (vI x2), some (vI x3), some (vI x4), some (vI x5), some (vI x6), some (vI x7), some (vI x8), none] [] S r S' := by
  unfold EV
  refine ev_bk 2 (S' := (136, [some (.ref 94), some (.ref 9), some (vI x2), some (vI x3), some (vI x4), some (vI x5), some (vI x6), some (vI x7), some (vI x8), none], [.ref 9, vI x3], hp S, 0, 0)) rfl ?_
  obtain ⟨o1, no1, e3, h2, F⟩ := F
  refine mv_gfV rfl rfl (sh_9) (by decide) rfl e3 ?_
  refine mv_gfR rfl rfl (h2.1) (by decide) rfl ?_
  refine ev_bk 2 (S' := (145, [some (.ref 94), some (.ref 9), some (vI x2), some (vI x3), some (vI x4), some (vI x5), some (vI x6), some (vI x7), some (vI x8), none], [.ref 9, vI x4, .ref (o1 + 1), vI x3], hp S, 0, 0)) rfl ?_
  obtain ⟨o4, no4, e6, h5, F⟩ := F
  refine mv_gfV rfl rfl (sh_9) (by decide) rfl e6 ?_
  refine mv_gfI rfl rfl (h5.1) (by decide) rfl ?_
  obtain ⟨z9, S7, e8, F⟩ := F
  refine mv_cals (as := [.ref (o1 + 1), vI x4, vI (S.1 o4 1)]) (rest := [vI x3]) e8 rfl rfl rfl ⟨rfl, rfl, rfl⟩ rfl rfl rfl rfl ?_
  refine mv_icmp 163 rfl rfl (fun c => ?_) (fun c => ?_)
  · have F := F.1 c
    obtain ⟨rfl, rfl⟩ := F
    exact ev_ret rfl rfl
  · have F := F.2 c
    refine ev_bk 2 (S' := (160, [some (.ref 94), some (.ref 9), some (vI x2), some (vI x3), some (vI x4), some (vI x5), some (vI x6), some (vI x7), some (vI x8), none], [vI 90, .ref 9], hp S7, 0, 0)) rfl ?_
    obtain ⟨S10, e11, F⟩ := F
    refine mv_calv (as := [vI 90]) (rest := []) e11 (sh_9) rfl rfl rfl ⟨rfl, rfl⟩ rfl rfl rfl rfl rfl ?_
    obtain ⟨rfl, rfl⟩ := F
    exact ev_ret rfl rfl
theorem vc_Sorted_orderRow {q : Nat × (Nat → Int32)} {S S' : ms} {r : Option Value}
    (F : ∃ (S1 : ms), EV q 11 0 [some (.ref 104), some (vI 0), none, none] [] S none S1 ∧ EV q 170 10 [some (.ref 94), some (vI 0)] [] S1 r S') : EV q 170 0 [some (.ref 94), none] [] S r S' := by
  unfold EV
  refine ev_bk 1 (S' := (1, [some (.ref 94), none], [.ref 94], hp S, 0, 0)) rfl ?_
  refine mv_gfR rfl rfl (sh_94) (by decide) rfl ?_
  refine ev_bk 1 (S' := (5, [some (.ref 94), none], [vI 0, .ref 104], hp S, 0, 0)) rfl ?_
  obtain ⟨S1, e2, F⟩ := F
  refine mv_cals (as := [.ref 104, vI 0]) (rest := []) e2 rfl rfl rfl ⟨rfl, rfl, rfl⟩ rfl rfl rfl rfl ?_
  refine ev_bk 2 (S' := (10, [some (.ref 94), some (vI 0)], [], hp S1, 0, 0)) rfl ?_
  exact F
theorem vc_Sorted_orderRow_10 {q : Nat × (Nat → Int32)} {S S' : ms} {r : Option Value} (x1 : Int)
    (F : ((w32 (S.1 94 1) ≤ w32 x1) → EV q 170 43 [some (.ref 94), some (vI 1)] [] S r S') ∧ ((¬ w32 (S.1 94 1) ≤ w32 x1) → (0 ≤ w32 x1 ∧ w32 x1 < (15000 : Nat)) ∧ (0 ≤ w32 ((S.1 101 (w32 x1)) + 1) ∧ w32 ((S.1 101 (w32 x1)) + 1) < (258 : Nat)) ∧ (0 ≤ w32 ((S.1 101 (w32 x1)) + 1) ∧ w32 ((S.1 101 (w32 x1)) + 1) < (258 : Nat)) ∧ ∀ S4 : ms, S4 = wI S 104 (w32 ((S.1 101 (w32 x1)) + 1)) ((S.1 104 (w32 ((S.1 101 (w32 x1)) + 1))) + 1) → EV q 170 10 [some (.ref 94), some (vI (x1 + 1))] [] S4 r S')) : EV q 170 10 [some (.ref 94), some (vI x1)] [] S r S' := by
  unfold EV
  refine ev_bk 2 (S' := (12, [some (.ref 94), some (vI x1)], [.ref 94, vI x1], hp S, 0, 0)) rfl ?_
  refine mv_gfI rfl rfl (sh_94) (by decide) rfl ?_
  refine mv_icmp 41 rfl rfl (fun c => ?_) (fun c => ?_)
  · have F := F.1 c
    refine ev_bk 2 (S' := (43, [some (.ref 94), some (vI 1)], [], hp S, 0, 0)) rfl ?_
    exact F
  · have F := F.2 c
    refine ev_bk 1 (S' := (19, [some (.ref 94), some (vI x1)], [.ref 94], hp S, 0, 0)) rfl ?_
    refine mv_gfR rfl rfl (sh_94) (by decide) rfl ?_
    refine ev_bk 1 (S' := (23, [some (.ref 94), some (vI x1)], [.ref 94, .ref 104], hp S, 0, 0)) rfl ?_
    refine mv_gfR rfl rfl (sh_94) (by decide) rfl ?_
    refine ev_bk 1 (S' := (27, [some (.ref 94), some (vI x1)], [vI x1, .ref 101, .ref 104], hp S, 0, 0)) rfl ?_
    obtain ⟨b1, F⟩ := F
    refine mv_ial rfl (sh_101) b1 ?_
    refine ev_bk 1 (S' := (29, [some (.ref 94), some (vI x1)], [vI 1, vI (S.1 101 (w32 x1)), .ref 104], hp S, 0, 0)) rfl ?_
    refine mv_iadd rfl ?_
    refine ev_bk 1 (S' := (31, [some (.ref 94), some (vI x1)], [vI ((S.1 101 (w32 x1)) + 1), .ref 104, vI ((S.1 101 (w32 x1)) + 1), .ref 104], hp S, 0, 0)) rfl ?_
    obtain ⟨b2, F⟩ := F
    refine mv_ial rfl (sh_104) b2 ?_
    refine ev_bk 1 (S' := (33, [some (.ref 94), some (vI x1)], [vI 1, vI (S.1 104 (w32 ((S.1 101 (w32 x1)) + 1))), vI ((S.1 101 (w32 x1)) + 1), .ref 104], hp S, 0, 0)) rfl ?_
    refine mv_iadd rfl ?_
    obtain ⟨b3, F⟩ := F
    refine mv_ias rfl (sh_104) b3 ?_
    have F := F _ rfl
    refine mv_inc (lv' := [some (.ref 94), some (vI (x1 + 1))]) 1 1 rfl rfl rfl rfl ?_
    refine mv_goto 10 rfl rfl ?_
    exact F
theorem vc_Sorted_orderRow_43 {q : Nat × (Nat → Int32)} {S S' : ms} {r : Option Value} (x1 : Int)
    (F : ((256 ≤ w32 x1) → EV q 170 75 [some (.ref 94), some (vI 0)] [] S r S') ∧ ((¬ 256 ≤ w32 x1) → (0 ≤ w32 x1 ∧ w32 x1 < (258 : Nat)) ∧ (0 ≤ w32 (x1 - 1) ∧ w32 (x1 - 1) < (258 : Nat)) ∧ (0 ≤ w32 x1 ∧ w32 x1 < (258 : Nat)) ∧ ∀ S4 : ms, S4 = wI S 104 (w32 x1) ((S.1 104 (w32 x1)) + (S.1 104 (w32 (x1 - 1)))) → EV q 170 43 [some (.ref 94), some (vI (x1 + 1))] [] S4 r S')) : EV q 170 43 [some (.ref 94), some (vI x1)] [] S r S' := by
  unfold EV
  refine ev_bk 2 (S' := (47, [some (.ref 94), some (vI x1)], [vI 256, vI x1], hp S, 0, 0)) rfl ?_
  refine mv_icmp 73 rfl rfl (fun c => ?_) (fun c => ?_)
  · have F := F.1 c
    refine ev_bk 2 (S' := (75, [some (.ref 94), some (vI 0)], [], hp S, 0, 0)) rfl ?_
    exact F
  · have F := F.2 c
    refine ev_bk 1 (S' := (51, [some (.ref 94), some (vI x1)], [.ref 94], hp S, 0, 0)) rfl ?_
    refine mv_gfR rfl rfl (sh_94) (by decide) rfl ?_
    refine ev_bk 2 (S' := (56, [some (.ref 94), some (vI x1)], [vI x1, .ref 104, vI x1, .ref 104], hp S, 0, 0)) rfl ?_
    obtain ⟨b1, F⟩ := F
    refine mv_ial rfl (sh_104) b1 ?_
    refine ev_bk 1 (S' := (58, [some (.ref 94), some (vI x1)], [.ref 94, vI (S.1 104 (w32 x1)), vI x1, .ref 104], hp S, 0, 0)) rfl ?_
    refine mv_gfR rfl rfl (sh_94) (by decide) rfl ?_
    refine ev_bk 2 (S' := (63, [some (.ref 94), some (vI x1)], [vI 1, vI x1, .ref 104, vI (S.1 104 (w32 x1)), vI x1, .ref 104], hp S, 0, 0)) rfl ?_
    refine mv_isub rfl ?_
    obtain ⟨b2, F⟩ := F
    refine mv_ial rfl (sh_104) b2 ?_
    refine mv_iadd rfl ?_
    obtain ⟨b3, F⟩ := F
    refine mv_ias rfl (sh_104) b3 ?_
    have F := F _ rfl
    refine mv_inc (lv' := [some (.ref 94), some (vI (x1 + 1))]) 1 1 rfl rfl rfl rfl ?_
    refine mv_goto 43 rfl rfl ?_
    exact F
theorem vc_Sorted_orderRow_75 {q : Nat × (Nat → Int32)} {S S' : ms} {r : Option Value} (x1 : Int)
    (F : ((w32 (S.1 94 1) ≤ w32 x1) → r = none ∧ S' = S) ∧ ((¬ w32 (S.1 94 1) ≤ w32 x1) → (0 ≤ w32 x1 ∧ w32 x1 < (15000 : Nat)) ∧ (0 ≤ w32 (S.1 101 (w32 x1)) ∧ w32 (S.1 101 (w32 x1)) < (258 : Nat)) ∧ (0 ≤ w32 (S.1 104 (w32 (S.1 101 (w32 x1)))) ∧ w32 (S.1 104 (w32 (S.1 101 (w32 x1)))) < (15000 : Nat)) ∧ ∀ S4 : ms, S4 = wI S 96 (w32 (S.1 104 (w32 (S.1 101 (w32 x1))))) x1 → (0 ≤ w32 x1 ∧ w32 x1 < (15000 : Nat)) ∧ (0 ≤ w32 (S4.1 101 (w32 x1)) ∧ w32 (S4.1 101 (w32 x1)) < (258 : Nat)) ∧ (0 ≤ w32 (S4.1 101 (w32 x1)) ∧ w32 (S4.1 101 (w32 x1)) < (258 : Nat)) ∧ ∀ S8 : ms, S8 = wI S4 104 (w32 (S4.1 101 (w32 x1))) ((S4.1 104 (w32 (S4.1 101 (w32 x1)))) + 1) → EV q 170 75 [some (.ref 94), some (vI (x1 + 1))] [] S8 r S')) : EV q 170 75 [some (.ref 94), some (vI x1)] [] S r S' := by
  unfold EV
  refine ev_bk 2 (S' := (77, [some (.ref 94), some (vI x1)], [.ref 94, vI x1], hp S, 0, 0)) rfl ?_
  refine mv_gfI rfl rfl (sh_94) (by decide) rfl ?_
  refine mv_icmp 121 rfl rfl (fun c => ?_) (fun c => ?_)
  · have F := F.1 c
    obtain ⟨rfl, rfl⟩ := F
    exact ev_ret rfl rfl
  · have F := F.2 c
    refine ev_bk 1 (S' := (84, [some (.ref 94), some (vI x1)], [.ref 94], hp S, 0, 0)) rfl ?_
    refine mv_gfR rfl rfl (sh_94) (by decide) rfl ?_
    refine ev_bk 1 (S' := (88, [some (.ref 94), some (vI x1)], [.ref 94, .ref 96], hp S, 0, 0)) rfl ?_
    refine mv_gfR rfl rfl (sh_94) (by decide) rfl ?_
    refine ev_bk 1 (S' := (92, [some (.ref 94), some (vI x1)], [.ref 94, .ref 104, .ref 96], hp S, 0, 0)) rfl ?_
    refine mv_gfR rfl rfl (sh_94) (by decide) rfl ?_
    refine ev_bk 1 (S' := (96, [some (.ref 94), some (vI x1)], [vI x1, .ref 101, .ref 104, .ref 96], hp S, 0, 0)) rfl ?_
    obtain ⟨b1, F⟩ := F
    refine mv_ial rfl (sh_101) b1 ?_
    obtain ⟨b2, F⟩ := F
    refine mv_ial rfl (sh_104) b2 ?_
    refine ev_bk 1 (S' := (99, [some (.ref 94), some (vI x1)], [vI x1, vI (S.1 104 (w32 (S.1 101 (w32 x1)))), .ref 96], hp S, 0, 0)) rfl ?_
    obtain ⟨b3, F⟩ := F
    refine mv_ias rfl (sh_96) b3 ?_
    have F := F _ rfl
    refine ev_bk 1 (S' := (101, [some (.ref 94), some (vI x1)], [.ref 94], hp (wI S 96 (w32 (S.1 104 (w32 (S.1 101 (w32 x1))))) x1), 0, 0)) rfl ?_
    refine mv_gfR rfl rfl (sh_94) (by decide) rfl ?_
    refine ev_bk 1 (S' := (105, [some (.ref 94), some (vI x1)], [.ref 94, .ref 104], hp (wI S 96 (w32 (S.1 104 (w32 (S.1 101 (w32 x1))))) x1), 0, 0)) rfl ?_
    refine mv_gfR rfl rfl (sh_94) (by decide) rfl ?_
    refine ev_bk 1 (S' := (109, [some (.ref 94), some (vI x1)], [vI x1, .ref 101, .ref 104], hp (wI S 96 (w32 (S.1 104 (w32 (S.1 101 (w32 x1))))) x1), 0, 0)) rfl ?_
    obtain ⟨b5, F⟩ := F
    refine mv_ial rfl (sh_101) b5 ?_
    refine ev_bk 1 (S' := (111, [some (.ref 94), some (vI x1)], [vI ((wI S 96 (w32 (S.1 104 (w32 (S.1 101 (w32 x1))))) x1).1 101 (w32 x1)), .ref 104, vI ((wI S 96 (w32 (S.1 104 (w32 (S.1 101 (w32 x1))))) x1).1 101 (w32 x1)), .ref 104], hp (wI S 96 (w32 (S.1 104 (w32 (S.1 101 (w32 x1))))) x1), 0, 0)) rfl ?_
    obtain ⟨b6, F⟩ := F
    refine mv_ial rfl (sh_104) b6 ?_
    refine ev_bk 1 (S' := (113, [some (.ref 94), some (vI x1)], [vI 1, vI ((wI S 96 (w32 (S.1 104 (w32 (S.1 101 (w32 x1))))) x1).1 104 (w32 ((wI S 96 (w32 (S.1 104 (w32 (S.1 101 (w32 x1))))) x1).1 101 (w32 x1)))), vI ((wI S 96 (w32 (S.1 104 (w32 (S.1 101 (w32 x1))))) x1).1 101 (w32 x1)), .ref 104], hp (wI S 96 (w32 (S.1 104 (w32 (S.1 101 (w32 x1))))) x1), 0, 0)) rfl ?_
    refine mv_iadd rfl ?_
    obtain ⟨b7, F⟩ := F
    refine mv_ias rfl (sh_104) b7 ?_
    have F := F _ rfl
    refine mv_inc (lv' := [some (.ref 94), some (vI (x1 + 1))]) 1 1 rfl rfl rfl rfl ?_
    refine mv_goto 75 rfl rfl ?_
    exact F
theorem vc_Parts_make {q : Nat × (Nat → Int32)} {S S' : ms} {r : Option Value} (x2 x3 : Int) (a1 na1 : Nat) (ha1 : isRow a1 na1)
    (F : ∀ S1 : ms, S1 = wI S 173 6 (max (w32 1) (w32 x2)) → ∀ S2 : ms, S2 = wI S1 173 2 x3 → ∀ S3 : ms, S3 = wI S2 173 4 (S2.1 a1 1) → (¬ w32 (S3.1 173 6) = 0) ∧ ∀ S5 : ms, S5 = wI S3 173 3 (max (w32 1) (w32 (Int.tdiv (w32 ((S3.1 173 4 + (S3.1 173 6)) - 1)) (w32 (S3.1 173 6))))) → EV q 224 49 [some (.ref 173), some (.ref a1), some (vI x2), some (vI x3), some (vI 0)] [] S5 r S') : EV q 224 0 [some (.ref 173), some (.ref a1), some (vI x2), some (vI x3), none] [] S r S' := by
  unfold EV
  refine ev_bk 3 (S' := (3, [some (.ref 173), some (.ref a1), some (vI x2), some (vI x3), none], [vI x2, vI 1, .ref 173], hp S, 0, 0)) rfl ?_
  refine mv_max rfl rfl rfl ?_
  refine mv_pfI rfl rfl (sh_173) (by decide) rfl rfl ?_
  have F := F _ rfl
  refine ev_bk 2 (S' := (11, [some (.ref 173), some (.ref a1), some (vI x2), some (vI x3), none], [vI x3, .ref 173], hp (wI S 173 6 (max (w32 1) (w32 x2))), 0, 0)) rfl ?_
  refine mv_pfI rfl rfl (sh_173) (by decide) rfl rfl ?_
  have F := F _ rfl
  refine ev_bk 2 (S' := (16, [some (.ref 173), some (.ref a1), some (vI x2), some (vI x3), none], [.ref a1, .ref 173], hp (wI (wI S 173 6 (max (w32 1) (w32 x2))) 173 2 x3), 0, 0)) rfl ?_
  refine mv_gfI rfl rfl (ha1.1) (by decide) rfl ?_
  refine mv_pfI rfl rfl (sh_173) (by decide) rfl rfl ?_
  have F := F _ rfl
  refine ev_bk 3 (S' := (25, [some (.ref 173), some (.ref a1), some (vI x2), some (vI x3), none], [.ref 173, vI 1, .ref 173], hp (wI (wI (wI S 173 6 (max (w32 1) (w32 x2))) 173 2 x3) 173 4 ((wI (wI S 173 6 (max (w32 1) (w32 x2))) 173 2 x3).1 a1 1)), 0, 0)) rfl ?_
  refine mv_gfI rfl rfl (sh_173) (by decide) rfl ?_
  refine ev_bk 1 (S' := (29, [some (.ref 173), some (.ref a1), some (vI x2), some (vI x3), none], [.ref 173, vI ((wI (wI (wI S 173 6 (max (w32 1) (w32 x2))) 173 2 x3) 173 4 ((wI (wI S 173 6 (max (w32 1) (w32 x2))) 173 2 x3).1 a1 1)).1 173 4), vI 1, .ref 173], hp (wI (wI (wI S 173 6 (max (w32 1) (w32 x2))) 173 2 x3) 173 4 ((wI (wI S 173 6 (max (w32 1) (w32 x2))) 173 2 x3).1 a1 1)), 0, 0)) rfl ?_
  refine mv_gfI rfl rfl (sh_173) (by decide) rfl ?_
  refine mv_iadd rfl ?_
  refine ev_bk 1 (S' := (34, [some (.ref 173), some (.ref a1), some (vI x2), some (vI x3), none], [vI 1, vI ((wI (wI (wI S 173 6 (max (w32 1) (w32 x2))) 173 2 x3) 173 4 ((wI (wI S 173 6 (max (w32 1) (w32 x2))) 173 2 x3).1 a1 1)).1 173 4 + ((wI (wI (wI S 173 6 (max (w32 1) (w32 x2))) 173 2 x3) 173 4 ((wI (wI S 173 6 (max (w32 1) (w32 x2))) 173 2 x3).1 a1 1)).1 173 6)), vI 1, .ref 173], hp (wI (wI (wI S 173 6 (max (w32 1) (w32 x2))) 173 2 x3) 173 4 ((wI (wI S 173 6 (max (w32 1) (w32 x2))) 173 2 x3).1 a1 1)), 0, 0)) rfl ?_
  refine mv_isub rfl ?_
  refine ev_bk 1 (S' := (36, [some (.ref 173), some (.ref a1), some (vI x2), some (vI x3), none], [.ref 173, vI (((wI (wI (wI S 173 6 (max (w32 1) (w32 x2))) 173 2 x3) 173 4 ((wI (wI S 173 6 (max (w32 1) (w32 x2))) 173 2 x3).1 a1 1)).1 173 4 + ((wI (wI (wI S 173 6 (max (w32 1) (w32 x2))) 173 2 x3) 173 4 ((wI (wI S 173 6 (max (w32 1) (w32 x2))) 173 2 x3).1 a1 1)).1 173 6)) - 1), vI 1, .ref 173], hp (wI (wI (wI S 173 6 (max (w32 1) (w32 x2))) 173 2 x3) 173 4 ((wI (wI S 173 6 (max (w32 1) (w32 x2))) 173 2 x3).1 a1 1)), 0, 0)) rfl ?_
  refine mv_gfI rfl rfl (sh_173) (by decide) rfl ?_
  obtain ⟨b4, F⟩ := F
  refine mv_idiv b4 rfl ?_
  refine mv_max rfl rfl rfl ?_
  refine mv_pfI rfl rfl (sh_173) (by decide) rfl rfl ?_
  have F := F _ rfl
  refine ev_bk 2 (S' := (49, [some (.ref 173), some (.ref a1), some (vI x2), some (vI x3), some (vI 0)], [], hp (wI (wI (wI (wI S 173 6 (max (w32 1) (w32 x2))) 173 2 x3) 173 4 ((wI (wI S 173 6 (max (w32 1) (w32 x2))) 173 2 x3).1 a1 1)) 173 3 (max (w32 1) (w32 (Int.tdiv (w32 (((wI (wI (wI S 173 6 (max (w32 1) (w32 x2))) 173 2 x3) 173 4 ((wI (wI S 173 6 (max (w32 1) (w32 x2))) 173 2 x3).1 a1 1)).1 173 4 + ((wI (wI (wI S 173 6 (max (w32 1) (w32 x2))) 173 2 x3) 173 4 ((wI (wI S 173 6 (max (w32 1) (w32 x2))) 173 2 x3).1 a1 1)).1 173 6)) - 1)) (w32 ((wI (wI (wI S 173 6 (max (w32 1) (w32 x2))) 173 2 x3) 173 4 ((wI (wI S 173 6 (max (w32 1) (w32 x2))) 173 2 x3).1 a1 1)).1 173 6)))))), 0, 0)) rfl ?_
  exact F
theorem vc_Parts_make_49 {q : Nat × (Nat → Int32)} {S S' : ms} {r : Option Value} (x2 x3 x4 : Int) (a1 na1 : Nat) (ha1 : isRow a1 na1)
    (F : ((w32 ((S.1 173 6) * (S.1 173 3)) ≤ w32 x4) → EV q 224 99 [some (.ref 173), some (.ref a1), some (vI x2), some (vI x3), some (vI 0)] [] S r S') ∧ ((¬ w32 ((S.1 173 6) * (S.1 173 3)) ≤ w32 x4) → ((w32 (S.1 173 4) ≤ w32 x4) → EV q 224 89 [some (.ref 173), some (.ref a1), some (vI x2), some (vI x3), some (vI x4)] [vI 0, vI x4, .ref 174] S r S') ∧ ((¬ w32 (S.1 173 4) ≤ w32 x4) → (0 ≤ w32 x4 ∧ w32 x4 < (na1 : Nat)) ∧ EV q 224 89 [some (.ref 173), some (.ref a1), some (vI x2), some (vI x3), some (vI x4)] [vI (S.1 (a1 + 1) (w32 x4)), vI x4, .ref 174] S r S'))) : EV q 224 49 [some (.ref 173), some (.ref a1), some (vI x2), some (vI x3), some (vI x4)] [] S r S' := by
  unfold EV
  refine ev_bk 2 (S' := (52, [some (.ref 173), some (.ref a1), some (vI x2), some (vI x3), some (vI x4)], [.ref 173, vI x4], hp S, 0, 0)) rfl ?_
  refine mv_gfI rfl rfl (sh_173) (by decide) rfl ?_
  refine ev_bk 1 (S' := (56, [some (.ref 173), some (.ref a1), some (vI x2), some (vI x3), some (vI x4)], [.ref 173, vI (S.1 173 6), vI x4], hp S, 0, 0)) rfl ?_
  refine mv_gfI rfl rfl (sh_173) (by decide) rfl ?_
  refine mv_imul rfl ?_
  refine mv_icmp 96 rfl rfl (fun c => ?_) (fun c => ?_)
  · have F := F.1 c
    refine ev_bk 2 (S' := (99, [some (.ref 173), some (.ref a1), some (vI x2), some (vI x3), some (vI 0)], [], hp S, 0, 0)) rfl ?_
    exact F
  · have F := F.2 c
    refine ev_bk 1 (S' := (64, [some (.ref 173), some (.ref a1), some (vI x2), some (vI x3), some (vI x4)], [.ref 173], hp S, 0, 0)) rfl ?_
    refine mv_gfR rfl rfl (sh_173) (by decide) rfl ?_
    refine ev_bk 3 (S' := (72, [some (.ref 173), some (.ref a1), some (vI x2), some (vI x3), some (vI x4)], [.ref 173, vI x4, vI x4, .ref 174], hp S, 0, 0)) rfl ?_
    refine mv_gfI rfl rfl (sh_173) (by decide) rfl ?_
    refine mv_icmp 88 rfl rfl (fun c => ?_) (fun c => ?_)
    · have F := F.1 c
      refine ev_bk 1 (S' := (89, [some (.ref 173), some (.ref a1), some (vI x2), some (vI x3), some (vI x4)], [vI 0, vI x4, .ref 174], hp S, 0, 0)) rfl ?_
      exact F
    · have F := F.2 c
      refine ev_bk 1 (S' := (79, [some (.ref 173), some (.ref a1), some (vI x2), some (vI x3), some (vI x4)], [.ref a1, vI x4, .ref 174], hp S, 0, 0)) rfl ?_
      refine mv_gfR rfl rfl (ha1.1) (by decide) rfl ?_
      refine ev_bk 1 (S' := (84, [some (.ref 173), some (.ref a1), some (vI x2), some (vI x3), some (vI x4)], [vI x4, .ref (a1 + 1), vI x4, .ref 174], hp S, 0, 0)) rfl ?_
      obtain ⟨b1, F⟩ := F
      refine mv_ial rfl (ha1.2) b1 ?_
      refine mv_goto 89 rfl rfl ?_
      exact F
theorem vc_Parts_make_89 {q : Nat × (Nat → Int32)} {S S' : ms} {r : Option Value} (x2 x3 x4 y0 y1 : Int) (a1 na1 : Nat) (ha1 : isRow a1 na1)
    (F : (0 ≤ w32 y1 ∧ w32 y1 < (102000 : Nat)) ∧ ∀ S2 : ms, S2 = wI S 174 (w32 y1) y0 → EV q 224 49 [some (.ref 173), some (.ref a1), some (vI x2), some (vI x3), some (vI (x4 + 1))] [] S2 r S') : EV q 224 89 [some (.ref 173), some (.ref a1), some (vI x2), some (vI x3), some (vI x4)] [vI y0, vI y1, .ref 174] S r S' := by
  unfold EV
  obtain ⟨b1, F⟩ := F
  refine mv_ias rfl (sh_174) b1 ?_
  have F := F _ rfl
  refine mv_inc (lv' := [some (.ref 173), some (.ref a1), some (vI x2), some (vI x3), some (vI (x4 + 1))]) 4 1 rfl rfl rfl rfl ?_
  refine mv_goto 49 rfl rfl ?_
  exact F
theorem vc_Parts_make_99 {q : Nat × (Nat → Int32)} {S S' : ms} {r : Option Value} (x2 x3 x4 : Int) (a1 na1 : Nat) (ha1 : isRow a1 na1)
    (F : ((w32 (S.1 173 2) ≤ w32 x4) → EV q 224 123 [some (.ref 173), some (.ref a1), some (vI x2), some (vI x3), some (vI 0)] [] S r S') ∧ ((¬ w32 (S.1 173 2) ≤ w32 x4) → ∃ (S1 : ms), EV q 225 0 [some (.ref 173), some (vI x4), none, none, none, none] [] S none S1 ∧ EV q 224 99 [some (.ref 173), some (.ref a1), some (vI x2), some (vI x3), some (vI (x4 + 1))] [] S1 r S')) : EV q 224 99 [some (.ref 173), some (.ref a1), some (vI x2), some (vI x3), some (vI x4)] [] S r S' := by
  unfold EV
  refine ev_bk 2 (S' := (102, [some (.ref 173), some (.ref a1), some (vI x2), some (vI x3), some (vI x4)], [.ref 173, vI x4], hp S, 0, 0)) rfl ?_
  refine mv_gfI rfl rfl (sh_173) (by decide) rfl ?_
  refine mv_icmp 120 rfl rfl (fun c => ?_) (fun c => ?_)
  · have F := F.1 c
    refine ev_bk 2 (S' := (123, [some (.ref 173), some (.ref a1), some (vI x2), some (vI x3), some (vI 0)], [], hp S, 0, 0)) rfl ?_
    exact F
  · have F := F.2 c
    refine ev_bk 2 (S' := (111, [some (.ref 173), some (.ref a1), some (vI x2), some (vI x3), some (vI x4)], [vI x4, .ref 173], hp S, 0, 0)) rfl ?_
    obtain ⟨S1, e2, F⟩ := F
    refine mv_calv (as := [vI x4]) (rest := []) e2 (sh_173) rfl rfl rfl ⟨rfl, rfl⟩ rfl rfl rfl rfl rfl ?_
    refine mv_inc (lv' := [some (.ref 173), some (.ref a1), some (vI x2), some (vI x3), some (vI (x4 + 1))]) 4 1 rfl rfl rfl rfl ?_
    refine mv_goto 99 rfl rfl ?_
    exact F
theorem vc_Parts_make_123 {q : Nat × (Nat → Int32)} {S S' : ms} {r : Option Value} (x2 x3 x4 : Int) (a1 na1 : Nat) (ha1 : isRow a1 na1)
    (F : ((w32 (S.1 173 6 + (S.1 173 2)) ≤ w32 x4) → r = none ∧ S' = S) ∧ ((¬ w32 (S.1 173 6 + (S.1 173 2)) ≤ w32 x4) → (0 ≤ w32 x4 ∧ w32 x4 < (48 : Nat)) ∧ ∀ S2 : ms, S2 = wI S 175 (w32 x4) (0 % 2) → ∃ (z5 : Int) (S3 : ms), EV q 28 0 [some (.ref 174), some (vI (x4 * (S2.1 173 3))), some (vI ((x4 * (S2.1 173 3)) + (S2.1 173 3))), none, none] [] S2 (some (vI z5)) S3 ∧ (0 ≤ w32 x4 ∧ w32 x4 < (48 : Nat)) ∧ ∀ S7 : ms, S7 = wI S3 177 (w32 x4) z5 → EV q 224 123 [some (.ref 173), some (.ref a1), some (vI x2), some (vI x3), some (vI (x4 + 1))] [] S7 r S')) : EV q 224 123 [some (.ref 173), some (.ref a1), some (vI x2), some (vI x3), some (vI x4)] [] S r S' := by
  unfold EV
  refine ev_bk 2 (S' := (126, [some (.ref 173), some (.ref a1), some (vI x2), some (vI x3), some (vI x4)], [.ref 173, vI x4], hp S, 0, 0)) rfl ?_
  refine mv_gfI rfl rfl (sh_173) (by decide) rfl ?_
  refine ev_bk 1 (S' := (130, [some (.ref 173), some (.ref a1), some (vI x2), some (vI x3), some (vI x4)], [.ref 173, vI (S.1 173 6), vI x4], hp S, 0, 0)) rfl ?_
  refine mv_gfI rfl rfl (sh_173) (by decide) rfl ?_
  refine mv_iadd rfl ?_
  refine mv_icmp 184 rfl rfl (fun c => ?_) (fun c => ?_)
  · have F := F.1 c
    obtain ⟨rfl, rfl⟩ := F
    exact ev_ret rfl rfl
  · have F := F.2 c
    refine ev_bk 1 (S' := (138, [some (.ref 173), some (.ref a1), some (vI x2), some (vI x3), some (vI x4)], [.ref 173], hp S, 0, 0)) rfl ?_
    refine mv_gfR rfl rfl (sh_173) (by decide) rfl ?_
    refine ev_bk 2 (S' := (144, [some (.ref 173), some (.ref a1), some (vI x2), some (vI x3), some (vI x4)], [vI 0, vI x4, .ref 175], hp S, 0, 0)) rfl ?_
    obtain ⟨b1, F⟩ := F
    refine mv_zas rfl (sh_175) b1 ?_
    have F := F _ rfl
    refine ev_bk 1 (S' := (146, [some (.ref 173), some (.ref a1), some (vI x2), some (vI x3), some (vI x4)], [.ref 173], hp (wI S 175 (w32 x4) (0 % 2)), 0, 0)) rfl ?_
    refine mv_gfR rfl rfl (sh_173) (by decide) rfl ?_
    refine ev_bk 2 (S' := (152, [some (.ref 173), some (.ref a1), some (vI x2), some (vI x3), some (vI x4)], [.ref 173, vI x4, .ref 177], hp (wI S 175 (w32 x4) (0 % 2)), 0, 0)) rfl ?_
    refine mv_gfR rfl rfl (sh_173) (by decide) rfl ?_
    refine ev_bk 2 (S' := (158, [some (.ref 173), some (.ref a1), some (vI x2), some (vI x3), some (vI x4)], [.ref 173, vI x4, .ref 174, vI x4, .ref 177], hp (wI S 175 (w32 x4) (0 % 2)), 0, 0)) rfl ?_
    refine mv_gfI rfl rfl (sh_173) (by decide) rfl ?_
    refine mv_imul rfl ?_
    refine ev_bk 2 (S' := (165, [some (.ref 173), some (.ref a1), some (vI x2), some (vI x3), some (vI x4)], [.ref 173, vI x4, vI (x4 * ((wI S 175 (w32 x4) (0 % 2)).1 173 3)), .ref 174, vI x4, .ref 177], hp (wI S 175 (w32 x4) (0 % 2)), 0, 0)) rfl ?_
    refine mv_gfI rfl rfl (sh_173) (by decide) rfl ?_
    refine mv_imul rfl ?_
    refine ev_bk 1 (S' := (170, [some (.ref 173), some (.ref a1), some (vI x2), some (vI x3), some (vI x4)], [.ref 173, vI (x4 * ((wI S 175 (w32 x4) (0 % 2)).1 173 3)), vI (x4 * ((wI S 175 (w32 x4) (0 % 2)).1 173 3)), .ref 174, vI x4, .ref 177], hp (wI S 175 (w32 x4) (0 % 2)), 0, 0)) rfl ?_
    refine mv_gfI rfl rfl (sh_173) (by decide) rfl ?_
    refine mv_iadd rfl ?_
    obtain ⟨z5, S3, e4, F⟩ := F
    refine mv_cals (as := [.ref 174, vI (x4 * ((wI S 175 (w32 x4) (0 % 2)).1 173 3)), vI ((x4 * ((wI S 175 (w32 x4) (0 % 2)).1 173 3)) + ((wI S 175 (w32 x4) (0 % 2)).1 173 3))]) (rest := [vI x4, .ref 177]) e4 rfl rfl rfl ⟨rfl, rfl, rfl⟩ rfl rfl rfl rfl ?_
    obtain ⟨b6, F⟩ := F
    refine mv_ias rfl (sh_177) b6 ?_
    have F := F _ rfl
    refine mv_inc (lv' := [some (.ref 173), some (.ref a1), some (vI x2), some (vI x3), some (vI (x4 + 1))]) 4 1 rfl rfl rfl rfl ?_
    refine mv_goto 123 rfl rfl ?_
    exact F
theorem vc_Parts_makeCheck {q : Nat × (Nat → Int32)} {S S' : ms} {r : Option Value} (x1 : Int)
    (F : EV q 225 14 [some (.ref 173), some (vI x1), some (vI ((S.1 173 6 + x1) * (S.1 173 3))), some (vI 0), none, none] [] S r S') : EV q 225 0 [some (.ref 173), some (vI x1), none, none, none, none] [] S r S' := by
  unfold EV
  refine ev_bk 1 (S' := (1, [some (.ref 173), some (vI x1), none, none, none, none], [.ref 173], hp S, 0, 0)) rfl ?_
  refine mv_gfI rfl rfl (sh_173) (by decide) rfl ?_
  refine ev_bk 1 (S' := (5, [some (.ref 173), some (vI x1), none, none, none, none], [vI x1, vI (S.1 173 6)], hp S, 0, 0)) rfl ?_
  refine mv_iadd rfl ?_
  refine ev_bk 1 (S' := (7, [some (.ref 173), some (vI x1), none, none, none, none], [.ref 173, vI (S.1 173 6 + x1)], hp S, 0, 0)) rfl ?_
  refine mv_gfI rfl rfl (sh_173) (by decide) rfl ?_
  refine mv_imul rfl ?_
  refine ev_bk 3 (S' := (14, [some (.ref 173), some (vI x1), some (vI ((S.1 173 6 + x1) * (S.1 173 3))), some (vI 0), none, none], [], hp S, 0, 0)) rfl ?_
  exact F
theorem vc_Parts_makeCheck_14 {q : Nat × (Nat → Int32)} {S S' : ms} {r : Option Value} (x1 x2 x3 : Int)
    (F : ((w32 (S.1 173 3) ≤ w32 x3) → EV q 225 39 [some (.ref 173), some (vI x1), some (vI x2), some (vI 0), none, none] [] S r S') ∧ ((¬ w32 (S.1 173 3) ≤ w32 x3) → (0 ≤ w32 (x2 + x3) ∧ w32 (x2 + x3) < (102000 : Nat)) ∧ ∀ S2 : ms, S2 = wI S 174 (w32 (x2 + x3)) 0 → EV q 225 14 [some (.ref 173), some (vI x1), some (vI x2), some (vI (x3 + 1)), none, none] [] S2 r S')) : EV q 225 14 [some (.ref 173), some (vI x1), some (vI x2), some (vI x3), none, none] [] S r S' := by
  unfold EV
  refine ev_bk 2 (S' := (16, [some (.ref 173), some (vI x1), some (vI x2), some (vI x3), none, none], [.ref 173, vI x3], hp S, 0, 0)) rfl ?_
  refine mv_gfI rfl rfl (sh_173) (by decide) rfl ?_
  refine mv_icmp 37 rfl rfl (fun c => ?_) (fun c => ?_)
  · have F := F.1 c
    refine ev_bk 2 (S' := (39, [some (.ref 173), some (vI x1), some (vI x2), some (vI 0), none, none], [], hp S, 0, 0)) rfl ?_
    exact F
  · have F := F.2 c
    refine ev_bk 1 (S' := (23, [some (.ref 173), some (vI x1), some (vI x2), some (vI x3), none, none], [.ref 173], hp S, 0, 0)) rfl ?_
    refine mv_gfR rfl rfl (sh_173) (by decide) rfl ?_
    refine ev_bk 2 (S' := (28, [some (.ref 173), some (vI x1), some (vI x2), some (vI x3), none, none], [vI x3, vI x2, .ref 174], hp S, 0, 0)) rfl ?_
    refine mv_iadd rfl ?_
    refine ev_bk 1 (S' := (30, [some (.ref 173), some (vI x1), some (vI x2), some (vI x3), none, none], [vI 0, vI (x2 + x3), .ref 174], hp S, 0, 0)) rfl ?_
    obtain ⟨b1, F⟩ := F
    refine mv_ias rfl (sh_174) b1 ?_
    have F := F _ rfl
    refine mv_inc (lv' := [some (.ref 173), some (vI x1), some (vI x2), some (vI (x3 + 1)), none, none]) 3 1 rfl rfl rfl rfl ?_
    refine mv_goto 14 rfl rfl ?_
    exact F
theorem vc_Parts_makeCheck_39 {q : Nat × (Nat → Int32)} {S S' : ms} {r : Option Value} (x1 x2 x3 : Int)
    (F : ((w32 (S.1 173 6) ≤ w32 x3) → r = none ∧ S' = S) ∧ ((¬ w32 (S.1 173 6) ≤ w32 x3) → ∃ (z3 : Int) (S1 : ms), EV q 226 0 [some (.ref 173), some (vI x3), some (vI x1)] [] S (some (vI z3)) S1 ∧ EV q 225 58 [some (.ref 173), some (vI x1), some (vI x2), some (vI x3), some (vI z3), some (vI 0)] [] S1 r S')) : EV q 225 39 [some (.ref 173), some (vI x1), some (vI x2), some (vI x3), none, none] [] S r S' := by
  unfold EV
  refine ev_bk 2 (S' := (41, [some (.ref 173), some (vI x1), some (vI x2), some (vI x3), none, none], [.ref 173, vI x3], hp S, 0, 0)) rfl ?_
  refine mv_gfI rfl rfl (sh_173) (by decide) rfl ?_
  refine mv_icmp 111 rfl rfl (fun c => ?_) (fun c => ?_)
  · have F := F.1 c
    obtain ⟨rfl, rfl⟩ := F
    exact ev_ret rfl rfl
  · have F := F.2 c
    refine ev_bk 3 (S' := (50, [some (.ref 173), some (vI x1), some (vI x2), some (vI x3), none, none], [vI x1, vI x3, .ref 173], hp S, 0, 0)) rfl ?_
    obtain ⟨z3, S1, e2, F⟩ := F
    refine mv_calv (as := [vI x3, vI x1]) (rest := []) e2 (sh_173) rfl rfl rfl ⟨rfl, rfl⟩ rfl rfl rfl rfl rfl ?_
    refine ev_bk 3 (S' := (58, [some (.ref 173), some (vI x1), some (vI x2), some (vI x3), some (vI z3), some (vI 0)], [], hp S1, 0, 0)) rfl ?_
    exact F
theorem vc_Parts_makeCheck_58 {q : Nat × (Nat → Int32)} {S S' : ms} {r : Option Value} (x1 x2 x3 x4 x5 : Int)
    (F : ((w32 (S.1 173 3) ≤ w32 x5) → EV q 225 39 [some (.ref 173), some (vI x1), some (vI x2), some (vI (x3 + 1)), none, none] [] S r S') ∧ ((¬ w32 (S.1 173 3) ≤ w32 x5) → (0 ≤ w32 (x2 + x5) ∧ w32 (x2 + x5) < (102000 : Nat)) ∧ (0 ≤ w32 ((x3 * (S.1 173 3)) + x5) ∧ w32 ((x3 * (S.1 173 3)) + x5) < (102000 : Nat)) ∧ ∃ (z5 : Int) (S3 : ms), EV q 228 0 [some (.ref 173), some (vI (S.1 174 (w32 ((x3 * (S.1 173 3)) + x5)))), some (vI x4)] [] S (some (vI z5)) S3 ∧ (0 ≤ w32 (x2 + x5) ∧ w32 (x2 + x5) < (102000 : Nat)) ∧ ∀ S7 : ms, S7 = wI S3 174 (w32 (x2 + x5)) (bX (S.1 174 (w32 (x2 + x5))) z5) → EV q 225 58 [some (.ref 173), some (vI x1), some (vI x2), some (vI x3), some (vI x4), some (vI (x5 + 1))] [] S7 r S')) : EV q 225 58 [some (.ref 173), some (vI x1), some (vI x2), some (vI x3), some (vI x4), some (vI x5)] [] S r S' := by
  unfold EV
  refine ev_bk 2 (S' := (61, [some (.ref 173), some (vI x1), some (vI x2), some (vI x3), some (vI x4), some (vI x5)], [.ref 173, vI x5], hp S, 0, 0)) rfl ?_
  refine mv_gfI rfl rfl (sh_173) (by decide) rfl ?_
  refine mv_icmp 105 rfl rfl (fun c => ?_) (fun c => ?_)
  · have F := F.1 c
    refine mv_inc (lv' := [some (.ref 173), some (vI x1), some (vI x2), some (vI (x3 + 1)), some (vI x4), some (vI x5)]) 3 1 rfl rfl rfl rfl ?_
    refine mv_goto 39 rfl rfl ?_
    exact ev_wk (le_s (le_s (le_s (le_s (le_n (le_n le_0)))))) F
  · have F := F.2 c
    refine ev_bk 1 (S' := (68, [some (.ref 173), some (vI x1), some (vI x2), some (vI x3), some (vI x4), some (vI x5)], [.ref 173], hp S, 0, 0)) rfl ?_
    refine mv_gfR rfl rfl (sh_173) (by decide) rfl ?_
    refine ev_bk 2 (S' := (74, [some (.ref 173), some (vI x1), some (vI x2), some (vI x3), some (vI x4), some (vI x5)], [vI x5, vI x2, .ref 174], hp S, 0, 0)) rfl ?_
    refine mv_iadd rfl ?_
    refine ev_bk 1 (S' := (76, [some (.ref 173), some (vI x1), some (vI x2), some (vI x3), some (vI x4), some (vI x5)], [vI (x2 + x5), .ref 174, vI (x2 + x5), .ref 174], hp S, 0, 0)) rfl ?_
    obtain ⟨b1, F⟩ := F
    refine mv_ial rfl (sh_174) b1 ?_
    refine ev_bk 2 (S' := (79, [some (.ref 173), some (vI x1), some (vI x2), some (vI x3), some (vI x4), some (vI x5)], [.ref 173, .ref 173, vI (S.1 174 (w32 (x2 + x5))), vI (x2 + x5), .ref 174], hp S, 0, 0)) rfl ?_
    refine mv_gfR rfl rfl (sh_173) (by decide) rfl ?_
    refine ev_bk 2 (S' := (84, [some (.ref 173), some (vI x1), some (vI x2), some (vI x3), some (vI x4), some (vI x5)], [.ref 173, vI x3, .ref 174, .ref 173, vI (S.1 174 (w32 (x2 + x5))), vI (x2 + x5), .ref 174], hp S, 0, 0)) rfl ?_
    refine mv_gfI rfl rfl (sh_173) (by decide) rfl ?_
    refine mv_imul rfl ?_
    refine ev_bk 1 (S' := (90, [some (.ref 173), some (vI x1), some (vI x2), some (vI x3), some (vI x4), some (vI x5)], [vI x5, vI (x3 * (S.1 173 3)), .ref 174, .ref 173, vI (S.1 174 (w32 (x2 + x5))), vI (x2 + x5), .ref 174], hp S, 0, 0)) rfl ?_
    refine mv_iadd rfl ?_
    obtain ⟨b2, F⟩ := F
    refine mv_ial rfl (sh_174) b2 ?_
    refine ev_bk 1 (S' := (94, [some (.ref 173), some (vI x1), some (vI x2), some (vI x3), some (vI x4), some (vI x5)], [vI x4, vI (S.1 174 (w32 ((x3 * (S.1 173 3)) + x5))), .ref 173, vI (S.1 174 (w32 (x2 + x5))), vI (x2 + x5), .ref 174], hp S, 0, 0)) rfl ?_
    obtain ⟨z5, S3, e4, F⟩ := F
    refine mv_calv (as := [vI (S.1 174 (w32 ((x3 * (S.1 173 3)) + x5))), vI x4]) (rest := [vI (S.1 174 (w32 (x2 + x5))), vI (x2 + x5), .ref 174]) e4 (sh_173) rfl rfl rfl ⟨rfl, rfl⟩ rfl rfl rfl rfl rfl ?_
    refine mv_ixor rfl ?_
    obtain ⟨b6, F⟩ := F
    refine mv_ias rfl (sh_174) b6 ?_
    have F := F _ rfl
    refine mv_inc (lv' := [some (.ref 173), some (vI x1), some (vI x2), some (vI x3), some (vI x4), some (vI (x5 + 1))]) 5 1 rfl rfl rfl rfl ?_
    refine mv_goto 58 rfl rfl ?_
    exact F
theorem vc_Parts_factor {q : Nat × (Nat → Int32)} {S S' : ms} {r : Option Value} (x1 x2 : Int)
    (F : ∃ (z3 : Int) (S1 : ms), EV q 227 0 [some (.ref 173), some (vI (bX x1 (255 - x2)))] [] S (some (vI z3)) S1 ∧ r = some (vI z3) ∧ S' = S1) : EV q 226 0 [some (.ref 173), some (vI x1), some (vI x2)] [] S r S' := by
  unfold EV
  refine ev_bk 4 (S' := (6, [some (.ref 173), some (vI x1), some (vI x2)], [vI x2, vI 255, vI x1, .ref 173], hp S, 0, 0)) rfl ?_
  refine mv_isub rfl ?_
  refine mv_ixor rfl ?_
  obtain ⟨z3, S1, e2, F⟩ := F
  refine mv_calv (as := [vI (bX x1 (255 - x2))]) (rest := []) e2 (sh_173) rfl rfl rfl ⟨rfl, rfl⟩ rfl rfl rfl rfl rfl ?_
  obtain ⟨rfl, rfl⟩ := F
  exact ev_ret rfl rfl
theorem vc_Parts_inverse {q : Nat × (Nat → Int32)} {S S' : ms} {r : Option Value} (x1 : Int)
    (F : (0 ≤ w32 x1 ∧ w32 x1 < (256 : Nat)) ∧ (0 ≤ w32 (255 - (S.1 183 (w32 x1))) ∧ w32 (255 - (S.1 183 (w32 x1))) < (510 : Nat)) ∧ r = some (vI (S.1 182 (w32 (255 - (S.1 183 (w32 x1)))))) ∧ S' = S) : EV q 227 0 [some (.ref 173), some (vI x1)] [] S r S' := by
  unfold EV
  refine ev_bk 1 (S' := (1, [some (.ref 173), some (vI x1)], [.ref 173], hp S, 0, 0)) rfl ?_
  refine mv_gfR rfl rfl (sh_173) (by decide) rfl ?_
  refine ev_bk 2 (S' := (8, [some (.ref 173), some (vI x1)], [.ref 173, vI 255, .ref 182], hp S, 0, 0)) rfl ?_
  refine mv_gfR rfl rfl (sh_173) (by decide) rfl ?_
  refine ev_bk 1 (S' := (12, [some (.ref 173), some (vI x1)], [vI x1, .ref 183, vI 255, .ref 182], hp S, 0, 0)) rfl ?_
  obtain ⟨b1, F⟩ := F
  refine mv_ial rfl (sh_183) b1 ?_
  refine mv_isub rfl ?_
  obtain ⟨b2, F⟩ := F
  refine mv_ial rfl (sh_182) b2 ?_
  obtain ⟨rfl, rfl⟩ := F
  exact ev_ret rfl rfl
theorem vc_Parts_times {q : Nat × (Nat → Int32)} {S S' : ms} {r : Option Value} (x1 x2 : Int)
    (F : ((w32 x1 = 0) → EV q 228 8 [some (.ref 173), some (vI x1), some (vI x2)] [] S r S') ∧ ((¬ w32 x1 = 0) → ((¬ w32 x2 = 0) → (0 ≤ w32 x1 ∧ w32 x1 < (256 : Nat)) ∧ (0 ≤ w32 x2 ∧ w32 x2 < (256 : Nat)) ∧ (0 ≤ w32 ((S.1 183 (w32 x1)) + (S.1 183 (w32 x2))) ∧ w32 ((S.1 183 (w32 x1)) + (S.1 183 (w32 x2))) < (510 : Nat)) ∧ r = some (vI (S.1 182 (w32 ((S.1 183 (w32 x1)) + (S.1 183 (w32 x2)))))) ∧ S' = S) ∧ ((¬ (¬ w32 x2 = 0)) → EV q 228 8 [some (.ref 173), some (vI x1), some (vI x2)] [] S r S'))) : EV q 228 0 [some (.ref 173), some (vI x1), some (vI x2)] [] S r S' := by
  unfold EV
  refine ev_bk 1 (S' := (1, [some (.ref 173), some (vI x1), some (vI x2)], [vI x1], hp S, 0, 0)) rfl ?_
  refine mv_if 8 rfl rfl (fun c => ?_) (fun c => ?_)
  · have F := F.1 c
    exact F
  · have F := F.2 c
    refine ev_bk 1 (S' := (5, [some (.ref 173), some (vI x1), some (vI x2)], [vI x2], hp S, 0, 0)) rfl ?_
    refine mv_if 12 rfl rfl (fun c => ?_) (fun c => ?_)
    · have F := F.1 c
      refine ev_bk 1 (S' := (13, [some (.ref 173), some (vI x1), some (vI x2)], [.ref 173], hp S, 0, 0)) rfl ?_
      refine mv_gfR rfl rfl (sh_173) (by decide) rfl ?_
      refine ev_bk 1 (S' := (17, [some (.ref 173), some (vI x1), some (vI x2)], [.ref 173, .ref 182], hp S, 0, 0)) rfl ?_
      refine mv_gfR rfl rfl (sh_173) (by decide) rfl ?_
      refine ev_bk 1 (S' := (21, [some (.ref 173), some (vI x1), some (vI x2)], [vI x1, .ref 183, .ref 182], hp S, 0, 0)) rfl ?_
      obtain ⟨b1, F⟩ := F
      refine mv_ial rfl (sh_183) b1 ?_
      refine ev_bk 1 (S' := (23, [some (.ref 173), some (vI x1), some (vI x2)], [.ref 173, vI (S.1 183 (w32 x1)), .ref 182], hp S, 0, 0)) rfl ?_
      refine mv_gfR rfl rfl (sh_173) (by decide) rfl ?_
      refine ev_bk 1 (S' := (27, [some (.ref 173), some (vI x1), some (vI x2)], [vI x2, .ref 183, vI (S.1 183 (w32 x1)), .ref 182], hp S, 0, 0)) rfl ?_
      obtain ⟨b2, F⟩ := F
      refine mv_ial rfl (sh_183) b2 ?_
      refine mv_iadd rfl ?_
      obtain ⟨b3, F⟩ := F
      refine mv_ial rfl (sh_182) b3 ?_
      obtain ⟨rfl, rfl⟩ := F
      exact ev_ret rfl rfl
    · have F := F.2 c
      exact F
theorem vc_Parts_times_8 {q : Nat × (Nat → Int32)} {S S' : ms} {r : Option Value} (x1 x2 : Int)
    (F : r = some (vI 0) ∧ S' = S) : EV q 228 8 [some (.ref 173), some (vI x1), some (vI x2)] [] S r S' := by
  unfold EV
  refine ev_bk 1 (S' := (9, [some (.ref 173), some (vI x1), some (vI x2)], [vI 0], hp S, 0, 0)) rfl ?_
  refine mv_goto 30 rfl rfl ?_
  obtain ⟨rfl, rfl⟩ := F
  exact ev_ret rfl rfl
theorem vc_Parts_has {q : Nat × (Nat → Int32)} {S S' : ms} {r : Option Value} (x1 x2 : Int)
    (F : ((w32 x1 < 0) → r = some (vI 0) ∧ S' = S) ∧ ((¬ w32 x1 < 0) → ((w32 (S.1 173 6 + (S.1 173 2)) ≤ w32 x1) → r = some (vI 0) ∧ S' = S) ∧ ((¬ w32 (S.1 173 6 + (S.1 173 2)) ≤ w32 x1) → ((w32 x2 < 0) → r = some (vI 0) ∧ S' = S) ∧ ((¬ w32 x2 < 0) → ((w32 (S.1 173 3) ≤ w32 x2) → r = some (vI 0) ∧ S' = S) ∧ ((¬ w32 (S.1 173 3) ≤ w32 x2) → r = some (vI 1) ∧ S' = S))))) : EV q 230 0 [some (.ref 173), some (vI x1), some (vI x2)] [] S r S' := by
  unfold EV
  refine ev_bk 1 (S' := (1, [some (.ref 173), some (vI x1), some (vI x2)], [vI x1], hp S, 0, 0)) rfl ?_
  refine mv_if 33 rfl rfl (fun c => ?_) (fun c => ?_)
  · have F := F.1 c
    refine ev_bk 1 (S' := (34, [some (.ref 173), some (vI x1), some (vI x2)], [vI 0], hp S, 0, 0)) rfl ?_
    obtain ⟨rfl, rfl⟩ := F
    exact ev_ret rfl rfl
  · have F := F.2 c
    refine ev_bk 2 (S' := (6, [some (.ref 173), some (vI x1), some (vI x2)], [.ref 173, vI x1], hp S, 0, 0)) rfl ?_
    refine mv_gfI rfl rfl (sh_173) (by decide) rfl ?_
    refine ev_bk 1 (S' := (10, [some (.ref 173), some (vI x1), some (vI x2)], [.ref 173, vI (S.1 173 6), vI x1], hp S, 0, 0)) rfl ?_
    refine mv_gfI rfl rfl (sh_173) (by decide) rfl ?_
    refine mv_iadd rfl ?_
    refine mv_icmp 33 rfl rfl (fun c => ?_) (fun c => ?_)
    · have F := F.1 c
      refine ev_bk 1 (S' := (34, [some (.ref 173), some (vI x1), some (vI x2)], [vI 0], hp S, 0, 0)) rfl ?_
      obtain ⟨rfl, rfl⟩ := F
      exact ev_ret rfl rfl
    · have F := F.2 c
      refine ev_bk 1 (S' := (18, [some (.ref 173), some (vI x1), some (vI x2)], [vI x2], hp S, 0, 0)) rfl ?_
      refine mv_if 33 rfl rfl (fun c => ?_) (fun c => ?_)
      · have F := F.1 c
        refine ev_bk 1 (S' := (34, [some (.ref 173), some (vI x1), some (vI x2)], [vI 0], hp S, 0, 0)) rfl ?_
        obtain ⟨rfl, rfl⟩ := F
        exact ev_ret rfl rfl
      · have F := F.2 c
        refine ev_bk 2 (S' := (23, [some (.ref 173), some (vI x1), some (vI x2)], [.ref 173, vI x2], hp S, 0, 0)) rfl ?_
        refine mv_gfI rfl rfl (sh_173) (by decide) rfl ?_
        refine mv_icmp 33 rfl rfl (fun c => ?_) (fun c => ?_)
        · have F := F.1 c
          refine ev_bk 1 (S' := (34, [some (.ref 173), some (vI x1), some (vI x2)], [vI 0], hp S, 0, 0)) rfl ?_
          obtain ⟨rfl, rfl⟩ := F
          exact ev_ret rfl rfl
        · have F := F.2 c
          refine ev_bk 1 (S' := (30, [some (.ref 173), some (vI x1), some (vI x2)], [vI 1], hp S, 0, 0)) rfl ?_
          refine mv_goto 34 rfl rfl ?_
          obtain ⟨rfl, rfl⟩ := F
          exact ev_ret rfl rfl
theorem vc_Parts_markGone {q : Nat × (Nat → Int32)} {S S' : ms} {r : Option Value}
    (F : ∀ S1 : ms, S1 = wI S 173 5 0 → EV q 234 9 [some (.ref 173), some (vI 0), some (vI 0)] [] S1 r S') : EV q 234 0 [some (.ref 173), none, none] [] S r S' := by
  unfold EV
  refine ev_bk 4 (S' := (4, [some (.ref 173), some (vI 0), none], [vI 0, .ref 173], hp S, 0, 0)) rfl ?_
  refine mv_pfI rfl rfl (sh_173) (by decide) rfl rfl ?_
  have F := F _ rfl
  refine ev_bk 2 (S' := (9, [some (.ref 173), some (vI 0), some (vI 0)], [], hp (wI S 173 5 0), 0, 0)) rfl ?_
  exact F
theorem vc_Parts_markGone_9 {q : Nat × (Nat → Int32)} {S S' : ms} {r : Option Value} (x1 x2 : Int)
    (F : ((w32 (S.1 173 6 + (S.1 173 2)) ≤ w32 x2) → r = some (vI x1) ∧ S' = S) ∧ ((¬ w32 (S.1 173 6 + (S.1 173 2)) ≤ w32 x2) → (0 ≤ w32 x2 ∧ w32 x2 < (48 : Nat)) ∧ ((¬ w32 (S.1 175 (w32 x2)) = 0) → EV q 234 69 [some (.ref 173), some (vI x1), some (vI x2)] [vI x2, .ref 176] S r S') ∧ ((¬ (¬ w32 (S.1 175 (w32 x2)) = 0)) → ∃ (z4 : Int) (S2 : ms), EV q 28 0 [some (.ref 174), some (vI (x2 * (S.1 173 3))), some (vI ((x2 * (S.1 173 3)) + (S.1 173 3))), none, none] [] S (some (vI z4)) S2 ∧ (0 ≤ w32 x2 ∧ w32 x2 < (48 : Nat)) ∧ ((w32 z4 = w32 (S2.1 177 (w32 x2))) → EV q 234 74 [some (.ref 173), some (vI x1), some (vI x2)] [vI 0, vI x2, .ref 176] S2 r S') ∧ ((¬ w32 z4 = w32 (S2.1 177 (w32 x2))) → EV q 234 69 [some (.ref 173), some (vI x1), some (vI x2)] [vI x2, .ref 176] S2 r S')))) : EV q 234 9 [some (.ref 173), some (vI x1), some (vI x2)] [] S r S' := by
  unfold EV
  refine ev_bk 2 (S' := (11, [some (.ref 173), some (vI x1), some (vI x2)], [.ref 173, vI x2], hp S, 0, 0)) rfl ?_
  refine mv_gfI rfl rfl (sh_173) (by decide) rfl ?_
  refine ev_bk 1 (S' := (15, [some (.ref 173), some (vI x1), some (vI x2)], [.ref 173, vI (S.1 173 6), vI x2], hp S, 0, 0)) rfl ?_
  refine mv_gfI rfl rfl (sh_173) (by decide) rfl ?_
  refine mv_iadd rfl ?_
  refine mv_icmp 121 rfl rfl (fun c => ?_) (fun c => ?_)
  · have F := F.1 c
    refine ev_bk 1 (S' := (122, [some (.ref 173), some (vI x1), some (vI x2)], [vI x1], hp S, 0, 0)) rfl ?_
    obtain ⟨rfl, rfl⟩ := F
    exact ev_ret rfl rfl
  · have F := F.2 c
    refine ev_bk 1 (S' := (23, [some (.ref 173), some (vI x1), some (vI x2)], [.ref 173], hp S, 0, 0)) rfl ?_
    refine mv_gfR rfl rfl (sh_173) (by decide) rfl ?_
    refine ev_bk 2 (S' := (28, [some (.ref 173), some (vI x1), some (vI x2)], [.ref 173, vI x2, .ref 176], hp S, 0, 0)) rfl ?_
    refine mv_gfR rfl rfl (sh_173) (by decide) rfl ?_
    refine ev_bk 1 (S' := (32, [some (.ref 173), some (vI x1), some (vI x2)], [vI x2, .ref 175, vI x2, .ref 176], hp S, 0, 0)) rfl ?_
    obtain ⟨b1, F⟩ := F
    refine mv_zal rfl (sh_175) b1 ?_
    refine mv_if 69 rfl rfl (fun c => ?_) (fun c => ?_)
    · have F := F.1 c
      exact F
    · have F := F.2 c
      refine ev_bk 1 (S' := (37, [some (.ref 173), some (vI x1), some (vI x2)], [.ref 173, vI x2, .ref 176], hp S, 0, 0)) rfl ?_
      refine mv_gfR rfl rfl (sh_173) (by decide) rfl ?_
      refine ev_bk 2 (S' := (42, [some (.ref 173), some (vI x1), some (vI x2)], [.ref 173, vI x2, .ref 174, vI x2, .ref 176], hp S, 0, 0)) rfl ?_
      refine mv_gfI rfl rfl (sh_173) (by decide) rfl ?_
      refine mv_imul rfl ?_
      refine ev_bk 2 (S' := (48, [some (.ref 173), some (vI x1), some (vI x2)], [.ref 173, vI x2, vI (x2 * (S.1 173 3)), .ref 174, vI x2, .ref 176], hp S, 0, 0)) rfl ?_
      refine mv_gfI rfl rfl (sh_173) (by decide) rfl ?_
      refine mv_imul rfl ?_
      refine ev_bk 1 (S' := (53, [some (.ref 173), some (vI x1), some (vI x2)], [.ref 173, vI (x2 * (S.1 173 3)), vI (x2 * (S.1 173 3)), .ref 174, vI x2, .ref 176], hp S, 0, 0)) rfl ?_
      refine mv_gfI rfl rfl (sh_173) (by decide) rfl ?_
      refine mv_iadd rfl ?_
      obtain ⟨z4, S2, e3, F⟩ := F
      refine mv_cals (as := [.ref 174, vI (x2 * (S.1 173 3)), vI ((x2 * (S.1 173 3)) + (S.1 173 3))]) (rest := [vI x2, .ref 176]) e3 rfl rfl rfl ⟨rfl, rfl, rfl⟩ rfl rfl rfl rfl ?_
      refine ev_bk 1 (S' := (61, [some (.ref 173), some (vI x1), some (vI x2)], [.ref 173, vI z4, vI x2, .ref 176], hp S2, 0, 0)) rfl ?_
      refine mv_gfR rfl rfl (sh_173) (by decide) rfl ?_
      refine ev_bk 1 (S' := (65, [some (.ref 173), some (vI x1), some (vI x2)], [vI x2, .ref 177, vI z4, vI x2, .ref 176], hp S2, 0, 0)) rfl ?_
      obtain ⟨b5, F⟩ := F
      refine mv_ial rfl (sh_177) b5 ?_
      refine mv_icmp 73 rfl rfl (fun c => ?_) (fun c => ?_)
      · have F := F.1 c
        refine ev_bk 1 (S' := (74, [some (.ref 173), some (vI x1), some (vI x2)], [vI 0, vI x2, .ref 176], hp S2, 0, 0)) rfl ?_
        exact F
      · have F := F.2 c
        exact F
theorem vc_Parts_markGone_69 {q : Nat × (Nat → Int32)} {S S' : ms} {r : Option Value} (x1 x2 y0 : Int)
    (F : EV q 234 74 [some (.ref 173), some (vI x1), some (vI x2)] [vI 1, vI y0, .ref 176] S r S') : EV q 234 69 [some (.ref 173), some (vI x1), some (vI x2)] [vI y0, .ref 176] S r S' := by
  unfold EV
  refine ev_bk 1 (S' := (70, [some (.ref 173), some (vI x1), some (vI x2)], [vI 1, vI y0, .ref 176], hp S, 0, 0)) rfl ?_
  refine mv_goto 74 rfl rfl ?_
  exact F
theorem vc_Parts_markGone_74 {q : Nat × (Nat → Int32)} {S S' : ms} {r : Option Value} (x1 x2 y0 y1 : Int)
    (F : (0 ≤ w32 y1 ∧ w32 y1 < (48 : Nat)) ∧ ∀ S2 : ms, S2 = wI S 176 (w32 y1) (y0 % 2) → (0 ≤ w32 x2 ∧ w32 x2 < (48 : Nat)) ∧ ((w32 (S2.1 176 (w32 x2)) = 0) → EV q 234 115 [some (.ref 173), some (vI x1), some (vI x2)] [] S2 r S') ∧ ((¬ w32 (S2.1 176 (w32 x2)) = 0) → ((w32 (S2.1 173 6) ≤ w32 x2) → EV q 234 115 [some (.ref 173), some (vI (x1 + 1)), some (vI x2)] [] S2 r S') ∧ ((¬ w32 (S2.1 173 6) ≤ w32 x2) → (0 ≤ w32 (S2.1 173 5) ∧ w32 (S2.1 173 5) < (32 : Nat)) ∧ ∀ S5 : ms, S5 = wI S2 178 (w32 (S2.1 173 5)) x2 → ∀ S6 : ms, S6 = wI S5 173 5 (S5.1 173 5 + 1) → EV q 234 115 [some (.ref 173), some (vI (x1 + 1)), some (vI x2)] [] S6 r S'))) : EV q 234 74 [some (.ref 173), some (vI x1), some (vI x2)] [vI y0, vI y1, .ref 176] S r S' := by
  unfold EV
  obtain ⟨b1, F⟩ := F
  refine mv_zas rfl (sh_176) b1 ?_
  have F := F _ rfl
  refine ev_bk 1 (S' := (76, [some (.ref 173), some (vI x1), some (vI x2)], [.ref 173], hp (wI S 176 (w32 y1) (y0 % 2)), 0, 0)) rfl ?_
  refine mv_gfR rfl rfl (sh_173) (by decide) rfl ?_
  refine ev_bk 1 (S' := (80, [some (.ref 173), some (vI x1), some (vI x2)], [vI x2, .ref 176], hp (wI S 176 (w32 y1) (y0 % 2)), 0, 0)) rfl ?_
  obtain ⟨b3, F⟩ := F
  refine mv_zal rfl (sh_176) b3 ?_
  refine mv_if 115 rfl rfl (fun c => ?_) (fun c => ?_)
  · have F := F.1 c
    exact F
  · have F := F.2 c
    refine mv_inc (lv' := [some (.ref 173), some (vI (x1 + 1)), some (vI x2)]) 1 1 rfl rfl rfl rfl ?_
    refine ev_bk 2 (S' := (89, [some (.ref 173), some (vI (x1 + 1)), some (vI x2)], [.ref 173, vI x2], hp (wI S 176 (w32 y1) (y0 % 2)), 0, 0)) rfl ?_
    refine mv_gfI rfl rfl (sh_173) (by decide) rfl ?_
    refine mv_icmp 115 rfl rfl (fun c => ?_) (fun c => ?_)
    · have F := F.1 c
      exact F
    · have F := F.2 c
      refine ev_bk 1 (S' := (96, [some (.ref 173), some (vI (x1 + 1)), some (vI x2)], [.ref 173], hp (wI S 176 (w32 y1) (y0 % 2)), 0, 0)) rfl ?_
      refine mv_gfR rfl rfl (sh_173) (by decide) rfl ?_
      refine ev_bk 1 (S' := (100, [some (.ref 173), some (vI (x1 + 1)), some (vI x2)], [.ref 173, .ref 178], hp (wI S 176 (w32 y1) (y0 % 2)), 0, 0)) rfl ?_
      refine mv_gfI rfl rfl (sh_173) (by decide) rfl ?_
      refine ev_bk 1 (S' := (104, [some (.ref 173), some (vI (x1 + 1)), some (vI x2)], [vI x2, vI ((wI S 176 (w32 y1) (y0 % 2)).1 173 5), .ref 178], hp (wI S 176 (w32 y1) (y0 % 2)), 0, 0)) rfl ?_
      obtain ⟨b4, F⟩ := F
      refine mv_ias rfl (sh_178) b4 ?_
      have F := F _ rfl
      refine ev_bk 2 (S' := (107, [some (.ref 173), some (vI (x1 + 1)), some (vI x2)], [.ref 173, .ref 173], hp (wI (wI S 176 (w32 y1) (y0 % 2)) 178 (w32 ((wI S 176 (w32 y1) (y0 % 2)).1 173 5)) x2), 0, 0)) rfl ?_
      refine mv_gfI rfl rfl (sh_173) (by decide) rfl ?_
      refine ev_bk 1 (S' := (111, [some (.ref 173), some (vI (x1 + 1)), some (vI x2)], [vI 1, vI ((wI (wI S 176 (w32 y1) (y0 % 2)) 178 (w32 ((wI S 176 (w32 y1) (y0 % 2)).1 173 5)) x2).1 173 5), .ref 173], hp (wI (wI S 176 (w32 y1) (y0 % 2)) 178 (w32 ((wI S 176 (w32 y1) (y0 % 2)).1 173 5)) x2), 0, 0)) rfl ?_
      refine mv_iadd rfl ?_
      refine mv_pfI rfl rfl (sh_173) (by decide) rfl rfl ?_
      have F := F _ rfl
      exact F
theorem vc_Parts_markGone_115 {q : Nat × (Nat → Int32)} {S S' : ms} {r : Option Value} (x1 x2 : Int)
    (F : EV q 234 9 [some (.ref 173), some (vI x1), some (vI (x2 + 1))] [] S r S') : EV q 234 115 [some (.ref 173), some (vI x1), some (vI x2)] [] S r S' := by
  unfold EV
  refine mv_inc (lv' := [some (.ref 173), some (vI x1), some (vI (x2 + 1))]) 2 1 rfl rfl rfl rfl ?_
  refine mv_goto 9 rfl rfl ?_
  exact F
theorem vc_Parts_haveAgain {q : Nat × (Nat → Int32)} {S S' : ms} {r : Option Value}
    (F : EV q 235 4 [some (.ref 173), some (vI 0), some (vI 0)] [] S r S') : EV q 235 0 [some (.ref 173), none, none] [] S r S' := by
  unfold EV
  refine ev_bk 4 (S' := (4, [some (.ref 173), some (vI 0), some (vI 0)], [], hp S, 0, 0)) rfl ?_
  exact F
theorem vc_Parts_haveAgain_4 {q : Nat × (Nat → Int32)} {S S' : ms} {r : Option Value} (x1 x2 : Int)
    (F : ((w32 (S.1 173 2) ≤ w32 x2) → EV q 235 50 [some (.ref 173), some (vI x1), some (vI x2)] [] S r S') ∧ ((¬ w32 (S.1 173 2) ≤ w32 x2) → ((w32 (S.1 173 5) ≤ w32 x1) → EV q 235 50 [some (.ref 173), some (vI x1), some (vI x2)] [] S r S') ∧ ((¬ w32 (S.1 173 5) ≤ w32 x1) → (0 ≤ w32 (S.1 173 6 + x2) ∧ w32 (S.1 173 6 + x2) < (48 : Nat)) ∧ ((¬ w32 (S.1 176 (w32 (S.1 173 6 + x2))) = 0) → EV q 235 44 [some (.ref 173), some (vI x1), some (vI x2)] [] S r S') ∧ ((¬ (¬ w32 (S.1 176 (w32 (S.1 173 6 + x2))) = 0)) → (0 ≤ w32 x1 ∧ w32 x1 < (16 : Nat)) ∧ ∀ S3 : ms, S3 = wI S 179 (w32 x1) x2 → EV q 235 44 [some (.ref 173), some (vI (x1 + 1)), some (vI x2)] [] S3 r S')))) : EV q 235 4 [some (.ref 173), some (vI x1), some (vI x2)] [] S r S' := by
  unfold EV
  refine ev_bk 2 (S' := (6, [some (.ref 173), some (vI x1), some (vI x2)], [.ref 173, vI x2], hp S, 0, 0)) rfl ?_
  refine mv_gfI rfl rfl (sh_173) (by decide) rfl ?_
  refine mv_icmp 50 rfl rfl (fun c => ?_) (fun c => ?_)
  · have F := F.1 c
    exact F
  · have F := F.2 c
    refine ev_bk 2 (S' := (14, [some (.ref 173), some (vI x1), some (vI x2)], [.ref 173, vI x1], hp S, 0, 0)) rfl ?_
    refine mv_gfI rfl rfl (sh_173) (by decide) rfl ?_
    refine mv_icmp 50 rfl rfl (fun c => ?_) (fun c => ?_)
    · have F := F.1 c
      exact F
    · have F := F.2 c
      refine ev_bk 1 (S' := (21, [some (.ref 173), some (vI x1), some (vI x2)], [.ref 173], hp S, 0, 0)) rfl ?_
      refine mv_gfR rfl rfl (sh_173) (by decide) rfl ?_
      refine ev_bk 1 (S' := (25, [some (.ref 173), some (vI x1), some (vI x2)], [.ref 173, .ref 176], hp S, 0, 0)) rfl ?_
      refine mv_gfI rfl rfl (sh_173) (by decide) rfl ?_
      refine ev_bk 1 (S' := (29, [some (.ref 173), some (vI x1), some (vI x2)], [vI x2, vI (S.1 173 6), .ref 176], hp S, 0, 0)) rfl ?_
      refine mv_iadd rfl ?_
      obtain ⟨b1, F⟩ := F
      refine mv_zal rfl (sh_176) b1 ?_
      refine mv_if 44 rfl rfl (fun c => ?_) (fun c => ?_)
      · have F := F.1 c
        exact F
      · have F := F.2 c
        refine ev_bk 1 (S' := (35, [some (.ref 173), some (vI x1), some (vI x2)], [.ref 173], hp S, 0, 0)) rfl ?_
        refine mv_gfR rfl rfl (sh_173) (by decide) rfl ?_
        refine ev_bk 2 (S' := (40, [some (.ref 173), some (vI x1), some (vI x2)], [vI x2, vI x1, .ref 179], hp S, 0, 0)) rfl ?_
        obtain ⟨b2, F⟩ := F
        refine mv_ias rfl (sh_179) b2 ?_
        have F := F _ rfl
        refine mv_inc (lv' := [some (.ref 173), some (vI (x1 + 1)), some (vI x2)]) 1 1 rfl rfl rfl rfl ?_
        exact F
theorem vc_Parts_haveAgain_44 {q : Nat × (Nat → Int32)} {S S' : ms} {r : Option Value} (x1 x2 : Int)
    (F : EV q 235 4 [some (.ref 173), some (vI x1), some (vI (x2 + 1))] [] S r S') : EV q 235 44 [some (.ref 173), some (vI x1), some (vI x2)] [] S r S' := by
  unfold EV
  refine mv_inc (lv' := [some (.ref 173), some (vI x1), some (vI (x2 + 1))]) 2 1 rfl rfl rfl rfl ?_
  refine mv_goto 4 rfl rfl ?_
  exact F
theorem vc_Parts_haveAgain_50 {q : Nat × (Nat → Int32)} {S S' : ms} {r : Option Value} (x1 x2 : Int)
    (F : ((¬ w32 x1 = w32 (S.1 173 5)) → EV q 235 83 [some (.ref 173), some (vI x1), some (vI x2)] [] S r S') ∧ ((¬ (¬ w32 x1 = w32 (S.1 173 5))) → ∃ (S1 : ms), EV q 236 0 [some (.ref 173), none, none, none, none, none] [] S none S1 ∧ EV q 235 64 [some (.ref 173), some (vI x1), some (vI 0)] [] S1 r S')) : EV q 235 50 [some (.ref 173), some (vI x1), some (vI x2)] [] S r S' := by
  unfold EV
  refine ev_bk 2 (S' := (52, [some (.ref 173), some (vI x1), some (vI x2)], [.ref 173, vI x1], hp S, 0, 0)) rfl ?_
  refine mv_gfI rfl rfl (sh_173) (by decide) rfl ?_
  refine mv_icmp 83 rfl rfl (fun c => ?_) (fun c => ?_)
  · have F := F.1 c
    exact F
  · have F := F.2 c
    refine ev_bk 1 (S' := (59, [some (.ref 173), some (vI x1), some (vI x2)], [.ref 173], hp S, 0, 0)) rfl ?_
    obtain ⟨S1, e2, F⟩ := F
    refine mv_calv (as := []) (rest := []) e2 (sh_173) rfl rfl rfl ⟨rfl, rfl⟩ rfl rfl rfl rfl rfl ?_
    refine ev_bk 2 (S' := (64, [some (.ref 173), some (vI x1), some (vI 0)], [], hp S1, 0, 0)) rfl ?_
    exact F
theorem vc_Parts_haveAgain_64 {q : Nat × (Nat → Int32)} {S S' : ms} {r : Option Value} (x1 x2 : Int)
    (F : ((w32 (S.1 173 3) ≤ w32 x2) → EV q 235 83 [some (.ref 173), some (vI x1), some (vI x2)] [] S r S') ∧ ((¬ w32 (S.1 173 3) ≤ w32 x2) → ∃ (S1 : ms), EV q 237 0 [some (.ref 173), some (vI x2), none, none, none] [] S none S1 ∧ EV q 235 64 [some (.ref 173), some (vI x1), some (vI (x2 + 1))] [] S1 r S')) : EV q 235 64 [some (.ref 173), some (vI x1), some (vI x2)] [] S r S' := by
  unfold EV
  refine ev_bk 2 (S' := (66, [some (.ref 173), some (vI x1), some (vI x2)], [.ref 173, vI x2], hp S, 0, 0)) rfl ?_
  refine mv_gfI rfl rfl (sh_173) (by decide) rfl ?_
  refine mv_icmp 83 rfl rfl (fun c => ?_) (fun c => ?_)
  · have F := F.1 c
    exact F
  · have F := F.2 c
    refine ev_bk 2 (S' := (74, [some (.ref 173), some (vI x1), some (vI x2)], [vI x2, .ref 173], hp S, 0, 0)) rfl ?_
    obtain ⟨S1, e2, F⟩ := F
    refine mv_calv (as := [vI x2]) (rest := []) e2 (sh_173) rfl rfl rfl ⟨rfl, rfl⟩ rfl rfl rfl rfl rfl ?_
    refine mv_inc (lv' := [some (.ref 173), some (vI x1), some (vI (x2 + 1))]) 2 1 rfl rfl rfl rfl ?_
    refine mv_goto 64 rfl rfl ?_
    exact F
theorem vc_Parts_haveAgain_83 {q : Nat × (Nat → Int32)} {S S' : ms} {r : Option Value} (x1 x2 : Int)
    (F : EV q 235 85 [some (.ref 173), some (vI x1), some (vI 0)] [] S r S') : EV q 235 83 [some (.ref 173), some (vI x1), some (vI x2)] [] S r S' := by
  unfold EV
  refine ev_bk 2 (S' := (85, [some (.ref 173), some (vI x1), some (vI 0)], [], hp S, 0, 0)) rfl ?_
  exact F
theorem vc_Parts_haveAgain_85 {q : Nat × (Nat → Int32)} {S S' : ms} {r : Option Value} (x1 x2 : Int)
    (F : ((w32 (S.1 173 2) ≤ w32 x2) → EV q 235 120 [some (.ref 173), some (vI x1), some (vI 0)] [] S r S') ∧ ((¬ w32 (S.1 173 2) ≤ w32 x2) → (0 ≤ w32 (S.1 173 6 + x2) ∧ w32 (S.1 173 6 + x2) < (48 : Nat)) ∧ ((w32 (S.1 176 (w32 (S.1 173 6 + x2))) = 0) → EV q 235 112 [some (.ref 173), some (vI x1), some (vI x2)] [] S r S') ∧ ((¬ w32 (S.1 176 (w32 (S.1 173 6 + x2))) = 0) → ∃ (S2 : ms), EV q 225 0 [some (.ref 173), some (vI x2), none, none, none, none] [] S none S2 ∧ EV q 235 112 [some (.ref 173), some (vI x1), some (vI x2)] [] S2 r S'))) : EV q 235 85 [some (.ref 173), some (vI x1), some (vI x2)] [] S r S' := by
  unfold EV
  refine ev_bk 2 (S' := (87, [some (.ref 173), some (vI x1), some (vI x2)], [.ref 173, vI x2], hp S, 0, 0)) rfl ?_
  refine mv_gfI rfl rfl (sh_173) (by decide) rfl ?_
  refine mv_icmp 118 rfl rfl (fun c => ?_) (fun c => ?_)
  · have F := F.1 c
    refine ev_bk 2 (S' := (120, [some (.ref 173), some (vI x1), some (vI 0)], [], hp S, 0, 0)) rfl ?_
    exact F
  · have F := F.2 c
    refine ev_bk 1 (S' := (94, [some (.ref 173), some (vI x1), some (vI x2)], [.ref 173], hp S, 0, 0)) rfl ?_
    refine mv_gfR rfl rfl (sh_173) (by decide) rfl ?_
    refine ev_bk 1 (S' := (98, [some (.ref 173), some (vI x1), some (vI x2)], [.ref 173, .ref 176], hp S, 0, 0)) rfl ?_
    refine mv_gfI rfl rfl (sh_173) (by decide) rfl ?_
    refine ev_bk 1 (S' := (102, [some (.ref 173), some (vI x1), some (vI x2)], [vI x2, vI (S.1 173 6), .ref 176], hp S, 0, 0)) rfl ?_
    refine mv_iadd rfl ?_
    obtain ⟨b1, F⟩ := F
    refine mv_zal rfl (sh_176) b1 ?_
    refine mv_if 112 rfl rfl (fun c => ?_) (fun c => ?_)
    · have F := F.1 c
      exact F
    · have F := F.2 c
      refine ev_bk 2 (S' := (109, [some (.ref 173), some (vI x1), some (vI x2)], [vI x2, .ref 173], hp S, 0, 0)) rfl ?_
      obtain ⟨S2, e3, F⟩ := F
      refine mv_calv (as := [vI x2]) (rest := []) e3 (sh_173) rfl rfl rfl ⟨rfl, rfl⟩ rfl rfl rfl rfl rfl ?_
      exact F
theorem vc_Parts_haveAgain_112 {q : Nat × (Nat → Int32)} {S S' : ms} {r : Option Value} (x1 x2 : Int)
    (F : EV q 235 85 [some (.ref 173), some (vI x1), some (vI (x2 + 1))] [] S r S') : EV q 235 112 [some (.ref 173), some (vI x1), some (vI x2)] [] S r S' := by
  unfold EV
  refine mv_inc (lv' := [some (.ref 173), some (vI x1), some (vI (x2 + 1))]) 2 1 rfl rfl rfl rfl ?_
  refine mv_goto 85 rfl rfl ?_
  exact F
theorem vc_Parts_haveAgain_120 {q : Nat × (Nat → Int32)} {S S' : ms} {r : Option Value} (x1 x2 : Int)
    (F : ((48 ≤ w32 x2) → r = none ∧ S' = S) ∧ ((¬ 48 ≤ w32 x2) → (0 ≤ w32 x2 ∧ w32 x2 < (48 : Nat)) ∧ ∀ S2 : ms, S2 = wI S 175 (w32 x2) (0 % 2) → EV q 235 120 [some (.ref 173), some (vI x1), some (vI (x2 + 1))] [] S2 r S')) : EV q 235 120 [some (.ref 173), some (vI x1), some (vI x2)] [] S r S' := by
  unfold EV
  refine ev_bk 2 (S' := (123, [some (.ref 173), some (vI x1), some (vI x2)], [vI 48, vI x2], hp S, 0, 0)) rfl ?_
  refine mv_icmp 139 rfl rfl (fun c => ?_) (fun c => ?_)
  · have F := F.1 c
    obtain ⟨rfl, rfl⟩ := F
    exact ev_ret rfl rfl
  · have F := F.2 c
    refine ev_bk 1 (S' := (127, [some (.ref 173), some (vI x1), some (vI x2)], [.ref 173], hp S, 0, 0)) rfl ?_
    refine mv_gfR rfl rfl (sh_173) (by decide) rfl ?_
    refine ev_bk 2 (S' := (132, [some (.ref 173), some (vI x1), some (vI x2)], [vI 0, vI x2, .ref 175], hp S, 0, 0)) rfl ?_
    obtain ⟨b1, F⟩ := F
    refine mv_zas rfl (sh_175) b1 ?_
    have F := F _ rfl
    refine mv_inc (lv' := [some (.ref 173), some (vI x1), some (vI (x2 + 1))]) 2 1 rfl rfl rfl rfl ?_
    refine mv_goto 120 rfl rfl ?_
    exact F
theorem vc_Parts_turnMatrix {q : Nat × (Nat → Int32)} {S S' : ms} {r : Option Value}
    (F : ∃ (S1 : ms), EV q 11 0 [some (.ref 181), some (vI 0), none, none] [] S none S1 ∧ EV q 236 10 [some (.ref 173), some (vI 0), none, none, none, none] [] S1 r S') : EV q 236 0 [some (.ref 173), none, none, none, none, none] [] S r S' := by
  unfold EV
  refine ev_bk 1 (S' := (1, [some (.ref 173), none, none, none, none, none], [.ref 173], hp S, 0, 0)) rfl ?_
  refine mv_gfR rfl rfl (sh_173) (by decide) rfl ?_
  refine ev_bk 1 (S' := (5, [some (.ref 173), none, none, none, none, none], [vI 0, .ref 181], hp S, 0, 0)) rfl ?_
  obtain ⟨S1, e2, F⟩ := F
  refine mv_cals (as := [.ref 181, vI 0]) (rest := []) e2 rfl rfl rfl ⟨rfl, rfl, rfl⟩ rfl rfl rfl rfl ?_
  refine ev_bk 2 (S' := (10, [some (.ref 173), some (vI 0), none, none, none, none], [], hp S1, 0, 0)) rfl ?_
  exact F
theorem vc_Parts_turnMatrix_10 {q : Nat × (Nat → Int32)} {S S' : ms} {r : Option Value} (x1 : Int)
    (F : ((w32 (S.1 173 5) ≤ w32 x1) → EV q 236 84 [some (.ref 173), some (vI 0), none, none, none, none] [] S r S') ∧ ((¬ w32 (S.1 173 5) ≤ w32 x1) → EV q 236 20 [some (.ref 173), some (vI x1), some (vI 0), none, none, none] [] S r S')) : EV q 236 10 [some (.ref 173), some (vI x1), none, none, none, none] [] S r S' := by
  unfold EV
  refine ev_bk 2 (S' := (12, [some (.ref 173), some (vI x1), none, none, none, none], [.ref 173, vI x1], hp S, 0, 0)) rfl ?_
  refine mv_gfI rfl rfl (sh_173) (by decide) rfl ?_
  refine mv_icmp 82 rfl rfl (fun c => ?_) (fun c => ?_)
  · have F := F.1 c
    refine ev_bk 2 (S' := (84, [some (.ref 173), some (vI 0), none, none, none, none], [], hp S, 0, 0)) rfl ?_
    exact F
  · have F := F.2 c
    refine ev_bk 2 (S' := (20, [some (.ref 173), some (vI x1), some (vI 0), none, none, none], [], hp S, 0, 0)) rfl ?_
    exact F
theorem vc_Parts_turnMatrix_20 {q : Nat × (Nat → Int32)} {S S' : ms} {r : Option Value} (x1 x2 : Int)
    (F : ((w32 (S.1 173 5) ≤ w32 x2) → (0 ≤ w32 (((x1 * 32) + 16) + x1) ∧ w32 (((x1 * 32) + 16) + x1) < (512 : Nat)) ∧ ∀ S2 : ms, S2 = wI S 181 (w32 (((x1 * 32) + 16) + x1)) 1 → EV q 236 10 [some (.ref 173), some (vI (x1 + 1)), none, none, none, none] [] S2 r S') ∧ ((¬ w32 (S.1 173 5) ≤ w32 x2) → (0 ≤ w32 x2 ∧ w32 x2 < (32 : Nat)) ∧ (0 ≤ w32 x1 ∧ w32 x1 < (16 : Nat)) ∧ ∃ (z7 : Int) (S5 : ms), EV q 226 0 [some (.ref 173), some (vI (S.1 178 (w32 x2))), some (vI (S.1 179 (w32 x1)))] [] S (some (vI z7)) S5 ∧ (0 ≤ w32 ((x1 * 32) + x2) ∧ w32 ((x1 * 32) + x2) < (512 : Nat)) ∧ ∀ S9 : ms, S9 = wI S5 181 (w32 ((x1 * 32) + x2)) z7 → EV q 236 20 [some (.ref 173), some (vI x1), some (vI (x2 + 1)), none, none, none] [] S9 r S')) : EV q 236 20 [some (.ref 173), some (vI x1), some (vI x2), none, none, none] [] S r S' := by
  unfold EV
  refine ev_bk 2 (S' := (22, [some (.ref 173), some (vI x1), some (vI x2), none, none, none], [.ref 173, vI x2], hp S, 0, 0)) rfl ?_
  refine mv_gfI rfl rfl (sh_173) (by decide) rfl ?_
  refine mv_icmp 61 rfl rfl (fun c => ?_) (fun c => ?_)
  · have F := F.1 c
    refine ev_bk 1 (S' := (62, [some (.ref 173), some (vI x1), some (vI x2), none, none, none], [.ref 173], hp S, 0, 0)) rfl ?_
    refine mv_gfR rfl rfl (sh_173) (by decide) rfl ?_
    refine ev_bk 2 (S' := (68, [some (.ref 173), some (vI x1), some (vI x2), none, none, none], [vI 32, vI x1, .ref 181], hp S, 0, 0)) rfl ?_
    refine mv_imul rfl ?_
    refine ev_bk 1 (S' := (71, [some (.ref 173), some (vI x1), some (vI x2), none, none, none], [vI 16, vI (x1 * 32), .ref 181], hp S, 0, 0)) rfl ?_
    refine mv_iadd rfl ?_
    refine ev_bk 1 (S' := (73, [some (.ref 173), some (vI x1), some (vI x2), none, none, none], [vI x1, vI ((x1 * 32) + 16), .ref 181], hp S, 0, 0)) rfl ?_
    refine mv_iadd rfl ?_
    refine ev_bk 1 (S' := (75, [some (.ref 173), some (vI x1), some (vI x2), none, none, none], [vI 1, vI (((x1 * 32) + 16) + x1), .ref 181], hp S, 0, 0)) rfl ?_
    obtain ⟨b1, F⟩ := F
    refine mv_ias rfl (sh_181) b1 ?_
    have F := F _ rfl
    refine mv_inc (lv' := [some (.ref 173), some (vI (x1 + 1)), some (vI x2), none, none, none]) 1 1 rfl rfl rfl rfl ?_
    refine mv_goto 10 rfl rfl ?_
    exact ev_wk (le_s (le_s (le_n (le_s (le_s (le_s le_0)))))) F
  · have F := F.2 c
    refine ev_bk 1 (S' := (29, [some (.ref 173), some (vI x1), some (vI x2), none, none, none], [.ref 173], hp S, 0, 0)) rfl ?_
    refine mv_gfR rfl rfl (sh_173) (by decide) rfl ?_
    refine ev_bk 2 (S' := (35, [some (.ref 173), some (vI x1), some (vI x2), none, none, none], [vI 32, vI x1, .ref 181], hp S, 0, 0)) rfl ?_
    refine mv_imul rfl ?_
    refine ev_bk 1 (S' := (37, [some (.ref 173), some (vI x1), some (vI x2), none, none, none], [vI x2, vI (x1 * 32), .ref 181], hp S, 0, 0)) rfl ?_
    refine mv_iadd rfl ?_
    refine ev_bk 2 (S' := (40, [some (.ref 173), some (vI x1), some (vI x2), none, none, none], [.ref 173, .ref 173, vI ((x1 * 32) + x2), .ref 181], hp S, 0, 0)) rfl ?_
    refine mv_gfR rfl rfl (sh_173) (by decide) rfl ?_
    refine ev_bk 1 (S' := (44, [some (.ref 173), some (vI x1), some (vI x2), none, none, none], [vI x2, .ref 178, .ref 173, vI ((x1 * 32) + x2), .ref 181], hp S, 0, 0)) rfl ?_
    obtain ⟨b3, F⟩ := F
    refine mv_ial rfl (sh_178) b3 ?_
    refine ev_bk 1 (S' := (46, [some (.ref 173), some (vI x1), some (vI x2), none, none, none], [.ref 173, vI (S.1 178 (w32 x2)), .ref 173, vI ((x1 * 32) + x2), .ref 181], hp S, 0, 0)) rfl ?_
    refine mv_gfR rfl rfl (sh_173) (by decide) rfl ?_
    refine ev_bk 1 (S' := (50, [some (.ref 173), some (vI x1), some (vI x2), none, none, none], [vI x1, .ref 179, vI (S.1 178 (w32 x2)), .ref 173, vI ((x1 * 32) + x2), .ref 181], hp S, 0, 0)) rfl ?_
    obtain ⟨b4, F⟩ := F
    refine mv_ial rfl (sh_179) b4 ?_
    obtain ⟨z7, S5, e6, F⟩ := F
    refine mv_calv (as := [vI (S.1 178 (w32 x2)), vI (S.1 179 (w32 x1))]) (rest := [vI ((x1 * 32) + x2), .ref 181]) e6 (sh_173) rfl rfl rfl ⟨rfl, rfl⟩ rfl rfl rfl rfl rfl ?_
    obtain ⟨b8, F⟩ := F
    refine mv_ias rfl (sh_181) b8 ?_
    have F := F _ rfl
    refine mv_inc (lv' := [some (.ref 173), some (vI x1), some (vI (x2 + 1)), none, none, none]) 2 1 rfl rfl rfl rfl ?_
    refine mv_goto 20 rfl rfl ?_
    exact F
theorem vc_Parts_turnMatrix_84 {q : Nat × (Nat → Int32)} {S S' : ms} {r : Option Value} (x1 : Int)
    (F : ((w32 (S.1 173 5) ≤ w32 x1) → r = none ∧ S' = S) ∧ ((¬ w32 (S.1 173 5) ≤ w32 x1) → (0 ≤ w32 ((x1 * 32) + x1) ∧ w32 ((x1 * 32) + x1) < (512 : Nat)) ∧ ∃ (z4 : Int) (S2 : ms), EV q 227 0 [some (.ref 173), some (vI (S.1 181 (w32 ((x1 * 32) + x1))))] [] S (some (vI z4)) S2 ∧ EV q 236 110 [some (.ref 173), some (vI x1), some (vI z4), some (vI 0), none, none] [] S2 r S')) : EV q 236 84 [some (.ref 173), some (vI x1), none, none, none, none] [] S r S' := by
  unfold EV
  refine ev_bk 2 (S' := (86, [some (.ref 173), some (vI x1), none, none, none, none], [.ref 173, vI x1], hp S, 0, 0)) rfl ?_
  refine mv_gfI rfl rfl (sh_173) (by decide) rfl ?_
  refine mv_icmp 247 rfl rfl (fun c => ?_) (fun c => ?_)
  · have F := F.1 c
    obtain ⟨rfl, rfl⟩ := F
    exact ev_ret rfl rfl
  · have F := F.2 c
    refine ev_bk 2 (S' := (94, [some (.ref 173), some (vI x1), none, none, none, none], [.ref 173, .ref 173], hp S, 0, 0)) rfl ?_
    refine mv_gfR rfl rfl (sh_173) (by decide) rfl ?_
    refine ev_bk 2 (S' := (100, [some (.ref 173), some (vI x1), none, none, none, none], [vI 32, vI x1, .ref 181, .ref 173], hp S, 0, 0)) rfl ?_
    refine mv_imul rfl ?_
    refine ev_bk 1 (S' := (102, [some (.ref 173), some (vI x1), none, none, none, none], [vI x1, vI (x1 * 32), .ref 181, .ref 173], hp S, 0, 0)) rfl ?_
    refine mv_iadd rfl ?_
    obtain ⟨b1, F⟩ := F
    refine mv_ial rfl (sh_181) b1 ?_
    obtain ⟨z4, S2, e3, F⟩ := F
    refine mv_calv (as := [vI (S.1 181 (w32 ((x1 * 32) + x1)))]) (rest := []) e3 (sh_173) rfl rfl rfl ⟨rfl, rfl⟩ rfl rfl rfl rfl rfl ?_
    refine ev_bk 3 (S' := (110, [some (.ref 173), some (vI x1), some (vI z4), some (vI 0), none, none], [], hp S2, 0, 0)) rfl ?_
    exact F
theorem vc_Parts_turnMatrix_110 {q : Nat × (Nat → Int32)} {S S' : ms} {r : Option Value} (x1 x2 x3 : Int)
    (F : ((32 ≤ w32 x3) → EV q 236 151 [some (.ref 173), some (vI x1), some (vI x2), some (vI 0), none, none] [] S r S') ∧ ((¬ 32 ≤ w32 x3) → (0 ≤ w32 ((x1 * 32) + x3) ∧ w32 ((x1 * 32) + x3) < (512 : Nat)) ∧ ∃ (z4 : Int) (S2 : ms), EV q 228 0 [some (.ref 173), some (vI (S.1 181 (w32 ((x1 * 32) + x3)))), some (vI x2)] [] S (some (vI z4)) S2 ∧ (0 ≤ w32 ((x1 * 32) + x3) ∧ w32 ((x1 * 32) + x3) < (512 : Nat)) ∧ ∀ S6 : ms, S6 = wI S2 181 (w32 ((x1 * 32) + x3)) z4 → EV q 236 110 [some (.ref 173), some (vI x1), some (vI x2), some (vI (x3 + 1)), none, none] [] S6 r S')) : EV q 236 110 [some (.ref 173), some (vI x1), some (vI x2), some (vI x3), none, none] [] S r S' := by
  unfold EV
  refine ev_bk 2 (S' := (113, [some (.ref 173), some (vI x1), some (vI x2), some (vI x3), none, none], [vI 32, vI x3], hp S, 0, 0)) rfl ?_
  refine mv_icmp 149 rfl rfl (fun c => ?_) (fun c => ?_)
  · have F := F.1 c
    refine ev_bk 2 (S' := (151, [some (.ref 173), some (vI x1), some (vI x2), some (vI 0), none, none], [], hp S, 0, 0)) rfl ?_
    exact F
  · have F := F.2 c
    refine ev_bk 1 (S' := (117, [some (.ref 173), some (vI x1), some (vI x2), some (vI x3), none, none], [.ref 173], hp S, 0, 0)) rfl ?_
    refine mv_gfR rfl rfl (sh_173) (by decide) rfl ?_
    refine ev_bk 2 (S' := (123, [some (.ref 173), some (vI x1), some (vI x2), some (vI x3), none, none], [vI 32, vI x1, .ref 181], hp S, 0, 0)) rfl ?_
    refine mv_imul rfl ?_
    refine ev_bk 1 (S' := (125, [some (.ref 173), some (vI x1), some (vI x2), some (vI x3), none, none], [vI x3, vI (x1 * 32), .ref 181], hp S, 0, 0)) rfl ?_
    refine mv_iadd rfl ?_
    refine ev_bk 2 (S' := (128, [some (.ref 173), some (vI x1), some (vI x2), some (vI x3), none, none], [.ref 173, .ref 173, vI ((x1 * 32) + x3), .ref 181], hp S, 0, 0)) rfl ?_
    refine mv_gfR rfl rfl (sh_173) (by decide) rfl ?_
    refine ev_bk 2 (S' := (134, [some (.ref 173), some (vI x1), some (vI x2), some (vI x3), none, none], [vI 32, vI x1, .ref 181, .ref 173, vI ((x1 * 32) + x3), .ref 181], hp S, 0, 0)) rfl ?_
    refine mv_imul rfl ?_
    refine ev_bk 1 (S' := (136, [some (.ref 173), some (vI x1), some (vI x2), some (vI x3), none, none], [vI x3, vI (x1 * 32), .ref 181, .ref 173, vI ((x1 * 32) + x3), .ref 181], hp S, 0, 0)) rfl ?_
    refine mv_iadd rfl ?_
    obtain ⟨b1, F⟩ := F
    refine mv_ial rfl (sh_181) b1 ?_
    refine ev_bk 1 (S' := (139, [some (.ref 173), some (vI x1), some (vI x2), some (vI x3), none, none], [vI x2, vI (S.1 181 (w32 ((x1 * 32) + x3))), .ref 173, vI ((x1 * 32) + x3), .ref 181], hp S, 0, 0)) rfl ?_
    obtain ⟨z4, S2, e3, F⟩ := F
    refine mv_calv (as := [vI (S.1 181 (w32 ((x1 * 32) + x3))), vI x2]) (rest := [vI ((x1 * 32) + x3), .ref 181]) e3 (sh_173) rfl rfl rfl ⟨rfl, rfl⟩ rfl rfl rfl rfl rfl ?_
    obtain ⟨b5, F⟩ := F
    refine mv_ias rfl (sh_181) b5 ?_
    have F := F _ rfl
    refine mv_inc (lv' := [some (.ref 173), some (vI x1), some (vI x2), some (vI (x3 + 1)), none, none]) 3 1 rfl rfl rfl rfl ?_
    refine mv_goto 110 rfl rfl ?_
    exact F
theorem vc_Parts_turnMatrix_151 {q : Nat × (Nat → Int32)} {S S' : ms} {r : Option Value} (x1 x2 x3 : Int)
    (F : ((w32 (S.1 173 5) ≤ w32 x3) → EV q 236 84 [some (.ref 173), some (vI (x1 + 1)), none, none, none, none] [] S r S') ∧ ((¬ w32 (S.1 173 5) ≤ w32 x3) → ((¬ w32 x3 = w32 x1) → (0 ≤ w32 ((x3 * 32) + x1) ∧ w32 ((x3 * 32) + x1) < (512 : Nat)) ∧ EV q 236 179 [some (.ref 173), some (vI x1), some (vI x2), some (vI x3), none, none] [vI (S.1 181 (w32 ((x3 * 32) + x1)))] S r S') ∧ ((¬ (¬ w32 x3 = w32 x1)) → EV q 236 179 [some (.ref 173), some (vI x1), some (vI x2), some (vI x3), none, none] [vI 0] S r S'))) : EV q 236 151 [some (.ref 173), some (vI x1), some (vI x2), some (vI x3), none, none] [] S r S' := by
  unfold EV
  refine ev_bk 2 (S' := (153, [some (.ref 173), some (vI x1), some (vI x2), some (vI x3), none, none], [.ref 173, vI x3], hp S, 0, 0)) rfl ?_
  refine mv_gfI rfl rfl (sh_173) (by decide) rfl ?_
  refine mv_icmp 241 rfl rfl (fun c => ?_) (fun c => ?_)
  · have F := F.1 c
    refine mv_inc (lv' := [some (.ref 173), some (vI (x1 + 1)), some (vI x2), some (vI x3), none, none]) 1 1 rfl rfl rfl rfl ?_
    refine mv_goto 84 rfl rfl ?_
    exact ev_wk (le_s (le_s (le_n (le_n (le_s (le_s le_0)))))) F
  · have F := F.2 c
    refine ev_bk 2 (S' := (161, [some (.ref 173), some (vI x1), some (vI x2), some (vI x3), none, none], [vI x1, vI x3], hp S, 0, 0)) rfl ?_
    refine mv_icmp 168 rfl rfl (fun c => ?_) (fun c => ?_)
    · have F := F.1 c
      refine ev_bk 1 (S' := (169, [some (.ref 173), some (vI x1), some (vI x2), some (vI x3), none, none], [.ref 173], hp S, 0, 0)) rfl ?_
      refine mv_gfR rfl rfl (sh_173) (by decide) rfl ?_
      refine ev_bk 2 (S' := (175, [some (.ref 173), some (vI x1), some (vI x2), some (vI x3), none, none], [vI 32, vI x3, .ref 181], hp S, 0, 0)) rfl ?_
      refine mv_imul rfl ?_
      refine ev_bk 1 (S' := (177, [some (.ref 173), some (vI x1), some (vI x2), some (vI x3), none, none], [vI x1, vI (x3 * 32), .ref 181], hp S, 0, 0)) rfl ?_
      refine mv_iadd rfl ?_
      obtain ⟨b1, F⟩ := F
      refine mv_ial rfl (sh_181) b1 ?_
      exact F
    · have F := F.2 c
      refine ev_bk 1 (S' := (165, [some (.ref 173), some (vI x1), some (vI x2), some (vI x3), none, none], [vI 0], hp S, 0, 0)) rfl ?_
      refine mv_goto 179 rfl rfl ?_
      exact F
theorem vc_Parts_turnMatrix_179 {q : Nat × (Nat → Int32)} {S S' : ms} {r : Option Value} (x1 x2 x3 y0 : Int)
    (F : EV q 236 184 [some (.ref 173), some (vI x1), some (vI x2), some (vI x3), some (vI y0), some (vI 0)] [] S r S') : EV q 236 179 [some (.ref 173), some (vI x1), some (vI x2), some (vI x3), none, none] [vI y0] S r S' := by
  unfold EV
  refine ev_bk 3 (S' := (184, [some (.ref 173), some (vI x1), some (vI x2), some (vI x3), some (vI y0), some (vI 0)], [], hp S, 0, 0)) rfl ?_
  exact F
theorem vc_Parts_turnMatrix_184 {q : Nat × (Nat → Int32)} {S S' : ms} {r : Option Value} (x1 x2 x3 x4 x5 : Int)
    (F : ((32 ≤ w32 x5) → EV q 236 235 [some (.ref 173), some (vI x1), some (vI x2), some (vI x3), some (vI x4), some (vI x5)] [] S r S') ∧ ((¬ 32 ≤ w32 x5) → ((w32 x4 = 0) → EV q 236 235 [some (.ref 173), some (vI x1), some (vI x2), some (vI x3), some (vI x4), some (vI x5)] [] S r S') ∧ ((¬ w32 x4 = 0) → (0 ≤ w32 ((x3 * 32) + x5) ∧ w32 ((x3 * 32) + x5) < (512 : Nat)) ∧ (0 ≤ w32 ((x1 * 32) + x5) ∧ w32 ((x1 * 32) + x5) < (512 : Nat)) ∧ ∃ (z5 : Int) (S3 : ms), EV q 228 0 [some (.ref 173), some (vI (S.1 181 (w32 ((x1 * 32) + x5)))), some (vI x4)] [] S (some (vI z5)) S3 ∧ (0 ≤ w32 ((x3 * 32) + x5) ∧ w32 ((x3 * 32) + x5) < (512 : Nat)) ∧ ∀ S7 : ms, S7 = wI S3 181 (w32 ((x3 * 32) + x5)) (bX (S.1 181 (w32 ((x3 * 32) + x5))) z5) → EV q 236 184 [some (.ref 173), some (vI x1), some (vI x2), some (vI x3), some (vI x4), some (vI (x5 + 1))] [] S7 r S'))) : EV q 236 184 [some (.ref 173), some (vI x1), some (vI x2), some (vI x3), some (vI x4), some (vI x5)] [] S r S' := by
  unfold EV
  refine ev_bk 2 (S' := (188, [some (.ref 173), some (vI x1), some (vI x2), some (vI x3), some (vI x4), some (vI x5)], [vI 32, vI x5], hp S, 0, 0)) rfl ?_
  refine mv_icmp 235 rfl rfl (fun c => ?_) (fun c => ?_)
  · have F := F.1 c
    exact F
  · have F := F.2 c
    refine ev_bk 1 (S' := (193, [some (.ref 173), some (vI x1), some (vI x2), some (vI x3), some (vI x4), some (vI x5)], [vI x4], hp S, 0, 0)) rfl ?_
    refine mv_if 235 rfl rfl (fun c => ?_) (fun c => ?_)
    · have F := F.1 c
      exact F
    · have F := F.2 c
      refine ev_bk 1 (S' := (197, [some (.ref 173), some (vI x1), some (vI x2), some (vI x3), some (vI x4), some (vI x5)], [.ref 173], hp S, 0, 0)) rfl ?_
      refine mv_gfR rfl rfl (sh_173) (by decide) rfl ?_
      refine ev_bk 2 (S' := (203, [some (.ref 173), some (vI x1), some (vI x2), some (vI x3), some (vI x4), some (vI x5)], [vI 32, vI x3, .ref 181], hp S, 0, 0)) rfl ?_
      refine mv_imul rfl ?_
      refine ev_bk 1 (S' := (206, [some (.ref 173), some (vI x1), some (vI x2), some (vI x3), some (vI x4), some (vI x5)], [vI x5, vI (x3 * 32), .ref 181], hp S, 0, 0)) rfl ?_
      refine mv_iadd rfl ?_
      refine ev_bk 1 (S' := (208, [some (.ref 173), some (vI x1), some (vI x2), some (vI x3), some (vI x4), some (vI x5)], [vI ((x3 * 32) + x5), .ref 181, vI ((x3 * 32) + x5), .ref 181], hp S, 0, 0)) rfl ?_
      obtain ⟨b1, F⟩ := F
      refine mv_ial rfl (sh_181) b1 ?_
      refine ev_bk 2 (S' := (211, [some (.ref 173), some (vI x1), some (vI x2), some (vI x3), some (vI x4), some (vI x5)], [.ref 173, .ref 173, vI (S.1 181 (w32 ((x3 * 32) + x5))), vI ((x3 * 32) + x5), .ref 181], hp S, 0, 0)) rfl ?_
      refine mv_gfR rfl rfl (sh_173) (by decide) rfl ?_
      refine ev_bk 2 (S' := (217, [some (.ref 173), some (vI x1), some (vI x2), some (vI x3), some (vI x4), some (vI x5)], [vI 32, vI x1, .ref 181, .ref 173, vI (S.1 181 (w32 ((x3 * 32) + x5))), vI ((x3 * 32) + x5), .ref 181], hp S, 0, 0)) rfl ?_
      refine mv_imul rfl ?_
      refine ev_bk 1 (S' := (220, [some (.ref 173), some (vI x1), some (vI x2), some (vI x3), some (vI x4), some (vI x5)], [vI x5, vI (x1 * 32), .ref 181, .ref 173, vI (S.1 181 (w32 ((x3 * 32) + x5))), vI ((x3 * 32) + x5), .ref 181], hp S, 0, 0)) rfl ?_
      refine mv_iadd rfl ?_
      obtain ⟨b2, F⟩ := F
      refine mv_ial rfl (sh_181) b2 ?_
      refine ev_bk 1 (S' := (224, [some (.ref 173), some (vI x1), some (vI x2), some (vI x3), some (vI x4), some (vI x5)], [vI x4, vI (S.1 181 (w32 ((x1 * 32) + x5))), .ref 173, vI (S.1 181 (w32 ((x3 * 32) + x5))), vI ((x3 * 32) + x5), .ref 181], hp S, 0, 0)) rfl ?_
      obtain ⟨z5, S3, e4, F⟩ := F
      refine mv_calv (as := [vI (S.1 181 (w32 ((x1 * 32) + x5))), vI x4]) (rest := [vI (S.1 181 (w32 ((x3 * 32) + x5))), vI ((x3 * 32) + x5), .ref 181]) e4 (sh_173) rfl rfl rfl ⟨rfl, rfl⟩ rfl rfl rfl rfl rfl ?_
      refine mv_ixor rfl ?_
      obtain ⟨b6, F⟩ := F
      refine mv_ias rfl (sh_181) b6 ?_
      have F := F _ rfl
      refine mv_inc (lv' := [some (.ref 173), some (vI x1), some (vI x2), some (vI x3), some (vI x4), some (vI (x5 + 1))]) 5 1 rfl rfl rfl rfl ?_
      refine mv_goto 184 rfl rfl ?_
      exact F
theorem vc_Parts_turnMatrix_235 {q : Nat × (Nat → Int32)} {S S' : ms} {r : Option Value} (x1 x2 x3 x4 x5 : Int)
    (F : EV q 236 151 [some (.ref 173), some (vI x1), some (vI x2), some (vI (x3 + 1)), none, none] [] S r S') : EV q 236 235 [some (.ref 173), some (vI x1), some (vI x2), some (vI x3), some (vI x4), some (vI x5)] [] S r S' := by
  unfold EV
  refine mv_inc (lv' := [some (.ref 173), some (vI x1), some (vI x2), some (vI (x3 + 1)), some (vI x4), some (vI x5)]) 3 1 rfl rfl rfl rfl ?_
  refine mv_goto 151 rfl rfl ?_
  exact ev_wk (le_s (le_s (le_s (le_s (le_n (le_n le_0)))))) F
theorem vc_Parts_octetAgain {q : Nat × (Nat → Int32)} {S S' : ms} {r : Option Value} (x1 : Int)
    (F : EV q 237 2 [some (.ref 173), some (vI x1), some (vI 0), none, none] [] S r S') : EV q 237 0 [some (.ref 173), some (vI x1), none, none, none] [] S r S' := by
  unfold EV
  refine ev_bk 2 (S' := (2, [some (.ref 173), some (vI x1), some (vI 0), none, none], [], hp S, 0, 0)) rfl ?_
  exact F
theorem vc_Parts_octetAgain_2 {q : Nat × (Nat → Int32)} {S S' : ms} {r : Option Value} (x1 x2 : Int)
    (F : ((w32 (S.1 173 5) ≤ w32 x2) → EV q 237 110 [some (.ref 173), some (vI x1), some (vI 0), none, none] [] S r S') ∧ ((¬ w32 (S.1 173 5) ≤ w32 x2) → (0 ≤ w32 x2 ∧ w32 x2 < (16 : Nat)) ∧ (0 ≤ w32 (((S.1 173 6 + (S.1 179 (w32 x2))) * (S.1 173 3)) + x1) ∧ w32 (((S.1 173 6 + (S.1 179 (w32 x2))) * (S.1 173 3)) + x1) < (102000 : Nat)) ∧ EV q 237 37 [some (.ref 173), some (vI x1), some (vI x2), some (vI (S.1 174 (w32 (((S.1 173 6 + (S.1 179 (w32 x2))) * (S.1 173 3)) + x1)))), some (vI 0)] [] S r S')) : EV q 237 2 [some (.ref 173), some (vI x1), some (vI x2), none, none] [] S r S' := by
  unfold EV
  refine ev_bk 2 (S' := (4, [some (.ref 173), some (vI x1), some (vI x2), none, none], [.ref 173, vI x2], hp S, 0, 0)) rfl ?_
  refine mv_gfI rfl rfl (sh_173) (by decide) rfl ?_
  refine mv_icmp 108 rfl rfl (fun c => ?_) (fun c => ?_)
  · have F := F.1 c
    refine ev_bk 2 (S' := (110, [some (.ref 173), some (vI x1), some (vI 0), none, none], [], hp S, 0, 0)) rfl ?_
    exact F
  · have F := F.2 c
    refine ev_bk 1 (S' := (11, [some (.ref 173), some (vI x1), some (vI x2), none, none], [.ref 173], hp S, 0, 0)) rfl ?_
    refine mv_gfR rfl rfl (sh_173) (by decide) rfl ?_
    refine ev_bk 1 (S' := (15, [some (.ref 173), some (vI x1), some (vI x2), none, none], [.ref 173, .ref 174], hp S, 0, 0)) rfl ?_
    refine mv_gfI rfl rfl (sh_173) (by decide) rfl ?_
    refine ev_bk 1 (S' := (19, [some (.ref 173), some (vI x1), some (vI x2), none, none], [.ref 173, vI (S.1 173 6), .ref 174], hp S, 0, 0)) rfl ?_
    refine mv_gfR rfl rfl (sh_173) (by decide) rfl ?_
    refine ev_bk 1 (S' := (23, [some (.ref 173), some (vI x1), some (vI x2), none, none], [vI x2, .ref 179, vI (S.1 173 6), .ref 174], hp S, 0, 0)) rfl ?_
    obtain ⟨b1, F⟩ := F
    refine mv_ial rfl (sh_179) b1 ?_
    refine mv_iadd rfl ?_
    refine ev_bk 1 (S' := (26, [some (.ref 173), some (vI x1), some (vI x2), none, none], [.ref 173, vI (S.1 173 6 + (S.1 179 (w32 x2))), .ref 174], hp S, 0, 0)) rfl ?_
    refine mv_gfI rfl rfl (sh_173) (by decide) rfl ?_
    refine mv_imul rfl ?_
    refine ev_bk 1 (S' := (31, [some (.ref 173), some (vI x1), some (vI x2), none, none], [vI x1, vI ((S.1 173 6 + (S.1 179 (w32 x2))) * (S.1 173 3)), .ref 174], hp S, 0, 0)) rfl ?_
    refine mv_iadd rfl ?_
    obtain ⟨b2, F⟩ := F
    refine mv_ial rfl (sh_174) b2 ?_
    refine ev_bk 3 (S' := (37, [some (.ref 173), some (vI x1), some (vI x2), some (vI (S.1 174 (w32 (((S.1 173 6 + (S.1 179 (w32 x2))) * (S.1 173 3)) + x1)))), some (vI 0)], [], hp S, 0, 0)) rfl ?_
    exact F
theorem vc_Parts_octetAgain_37 {q : Nat × (Nat → Int32)} {S S' : ms} {r : Option Value} (x1 x2 x3 x4 : Int)
    (F : ((w32 (S.1 173 6) ≤ w32 x4) → (0 ≤ w32 x2 ∧ w32 x2 < (16 : Nat)) ∧ ∀ S2 : ms, S2 = wI S 180 (w32 x2) x3 → EV q 237 2 [some (.ref 173), some (vI x1), some (vI (x2 + 1)), none, none] [] S2 r S') ∧ ((¬ w32 (S.1 173 6) ≤ w32 x4) → (0 ≤ w32 x4 ∧ w32 x4 < (48 : Nat)) ∧ ((¬ w32 (S.1 176 (w32 x4)) = 0) → EV q 237 89 [some (.ref 173), some (vI x1), some (vI x2), some (vI x3), some (vI x4)] [] S r S') ∧ ((¬ (¬ w32 (S.1 176 (w32 x4)) = 0)) → (0 ≤ w32 ((x4 * (S.1 173 3)) + x1) ∧ w32 ((x4 * (S.1 173 3)) + x1) < (102000 : Nat)) ∧ (0 ≤ w32 x2 ∧ w32 x2 < (16 : Nat)) ∧ ∃ (z8 : Int) (S6 : ms), EV q 226 0 [some (.ref 173), some (vI x4), some (vI (S.1 179 (w32 x2)))] [] S (some (vI z8)) S6 ∧ ∃ (z11 : Int) (S9 : ms), EV q 228 0 [some (.ref 173), some (vI (S.1 174 (w32 ((x4 * (S.1 173 3)) + x1)))), some (vI z8)] [] S6 (some (vI z11)) S9 ∧ EV q 237 89 [some (.ref 173), some (vI x1), some (vI x2), some (vI (bX x3 z11)), some (vI x4)] [] S9 r S'))) : EV q 237 37 [some (.ref 173), some (vI x1), some (vI x2), some (vI x3), some (vI x4)] [] S r S' := by
  unfold EV
  refine ev_bk 2 (S' := (40, [some (.ref 173), some (vI x1), some (vI x2), some (vI x3), some (vI x4)], [.ref 173, vI x4], hp S, 0, 0)) rfl ?_
  refine mv_gfI rfl rfl (sh_173) (by decide) rfl ?_
  refine mv_icmp 95 rfl rfl (fun c => ?_) (fun c => ?_)
  · have F := F.1 c
    refine ev_bk 1 (S' := (96, [some (.ref 173), some (vI x1), some (vI x2), some (vI x3), some (vI x4)], [.ref 173], hp S, 0, 0)) rfl ?_
    refine mv_gfR rfl rfl (sh_173) (by decide) rfl ?_
    refine ev_bk 2 (S' := (101, [some (.ref 173), some (vI x1), some (vI x2), some (vI x3), some (vI x4)], [vI x3, vI x2, .ref 180], hp S, 0, 0)) rfl ?_
    obtain ⟨b1, F⟩ := F
    refine mv_ias rfl (sh_180) b1 ?_
    have F := F _ rfl
    refine mv_inc (lv' := [some (.ref 173), some (vI x1), some (vI (x2 + 1)), some (vI x3), some (vI x4)]) 2 1 rfl rfl rfl rfl ?_
    refine mv_goto 2 rfl rfl ?_
    exact ev_wk (le_s (le_s (le_s (le_n (le_n le_0))))) F
  · have F := F.2 c
    refine ev_bk 1 (S' := (47, [some (.ref 173), some (vI x1), some (vI x2), some (vI x3), some (vI x4)], [.ref 173], hp S, 0, 0)) rfl ?_
    refine mv_gfR rfl rfl (sh_173) (by decide) rfl ?_
    refine ev_bk 1 (S' := (52, [some (.ref 173), some (vI x1), some (vI x2), some (vI x3), some (vI x4)], [vI x4, .ref 176], hp S, 0, 0)) rfl ?_
    obtain ⟨b3, F⟩ := F
    refine mv_zal rfl (sh_176) b3 ?_
    refine mv_if 89 rfl rfl (fun c => ?_) (fun c => ?_)
    · have F := F.1 c
      exact F
    · have F := F.2 c
      refine ev_bk 3 (S' := (59, [some (.ref 173), some (vI x1), some (vI x2), some (vI x3), some (vI x4)], [.ref 173, .ref 173, vI x3], hp S, 0, 0)) rfl ?_
      refine mv_gfR rfl rfl (sh_173) (by decide) rfl ?_
      refine ev_bk 2 (S' := (65, [some (.ref 173), some (vI x1), some (vI x2), some (vI x3), some (vI x4)], [.ref 173, vI x4, .ref 174, .ref 173, vI x3], hp S, 0, 0)) rfl ?_
      refine mv_gfI rfl rfl (sh_173) (by decide) rfl ?_
      refine mv_imul rfl ?_
      refine ev_bk 1 (S' := (70, [some (.ref 173), some (vI x1), some (vI x2), some (vI x3), some (vI x4)], [vI x1, vI (x4 * (S.1 173 3)), .ref 174, .ref 173, vI x3], hp S, 0, 0)) rfl ?_
      refine mv_iadd rfl ?_
      obtain ⟨b4, F⟩ := F
      refine mv_ial rfl (sh_174) b4 ?_
      refine ev_bk 3 (S' := (76, [some (.ref 173), some (vI x1), some (vI x2), some (vI x3), some (vI x4)], [.ref 173, vI x4, .ref 173, vI (S.1 174 (w32 ((x4 * (S.1 173 3)) + x1))), .ref 173, vI x3], hp S, 0, 0)) rfl ?_
      refine mv_gfR rfl rfl (sh_173) (by decide) rfl ?_
      refine ev_bk 1 (S' := (80, [some (.ref 173), some (vI x1), some (vI x2), some (vI x3), some (vI x4)], [vI x2, .ref 179, vI x4, .ref 173, vI (S.1 174 (w32 ((x4 * (S.1 173 3)) + x1))), .ref 173, vI x3], hp S, 0, 0)) rfl ?_
      obtain ⟨b5, F⟩ := F
      refine mv_ial rfl (sh_179) b5 ?_
      obtain ⟨z8, S6, e7, F⟩ := F
      refine mv_calv (as := [vI x4, vI (S.1 179 (w32 x2))]) (rest := [vI (S.1 174 (w32 ((x4 * (S.1 173 3)) + x1))), .ref 173, vI x3]) e7 (sh_173) rfl rfl rfl ⟨rfl, rfl⟩ rfl rfl rfl rfl rfl ?_
      obtain ⟨z11, S9, e10, F⟩ := F
      refine mv_calv (as := [vI (S.1 174 (w32 ((x4 * (S.1 173 3)) + x1))), vI z8]) (rest := [vI x3]) e10 (sh_173) rfl rfl rfl ⟨rfl, rfl⟩ rfl rfl rfl rfl rfl ?_
      refine mv_ixor rfl ?_
      refine ev_bk 1 (S' := (89, [some (.ref 173), some (vI x1), some (vI x2), some (vI (bX x3 z11)), some (vI x4)], [], hp S9, 0, 0)) rfl ?_
      exact F
theorem vc_Parts_octetAgain_89 {q : Nat × (Nat → Int32)} {S S' : ms} {r : Option Value} (x1 x2 x3 x4 : Int)
    (F : EV q 237 37 [some (.ref 173), some (vI x1), some (vI x2), some (vI x3), some (vI (x4 + 1))] [] S r S') : EV q 237 89 [some (.ref 173), some (vI x1), some (vI x2), some (vI x3), some (vI x4)] [] S r S' := by
  unfold EV
  refine mv_inc (lv' := [some (.ref 173), some (vI x1), some (vI x2), some (vI x3), some (vI (x4 + 1))]) 4 1 rfl rfl rfl rfl ?_
  refine mv_goto 37 rfl rfl ?_
  exact F
theorem vc_Parts_octetAgain_110 {q : Nat × (Nat → Int32)} {S S' : ms} {r : Option Value} (x1 x2 : Int)
    (F : ((w32 (S.1 173 5) ≤ w32 x2) → r = none ∧ S' = S) ∧ ((¬ w32 (S.1 173 5) ≤ w32 x2) → EV q 237 123 [some (.ref 173), some (vI x1), some (vI x2), some (vI 0), some (vI 0)] [] S r S')) : EV q 237 110 [some (.ref 173), some (vI x1), some (vI x2), none, none] [] S r S' := by
  unfold EV
  refine ev_bk 2 (S' := (112, [some (.ref 173), some (vI x1), some (vI x2), none, none], [.ref 173, vI x2], hp S, 0, 0)) rfl ?_
  refine mv_gfI rfl rfl (sh_173) (by decide) rfl ?_
  refine mv_icmp 192 rfl rfl (fun c => ?_) (fun c => ?_)
  · have F := F.1 c
    obtain ⟨rfl, rfl⟩ := F
    exact ev_ret rfl rfl
  · have F := F.2 c
    refine ev_bk 4 (S' := (123, [some (.ref 173), some (vI x1), some (vI x2), some (vI 0), some (vI 0)], [], hp S, 0, 0)) rfl ?_
    exact F
theorem vc_Parts_octetAgain_123 {q : Nat × (Nat → Int32)} {S S' : ms} {r : Option Value} (x1 x2 x3 x4 : Int)
    (F : ((w32 (S.1 173 5) ≤ w32 x4) → (0 ≤ w32 x2 ∧ w32 x2 < (32 : Nat)) ∧ (0 ≤ w32 (((S.1 178 (w32 x2)) * (S.1 173 3)) + x1) ∧ w32 (((S.1 178 (w32 x2)) * (S.1 173 3)) + x1) < (102000 : Nat)) ∧ ∀ S3 : ms, S3 = wI S 174 (w32 (((S.1 178 (w32 x2)) * (S.1 173 3)) + x1)) x3 → EV q 237 110 [some (.ref 173), some (vI x1), some (vI (x2 + 1)), none, none] [] S3 r S') ∧ ((¬ w32 (S.1 173 5) ≤ w32 x4) → (0 ≤ w32 (((x2 * 32) + 16) + x4) ∧ w32 (((x2 * 32) + 16) + x4) < (512 : Nat)) ∧ (0 ≤ w32 x4 ∧ w32 x4 < (16 : Nat)) ∧ ∃ (z8 : Int) (S6 : ms), EV q 228 0 [some (.ref 173), some (vI (S.1 181 (w32 (((x2 * 32) + 16) + x4)))), some (vI (S.1 180 (w32 x4)))] [] S (some (vI z8)) S6 ∧ EV q 237 123 [some (.ref 173), some (vI x1), some (vI x2), some (vI (bX x3 z8)), some (vI (x4 + 1))] [] S6 r S')) : EV q 237 123 [some (.ref 173), some (vI x1), some (vI x2), some (vI x3), some (vI x4)] [] S r S' := by
  unfold EV
  refine ev_bk 2 (S' := (126, [some (.ref 173), some (vI x1), some (vI x2), some (vI x3), some (vI x4)], [.ref 173, vI x4], hp S, 0, 0)) rfl ?_
  refine mv_gfI rfl rfl (sh_173) (by decide) rfl ?_
  refine mv_icmp 167 rfl rfl (fun c => ?_) (fun c => ?_)
  · have F := F.1 c
    refine ev_bk 1 (S' := (168, [some (.ref 173), some (vI x1), some (vI x2), some (vI x3), some (vI x4)], [.ref 173], hp S, 0, 0)) rfl ?_
    refine mv_gfR rfl rfl (sh_173) (by decide) rfl ?_
    refine ev_bk 1 (S' := (172, [some (.ref 173), some (vI x1), some (vI x2), some (vI x3), some (vI x4)], [.ref 173, .ref 174], hp S, 0, 0)) rfl ?_
    refine mv_gfR rfl rfl (sh_173) (by decide) rfl ?_
    refine ev_bk 1 (S' := (176, [some (.ref 173), some (vI x1), some (vI x2), some (vI x3), some (vI x4)], [vI x2, .ref 178, .ref 174], hp S, 0, 0)) rfl ?_
    obtain ⟨b1, F⟩ := F
    refine mv_ial rfl (sh_178) b1 ?_
    refine ev_bk 1 (S' := (178, [some (.ref 173), some (vI x1), some (vI x2), some (vI x3), some (vI x4)], [.ref 173, vI (S.1 178 (w32 x2)), .ref 174], hp S, 0, 0)) rfl ?_
    refine mv_gfI rfl rfl (sh_173) (by decide) rfl ?_
    refine mv_imul rfl ?_
    refine ev_bk 1 (S' := (183, [some (.ref 173), some (vI x1), some (vI x2), some (vI x3), some (vI x4)], [vI x1, vI ((S.1 178 (w32 x2)) * (S.1 173 3)), .ref 174], hp S, 0, 0)) rfl ?_
    refine mv_iadd rfl ?_
    refine ev_bk 1 (S' := (185, [some (.ref 173), some (vI x1), some (vI x2), some (vI x3), some (vI x4)], [vI x3, vI (((S.1 178 (w32 x2)) * (S.1 173 3)) + x1), .ref 174], hp S, 0, 0)) rfl ?_
    obtain ⟨b2, F⟩ := F
    refine mv_ias rfl (sh_174) b2 ?_
    have F := F _ rfl
    refine mv_inc (lv' := [some (.ref 173), some (vI x1), some (vI (x2 + 1)), some (vI x3), some (vI x4)]) 2 1 rfl rfl rfl rfl ?_
    refine mv_goto 110 rfl rfl ?_
    exact ev_wk (le_s (le_s (le_s (le_n (le_n le_0))))) F
  · have F := F.2 c
    refine ev_bk 3 (S' := (135, [some (.ref 173), some (vI x1), some (vI x2), some (vI x3), some (vI x4)], [.ref 173, .ref 173, vI x3], hp S, 0, 0)) rfl ?_
    refine mv_gfR rfl rfl (sh_173) (by decide) rfl ?_
    refine ev_bk 2 (S' := (141, [some (.ref 173), some (vI x1), some (vI x2), some (vI x3), some (vI x4)], [vI 32, vI x2, .ref 181, .ref 173, vI x3], hp S, 0, 0)) rfl ?_
    refine mv_imul rfl ?_
    refine ev_bk 1 (S' := (144, [some (.ref 173), some (vI x1), some (vI x2), some (vI x3), some (vI x4)], [vI 16, vI (x2 * 32), .ref 181, .ref 173, vI x3], hp S, 0, 0)) rfl ?_
    refine mv_iadd rfl ?_
    refine ev_bk 1 (S' := (147, [some (.ref 173), some (vI x1), some (vI x2), some (vI x3), some (vI x4)], [vI x4, vI ((x2 * 32) + 16), .ref 181, .ref 173, vI x3], hp S, 0, 0)) rfl ?_
    refine mv_iadd rfl ?_
    obtain ⟨b4, F⟩ := F
    refine mv_ial rfl (sh_181) b4 ?_
    refine ev_bk 1 (S' := (150, [some (.ref 173), some (vI x1), some (vI x2), some (vI x3), some (vI x4)], [.ref 173, vI (S.1 181 (w32 (((x2 * 32) + 16) + x4))), .ref 173, vI x3], hp S, 0, 0)) rfl ?_
    refine mv_gfR rfl rfl (sh_173) (by decide) rfl ?_
    refine ev_bk 1 (S' := (155, [some (.ref 173), some (vI x1), some (vI x2), some (vI x3), some (vI x4)], [vI x4, .ref 180, vI (S.1 181 (w32 (((x2 * 32) + 16) + x4))), .ref 173, vI x3], hp S, 0, 0)) rfl ?_
    obtain ⟨b5, F⟩ := F
    refine mv_ial rfl (sh_180) b5 ?_
    obtain ⟨z8, S6, e7, F⟩ := F
    refine mv_calv (as := [vI (S.1 181 (w32 (((x2 * 32) + 16) + x4))), vI (S.1 180 (w32 x4))]) (rest := [vI x3]) e7 (sh_173) rfl rfl rfl ⟨rfl, rfl⟩ rfl rfl rfl rfl rfl ?_
    refine mv_ixor rfl ?_
    refine ev_bk 1 (S' := (161, [some (.ref 173), some (vI x1), some (vI x2), some (vI (bX x3 z8)), some (vI x4)], [], hp S6, 0, 0)) rfl ?_
    refine mv_inc (lv' := [some (.ref 173), some (vI x1), some (vI x2), some (vI (bX x3 z8)), some (vI (x4 + 1))]) 4 1 rfl rfl rfl rfl ?_
    refine mv_goto 123 rfl rfl ?_
    exact F
theorem vc_Store_keep {q : Nat × (Nat → Int32)} {S S' : ms} {r : Option Value} (a1 na1 : Nat) (ha1 : isRow a1 na1)
    (F : ∃ (z3 : Int) (S1 : ms), EV q 242 0 [some (.ref 184), none] [] S (some (vI z3)) S1 ∧ ((0 ≤ w32 z3) → EV q 241 19 [some (.ref 184), some (.ref a1), some (vI z3), some (vI 0), some (vI 0), some (vI 0), none, none] [] S1 r S') ∧ ((¬ 0 ≤ w32 z3) → r = some (vI 0) ∧ S' = S1)) : EV q 241 0 [some (.ref 184), some (.ref a1), none, none, none, none, none, none] [] S r S' := by
  unfold EV
  refine ev_bk 1 (S' := (1, [some (.ref 184), some (.ref a1), none, none, none, none, none, none], [.ref 184], hp S, 0, 0)) rfl ?_
  obtain ⟨z3, S1, e2, F⟩ := F
  refine mv_calv (as := []) (rest := []) e2 (sh_184) rfl rfl rfl ⟨rfl, rfl⟩ rfl rfl rfl rfl rfl ?_
  refine ev_bk 2 (S' := (6, [some (.ref 184), some (.ref a1), some (vI z3), none, none, none, none, none], [vI z3], hp S1, 0, 0)) rfl ?_
  refine mv_if 11 rfl rfl (fun c => ?_) (fun c => ?_)
  · have F := F.1 c
    refine ev_bk 6 (S' := (19, [some (.ref 184), some (.ref a1), some (vI z3), some (vI 0), some (vI 0), some (vI 0), none, none], [], hp S1, 0, 0)) rfl ?_
    exact F
  · have F := F.2 c
    refine ev_bk 1 (S' := (10, [some (.ref 184), some (.ref a1), some (vI z3), none, none, none, none, none], [vI 0], hp S1, 0, 0)) rfl ?_
    obtain ⟨rfl, rfl⟩ := F
    exact ev_ret rfl rfl
theorem vc_Store_keep_19 {q : Nat × (Nat → Int32)} {S S' : ms} {r : Option Value} (x2 x3 x4 x5 : Int) (a1 na1 : Nat) (ha1 : isRow a1 na1)
    (F : ((192 ≤ w32 x5) → EV q 241 98 [some (.ref 184), some (.ref a1), some (vI x2), some (vI x3), some (vI x4), some (vI x5), none, none] [] S r S') ∧ ((¬ 192 ≤ w32 x5) → ((w32 (S.1 a1 1) ≤ w32 x4) → EV q 241 98 [some (.ref 184), some (.ref a1), some (vI x2), some (vI x3), some (vI x4), some (vI x5), none, none] [] S r S') ∧ ((¬ w32 (S.1 a1 1) ≤ w32 x4) → ∃ (z3 : Int) (S1 : ms), EV q 243 0 [some (.ref 184), some (.ref a1), some (vI x4), none, none, none, none] [] S (some (vI z3)) S1 ∧ ∃ (z6 : Int) (S4 : ms), EV q 244 0 [some (.ref 184), some (.ref a1), some (vI x4), some (vI (z3 - x4)), none, none] [] S1 (some (vI z6)) S4 ∧ ((0 ≤ w32 z6) → (0 ≤ w32 ((x2 * 192) + x3) ∧ w32 ((x2 * 192) + x3) < (1536 : Nat)) ∧ ∀ S8 : ms, S8 = wI S4 192 (w32 ((x2 * 192) + x3)) z6 → EV q 241 19 [some (.ref 184), some (.ref a1), some (vI x2), some (vI (x3 + 1)), some (vI z3), some (vI (x5 + 1)), none, none] [] S8 r S') ∧ ((¬ 0 ≤ w32 z6) → ∃ (z11 : Int) (S9 : ms), EV q 246 0 [some (.ref 184), none, none] [] S4 (some (vI z11)) S9 ∧ r = some (vI 0) ∧ S' = S9)))) : EV q 241 19 [some (.ref 184), some (.ref a1), some (vI x2), some (vI x3), some (vI x4), some (vI x5), none, none] [] S r S' := by
  unfold EV
  refine ev_bk 2 (S' := (24, [some (.ref 184), some (.ref a1), some (vI x2), some (vI x3), some (vI x4), some (vI x5), none, none], [vI 192, vI x5], hp S, 0, 0)) rfl ?_
  refine mv_icmp 98 rfl rfl (fun c => ?_) (fun c => ?_)
  · have F := F.1 c
    exact F
  · have F := F.2 c
    refine ev_bk 2 (S' := (30, [some (.ref 184), some (.ref a1), some (vI x2), some (vI x3), some (vI x4), some (vI x5), none, none], [.ref a1, vI x4], hp S, 0, 0)) rfl ?_
    refine mv_gfI rfl rfl (ha1.1) (by decide) rfl ?_
    refine mv_icmp 98 rfl rfl (fun c => ?_) (fun c => ?_)
    · have F := F.1 c
      exact F
    · have F := F.2 c
      refine ev_bk 3 (S' := (40, [some (.ref 184), some (.ref a1), some (vI x2), some (vI x3), some (vI x4), some (vI x5), none, none], [vI x4, .ref a1, .ref 184], hp S, 0, 0)) rfl ?_
      obtain ⟨z3, S1, e2, F⟩ := F
      refine mv_calv (as := [.ref a1, vI x4]) (rest := []) e2 (sh_184) rfl rfl rfl ⟨rfl, rfl⟩ rfl rfl rfl rfl rfl ?_
      refine ev_bk 6 (S' := (53, [some (.ref 184), some (.ref a1), some (vI x2), some (vI x3), some (vI x4), some (vI x5), some (vI z3), none], [vI x4, vI z3, vI x4, .ref a1, .ref 184], hp S1, 0, 0)) rfl ?_
      refine mv_isub rfl ?_
      obtain ⟨z6, S4, e5, F⟩ := F
      refine mv_calv (as := [.ref a1, vI x4, vI (z3 - x4)]) (rest := []) e5 (sh_184) rfl rfl rfl ⟨rfl, rfl⟩ rfl rfl rfl rfl rfl ?_
      refine ev_bk 2 (S' := (61, [some (.ref 184), some (.ref a1), some (vI x2), some (vI x3), some (vI x4), some (vI x5), some (vI z3), some (vI z6)], [vI z6], hp S4, 0, 0)) rfl ?_
      refine mv_if 71 rfl rfl (fun c => ?_) (fun c => ?_)
      · have F := F.1 c
        refine ev_bk 1 (S' := (72, [some (.ref 184), some (.ref a1), some (vI x2), some (vI x3), some (vI x4), some (vI x5), some (vI z3), some (vI z6)], [.ref 184], hp S4, 0, 0)) rfl ?_
        refine mv_gfR rfl rfl (sh_184) (by decide) rfl ?_
        refine ev_bk 2 (S' := (79, [some (.ref 184), some (.ref a1), some (vI x2), some (vI x3), some (vI x4), some (vI x5), some (vI z3), some (vI z6)], [vI 192, vI x2, .ref 192], hp S4, 0, 0)) rfl ?_
        refine mv_imul rfl ?_
        refine ev_bk 1 (S' := (81, [some (.ref 184), some (.ref a1), some (vI x2), some (vI x3), some (vI x4), some (vI x5), some (vI z3), some (vI z6)], [vI x3, vI (x2 * 192), .ref 192], hp S4, 0, 0)) rfl ?_
        refine mv_iadd rfl ?_
        refine ev_bk 1 (S' := (84, [some (.ref 184), some (.ref a1), some (vI x2), some (vI x3), some (vI x4), some (vI x5), some (vI z3), some (vI z6)], [vI z6, vI ((x2 * 192) + x3), .ref 192], hp S4, 0, 0)) rfl ?_
        obtain ⟨b7, F⟩ := F
        refine mv_ias rfl (sh_192) b7 ?_
        have F := F _ rfl
        refine mv_inc (lv' := [some (.ref 184), some (.ref a1), some (vI x2), some (vI (x3 + 1)), some (vI x4), some (vI x5), some (vI z3), some (vI z6)]) 3 1 rfl rfl rfl rfl ?_
        refine ev_bk 2 (S' := (92, [some (.ref 184), some (.ref a1), some (vI x2), some (vI (x3 + 1)), some (vI z3), some (vI x5), some (vI z3), some (vI z6)], [], hp (wI S4 192 (w32 ((x2 * 192) + x3)) z6), 0, 0)) rfl ?_
        refine mv_inc (lv' := [some (.ref 184), some (.ref a1), some (vI x2), some (vI (x3 + 1)), some (vI z3), some (vI (x5 + 1)), some (vI z3), some (vI z6)]) 5 1 rfl rfl rfl rfl ?_
        refine mv_goto 19 rfl rfl ?_
        exact ev_wk (le_s (le_s (le_s (le_s (le_s (le_s (le_n (le_n le_0)))))))) F
      · have F := F.2 c
        refine ev_bk 1 (S' := (65, [some (.ref 184), some (.ref a1), some (vI x2), some (vI x3), some (vI x4), some (vI x5), some (vI z3), some (vI z6)], [.ref 184], hp S4, 0, 0)) rfl ?_
        obtain ⟨z11, S9, e10, F⟩ := F
        refine mv_calv (as := []) (rest := []) e10 (sh_184) rfl rfl rfl ⟨rfl, rfl⟩ rfl rfl rfl rfl rfl ?_
        refine ev_bk 2 (S' := (70, [some (.ref 184), some (.ref a1), some (vI x2), some (vI x3), some (vI x4), some (vI x5), some (vI z3), some (vI z6)], [vI 0], hp S9, 0, 0)) rfl ?_
        obtain ⟨rfl, rfl⟩ := F
        exact ev_ret rfl rfl
theorem vc_Store_keep_98 {q : Nat × (Nat → Int32)} {S S' : ms} {r : Option Value} (x2 x3 x4 x5 : Int) (a1 na1 : Nat) (ha1 : isRow a1 na1)
    (F : EV q 241 101 [some (.ref 184), some (.ref a1), some (vI x2), some (vI x3), some (vI x4), some (vI 0), none, none] [] S r S') : EV q 241 98 [some (.ref 184), some (.ref a1), some (vI x2), some (vI x3), some (vI x4), some (vI x5), none, none] [] S r S' := by
  unfold EV
  refine ev_bk 2 (S' := (101, [some (.ref 184), some (.ref a1), some (vI x2), some (vI x3), some (vI x4), some (vI 0), none, none], [], hp S, 0, 0)) rfl ?_
  exact F
theorem vc_Store_keep_101 {q : Nat × (Nat → Int32)} {S S' : ms} {r : Option Value} (x2 x3 x4 x5 : Int) (a1 na1 : Nat) (ha1 : isRow a1 na1)
    (F : ((w32 x3 ≤ w32 x5) → (0 ≤ w32 x2 ∧ w32 x2 < (8 : Nat)) ∧ ∀ S2 : ms, S2 = wI S 191 (w32 x2) x3 → ∀ S3 : ms, S3 = wI S2 184 3 (S2.1 184 3 + 1) → (0 ≤ w32 x2 ∧ w32 x2 < (8 : Nat)) ∧ ∀ S5 : ms, S5 = wI S3 190 (w32 x2) (S3.1 184 3) → ∀ S6 : ms, S6 = wI S5 184 2 (S5.1 184 2 + 1) → r = some (vI 1) ∧ S' = S6) ∧ ((¬ w32 x3 ≤ w32 x5) → (0 ≤ w32 ((x2 * 192) + x5) ∧ w32 ((x2 * 192) + x5) < (1536 : Nat)) ∧ (0 ≤ w32 (S.1 192 (w32 ((x2 * 192) + x5))) ∧ w32 (S.1 192 (w32 ((x2 * 192) + x5))) < (300 : Nat)) ∧ (0 ≤ w32 (S.1 192 (w32 ((x2 * 192) + x5))) ∧ w32 (S.1 192 (w32 ((x2 * 192) + x5))) < (300 : Nat)) ∧ ∀ S10 : ms, S10 = wI S 188 (w32 (S.1 192 (w32 ((x2 * 192) + x5)))) ((S.1 188 (w32 (S.1 192 (w32 ((x2 * 192) + x5))))) + 1) → EV q 241 101 [some (.ref 184), some (.ref a1), some (vI x2), some (vI x3), some (vI x4), some (vI (x5 + 1)), none, none] [] S10 r S')) : EV q 241 101 [some (.ref 184), some (.ref a1), some (vI x2), some (vI x3), some (vI x4), some (vI x5), none, none] [] S r S' := by
  unfold EV
  refine ev_bk 2 (S' := (104, [some (.ref 184), some (.ref a1), some (vI x2), some (vI x3), some (vI x4), some (vI x5), none, none], [vI x3, vI x5], hp S, 0, 0)) rfl ?_
  refine mv_icmp 135 rfl rfl (fun c => ?_) (fun c => ?_)
  · have F := F.1 c
    refine ev_bk 1 (S' := (136, [some (.ref 184), some (.ref a1), some (vI x2), some (vI x3), some (vI x4), some (vI x5), none, none], [.ref 184], hp S, 0, 0)) rfl ?_
    refine mv_gfR rfl rfl (sh_184) (by decide) rfl ?_
    refine ev_bk 2 (S' := (141, [some (.ref 184), some (.ref a1), some (vI x2), some (vI x3), some (vI x4), some (vI x5), none, none], [vI x3, vI x2, .ref 191], hp S, 0, 0)) rfl ?_
    obtain ⟨b1, F⟩ := F
    refine mv_ias rfl (sh_191) b1 ?_
    have F := F _ rfl
    refine ev_bk 2 (S' := (144, [some (.ref 184), some (.ref a1), some (vI x2), some (vI x3), some (vI x4), some (vI x5), none, none], [.ref 184, .ref 184], hp (wI S 191 (w32 x2) x3), 0, 0)) rfl ?_
    refine mv_gfI rfl rfl (sh_184) (by decide) rfl ?_
    refine ev_bk 1 (S' := (148, [some (.ref 184), some (.ref a1), some (vI x2), some (vI x3), some (vI x4), some (vI x5), none, none], [vI 1, vI ((wI S 191 (w32 x2) x3).1 184 3), .ref 184], hp (wI S 191 (w32 x2) x3), 0, 0)) rfl ?_
    refine mv_iadd rfl ?_
    refine mv_pfI rfl rfl (sh_184) (by decide) rfl rfl ?_
    have F := F _ rfl
    refine ev_bk 1 (S' := (153, [some (.ref 184), some (.ref a1), some (vI x2), some (vI x3), some (vI x4), some (vI x5), none, none], [.ref 184], hp (wI (wI S 191 (w32 x2) x3) 184 3 ((wI S 191 (w32 x2) x3).1 184 3 + 1)), 0, 0)) rfl ?_
    refine mv_gfR rfl rfl (sh_184) (by decide) rfl ?_
    refine ev_bk 2 (S' := (158, [some (.ref 184), some (.ref a1), some (vI x2), some (vI x3), some (vI x4), some (vI x5), none, none], [.ref 184, vI x2, .ref 190], hp (wI (wI S 191 (w32 x2) x3) 184 3 ((wI S 191 (w32 x2) x3).1 184 3 + 1)), 0, 0)) rfl ?_
    refine mv_gfI rfl rfl (sh_184) (by decide) rfl ?_
    obtain ⟨b4, F⟩ := F
    refine mv_ias rfl (sh_190) b4 ?_
    have F := F _ rfl
    refine ev_bk 2 (S' := (164, [some (.ref 184), some (.ref a1), some (vI x2), some (vI x3), some (vI x4), some (vI x5), none, none], [.ref 184, .ref 184], hp (wI (wI (wI S 191 (w32 x2) x3) 184 3 ((wI S 191 (w32 x2) x3).1 184 3 + 1)) 190 (w32 x2) ((wI (wI S 191 (w32 x2) x3) 184 3 ((wI S 191 (w32 x2) x3).1 184 3 + 1)).1 184 3)), 0, 0)) rfl ?_
    refine mv_gfI rfl rfl (sh_184) (by decide) rfl ?_
    refine ev_bk 1 (S' := (168, [some (.ref 184), some (.ref a1), some (vI x2), some (vI x3), some (vI x4), some (vI x5), none, none], [vI 1, vI ((wI (wI (wI S 191 (w32 x2) x3) 184 3 ((wI S 191 (w32 x2) x3).1 184 3 + 1)) 190 (w32 x2) ((wI (wI S 191 (w32 x2) x3) 184 3 ((wI S 191 (w32 x2) x3).1 184 3 + 1)).1 184 3)).1 184 2), .ref 184], hp (wI (wI (wI S 191 (w32 x2) x3) 184 3 ((wI S 191 (w32 x2) x3).1 184 3 + 1)) 190 (w32 x2) ((wI (wI S 191 (w32 x2) x3) 184 3 ((wI S 191 (w32 x2) x3).1 184 3 + 1)).1 184 3)), 0, 0)) rfl ?_
    refine mv_iadd rfl ?_
    refine mv_pfI rfl rfl (sh_184) (by decide) rfl rfl ?_
    have F := F _ rfl
    refine ev_bk 1 (S' := (173, [some (.ref 184), some (.ref a1), some (vI x2), some (vI x3), some (vI x4), some (vI x5), none, none], [vI 1], hp (wI (wI (wI (wI S 191 (w32 x2) x3) 184 3 ((wI S 191 (w32 x2) x3).1 184 3 + 1)) 190 (w32 x2) ((wI (wI S 191 (w32 x2) x3) 184 3 ((wI S 191 (w32 x2) x3).1 184 3 + 1)).1 184 3)) 184 2 ((wI (wI (wI S 191 (w32 x2) x3) 184 3 ((wI S 191 (w32 x2) x3).1 184 3 + 1)) 190 (w32 x2) ((wI (wI S 191 (w32 x2) x3) 184 3 ((wI S 191 (w32 x2) x3).1 184 3 + 1)).1 184 3)).1 184 2 + 1)), 0, 0)) rfl ?_
    obtain ⟨rfl, rfl⟩ := F
    exact ev_ret rfl rfl
  · have F := F.2 c
    refine ev_bk 1 (S' := (108, [some (.ref 184), some (.ref a1), some (vI x2), some (vI x3), some (vI x4), some (vI x5), none, none], [.ref 184], hp S, 0, 0)) rfl ?_
    refine mv_gfR rfl rfl (sh_184) (by decide) rfl ?_
    refine ev_bk 1 (S' := (112, [some (.ref 184), some (.ref a1), some (vI x2), some (vI x3), some (vI x4), some (vI x5), none, none], [.ref 184, .ref 188], hp S, 0, 0)) rfl ?_
    refine mv_gfR rfl rfl (sh_184) (by decide) rfl ?_
    refine ev_bk 2 (S' := (119, [some (.ref 184), some (.ref a1), some (vI x2), some (vI x3), some (vI x4), some (vI x5), none, none], [vI 192, vI x2, .ref 192, .ref 188], hp S, 0, 0)) rfl ?_
    refine mv_imul rfl ?_
    refine ev_bk 1 (S' := (122, [some (.ref 184), some (.ref a1), some (vI x2), some (vI x3), some (vI x4), some (vI x5), none, none], [vI x5, vI (x2 * 192), .ref 192, .ref 188], hp S, 0, 0)) rfl ?_
    refine mv_iadd rfl ?_
    obtain ⟨b7, F⟩ := F
    refine mv_ial rfl (sh_192) b7 ?_
    refine ev_bk 1 (S' := (125, [some (.ref 184), some (.ref a1), some (vI x2), some (vI x3), some (vI x4), some (vI x5), none, none], [vI (S.1 192 (w32 ((x2 * 192) + x5))), .ref 188, vI (S.1 192 (w32 ((x2 * 192) + x5))), .ref 188], hp S, 0, 0)) rfl ?_
    obtain ⟨b8, F⟩ := F
    refine mv_ial rfl (sh_188) b8 ?_
    refine ev_bk 1 (S' := (127, [some (.ref 184), some (.ref a1), some (vI x2), some (vI x3), some (vI x4), some (vI x5), none, none], [vI 1, vI (S.1 188 (w32 (S.1 192 (w32 ((x2 * 192) + x5))))), vI (S.1 192 (w32 ((x2 * 192) + x5))), .ref 188], hp S, 0, 0)) rfl ?_
    refine mv_iadd rfl ?_
    obtain ⟨b9, F⟩ := F
    refine mv_ias rfl (sh_188) b9 ?_
    have F := F _ rfl
    refine mv_inc (lv' := [some (.ref 184), some (.ref a1), some (vI x2), some (vI x3), some (vI x4), some (vI (x5 + 1)), none, none]) 5 1 rfl rfl rfl rfl ?_
    refine mv_goto 101 rfl rfl ?_
    exact F
theorem vc_Store_freeRow {q : Nat × (Nat → Int32)} {S S' : ms} {r : Option Value}
    (F : EV q 242 2 [some (.ref 184), some (vI 0)] [] S r S') : EV q 242 0 [some (.ref 184), none] [] S r S' := by
  unfold EV
  refine ev_bk 2 (S' := (2, [some (.ref 184), some (vI 0)], [], hp S, 0, 0)) rfl ?_
  exact F
theorem vc_Store_freeRow_2 {q : Nat × (Nat → Int32)} {S S' : ms} {r : Option Value} (x1 : Int)
    (F : ((8 ≤ w32 x1) → r = some (vI ((-1))) ∧ S' = S) ∧ ((¬ 8 ≤ w32 x1) → (0 ≤ w32 x1 ∧ w32 x1 < (8 : Nat)) ∧ ((¬ w32 (S.1 190 (w32 x1)) = 0) → EV q 242 2 [some (.ref 184), some (vI (x1 + 1))] [] S r S') ∧ ((¬ (¬ w32 (S.1 190 (w32 x1)) = 0)) → r = some (vI x1) ∧ S' = S))) : EV q 242 2 [some (.ref 184), some (vI x1)] [] S r S' := by
  unfold EV
  refine ev_bk 2 (S' := (5, [some (.ref 184), some (vI x1)], [vI 8, vI x1], hp S, 0, 0)) rfl ?_
  refine mv_icmp 25 rfl rfl (fun c => ?_) (fun c => ?_)
  · have F := F.1 c
    refine ev_bk 1 (S' := (26, [some (.ref 184), some (vI x1)], [vI ((-1))], hp S, 0, 0)) rfl ?_
    obtain ⟨rfl, rfl⟩ := F
    exact ev_ret rfl rfl
  · have F := F.2 c
    refine ev_bk 1 (S' := (9, [some (.ref 184), some (vI x1)], [.ref 184], hp S, 0, 0)) rfl ?_
    refine mv_gfR rfl rfl (sh_184) (by decide) rfl ?_
    refine ev_bk 1 (S' := (13, [some (.ref 184), some (vI x1)], [vI x1, .ref 190], hp S, 0, 0)) rfl ?_
    obtain ⟨b1, F⟩ := F
    refine mv_ial rfl (sh_190) b1 ?_
    refine mv_if 19 rfl rfl (fun c => ?_) (fun c => ?_)
    · have F := F.1 c
      refine mv_inc (lv' := [some (.ref 184), some (vI (x1 + 1))]) 1 1 rfl rfl rfl rfl ?_
      refine mv_goto 2 rfl rfl ?_
      exact F
    · have F := F.2 c
      refine ev_bk 1 (S' := (18, [some (.ref 184), some (vI x1)], [vI x1], hp S, 0, 0)) rfl ?_
      obtain ⟨rfl, rfl⟩ := F
      exact ev_ret rfl rfl
theorem vc_Store_pieceEnd {q : Nat × (Nat → Int32)} {S S' : ms} {r : Option Value} (x2 : Int) (a1 na1 : Nat) (ha1 : isRow a1 na1)
    (F : EV q 243 8 [some (.ref 184), some (.ref a1), some (vI x2), some (vI 0), some (vI x2), some (vI 0), none] [] S r S') : EV q 243 0 [some (.ref 184), some (.ref a1), some (vI x2), none, none, none, none] [] S r S' := by
  unfold EV
  refine ev_bk 6 (S' := (8, [some (.ref 184), some (.ref a1), some (vI x2), some (vI 0), some (vI x2), some (vI 0), none], [], hp S, 0, 0)) rfl ?_
  exact F
theorem vc_Store_pieceEnd_8 {q : Nat × (Nat → Int32)} {S S' : ms} {r : Option Value} (x2 x3 x4 x5 : Int) (a1 na1 : Nat) (ha1 : isRow a1 na1)
    (F : ((w32 (S.1 a1 1) ≤ w32 x4) → EV q 243 82 [some (.ref 184), some (.ref a1), some (vI x2), some (vI x3), some (vI x4), some (vI x5), none] [] S r S') ∧ ((¬ w32 (S.1 a1 1) ≤ w32 x4) → ((¬ w32 x5 = 0) → EV q 243 82 [some (.ref 184), some (.ref a1), some (vI x2), some (vI x3), some (vI x4), some (vI x5), none] [] S r S') ∧ ((¬ (¬ w32 x5 = 0)) → (0 ≤ w32 x4 ∧ w32 x4 < (na1 : Nat)) ∧ ((200 ≤ w32 ((x4 + 1) - x2)) → EV q 243 69 [some (.ref 184), some (.ref a1), some (vI x2), some (vI (((x3 * 31) + (S.1 (a1 + 1) (w32 x4))) + 1)), some (vI x4), some (vI x5), some (vI ((x4 + 1) - x2))] [] S r S') ∧ ((¬ 200 ≤ w32 ((x4 + 1) - x2)) → ((w32 ((x4 + 1) - x2) < 32) → EV q 243 73 [some (.ref 184), some (.ref a1), some (vI x2), some (vI (((x3 * 31) + (S.1 (a1 + 1) (w32 x4))) + 1)), some (vI x4), some (vI x5), some (vI ((x4 + 1) - x2))] [] S r S') ∧ ((¬ w32 ((x4 + 1) - x2) < 32) → ((¬ w32 (bA (((x3 * 31) + (S.1 (a1 + 1) (w32 x4))) + 1) 1056964608) = 1056964608) → EV q 243 73 [some (.ref 184), some (.ref a1), some (vI x2), some (vI (((x3 * 31) + (S.1 (a1 + 1) (w32 x4))) + 1)), some (vI x4), some (vI x5), some (vI ((x4 + 1) - x2))] [] S r S') ∧ ((¬ (¬ w32 (bA (((x3 * 31) + (S.1 (a1 + 1) (w32 x4))) + 1) 1056964608) = 1056964608)) → EV q 243 69 [some (.ref 184), some (.ref a1), some (vI x2), some (vI (((x3 * 31) + (S.1 (a1 + 1) (w32 x4))) + 1)), some (vI x4), some (vI x5), some (vI ((x4 + 1) - x2))] [] S r S')))))) : EV q 243 8 [some (.ref 184), some (.ref a1), some (vI x2), some (vI x3), some (vI x4), some (vI x5), none] [] S r S' := by
  unfold EV
  refine ev_bk 2 (S' := (11, [some (.ref 184), some (.ref a1), some (vI x2), some (vI x3), some (vI x4), some (vI x5), none], [.ref a1, vI x4], hp S, 0, 0)) rfl ?_
  refine mv_gfI rfl rfl (ha1.1) (by decide) rfl ?_
  refine mv_icmp 82 rfl rfl (fun c => ?_) (fun c => ?_)
  · have F := F.1 c
    exact F
  · have F := F.2 c
    refine ev_bk 1 (S' := (19, [some (.ref 184), some (.ref a1), some (vI x2), some (vI x3), some (vI x4), some (vI x5), none], [vI x5], hp S, 0, 0)) rfl ?_
    refine mv_if 82 rfl rfl (fun c => ?_) (fun c => ?_)
    · have F := F.1 c
      exact F
    · have F := F.2 c
      refine ev_bk 2 (S' := (25, [some (.ref 184), some (.ref a1), some (vI x2), some (vI x3), some (vI x4), some (vI x5), none], [vI 31, vI x3], hp S, 0, 0)) rfl ?_
      refine mv_imul rfl ?_
      refine ev_bk 1 (S' := (27, [some (.ref 184), some (.ref a1), some (vI x2), some (vI x3), some (vI x4), some (vI x5), none], [.ref a1, vI (x3 * 31)], hp S, 0, 0)) rfl ?_
      refine mv_gfR rfl rfl (ha1.1) (by decide) rfl ?_
      refine ev_bk 1 (S' := (32, [some (.ref 184), some (.ref a1), some (vI x2), some (vI x3), some (vI x4), some (vI x5), none], [vI x4, .ref (a1 + 1), vI (x3 * 31)], hp S, 0, 0)) rfl ?_
      obtain ⟨b1, F⟩ := F
      refine mv_ial rfl (ha1.2) b1 ?_
      refine mv_iadd rfl ?_
      refine ev_bk 1 (S' := (35, [some (.ref 184), some (.ref a1), some (vI x2), some (vI x3), some (vI x4), some (vI x5), none], [vI 1, vI ((x3 * 31) + (S.1 (a1 + 1) (w32 x4)))], hp S, 0, 0)) rfl ?_
      refine mv_iadd rfl ?_
      refine ev_bk 3 (S' := (40, [some (.ref 184), some (.ref a1), some (vI x2), some (vI (((x3 * 31) + (S.1 (a1 + 1) (w32 x4))) + 1)), some (vI x4), some (vI x5), none], [vI 1, vI x4], hp S, 0, 0)) rfl ?_
      refine mv_iadd rfl ?_
      refine ev_bk 1 (S' := (42, [some (.ref 184), some (.ref a1), some (vI x2), some (vI (((x3 * 31) + (S.1 (a1 + 1) (w32 x4))) + 1)), some (vI x4), some (vI x5), none], [vI x2, vI (x4 + 1)], hp S, 0, 0)) rfl ?_
      refine mv_isub rfl ?_
      refine ev_bk 3 (S' := (50, [some (.ref 184), some (.ref a1), some (vI x2), some (vI (((x3 * 31) + (S.1 (a1 + 1) (w32 x4))) + 1)), some (vI x4), some (vI x5), some (vI ((x4 + 1) - x2))], [vI 200, vI ((x4 + 1) - x2)], hp S, 0, 0)) rfl ?_
      refine mv_icmp 69 rfl rfl (fun c => ?_) (fun c => ?_)
      · have F := F.1 c
        exact F
      · have F := F.2 c
        refine ev_bk 2 (S' := (57, [some (.ref 184), some (.ref a1), some (vI x2), some (vI (((x3 * 31) + (S.1 (a1 + 1) (w32 x4))) + 1)), some (vI x4), some (vI x5), some (vI ((x4 + 1) - x2))], [vI 32, vI ((x4 + 1) - x2)], hp S, 0, 0)) rfl ?_
        refine mv_icmp 73 rfl rfl (fun c => ?_) (fun c => ?_)
        · have F := F.1 c
          exact F
        · have F := F.2 c
          refine ev_bk 2 (S' := (63, [some (.ref 184), some (.ref a1), some (vI x2), some (vI (((x3 * 31) + (S.1 (a1 + 1) (w32 x4))) + 1)), some (vI x4), some (vI x5), some (vI ((x4 + 1) - x2))], [vI 1056964608, vI (((x3 * 31) + (S.1 (a1 + 1) (w32 x4))) + 1)], hp S, 0, 0)) rfl ?_
          refine mv_iand rfl ?_
          refine ev_bk 1 (S' := (66, [some (.ref 184), some (.ref a1), some (vI x2), some (vI (((x3 * 31) + (S.1 (a1 + 1) (w32 x4))) + 1)), some (vI x4), some (vI x5), some (vI ((x4 + 1) - x2))], [vI 1056964608, vI (bA (((x3 * 31) + (S.1 (a1 + 1) (w32 x4))) + 1) 1056964608)], hp S, 0, 0)) rfl ?_
          refine mv_icmp 73 rfl rfl (fun c => ?_) (fun c => ?_)
          · have F := F.1 c
            exact F
          · have F := F.2 c
            exact F
theorem vc_Store_pieceEnd_69 {q : Nat × (Nat → Int32)} {S S' : ms} {r : Option Value} (x2 x3 x4 x5 x6 : Int) (a1 na1 : Nat) (ha1 : isRow a1 na1)
    (F : EV q 243 74 [some (.ref 184), some (.ref a1), some (vI x2), some (vI x3), some (vI x4), some (vI x5), some (vI x6)] [vI 1] S r S') : EV q 243 69 [some (.ref 184), some (.ref a1), some (vI x2), some (vI x3), some (vI x4), some (vI x5), some (vI x6)] [] S r S' := by
  unfold EV
  refine ev_bk 1 (S' := (70, [some (.ref 184), some (.ref a1), some (vI x2), some (vI x3), some (vI x4), some (vI x5), some (vI x6)], [vI 1], hp S, 0, 0)) rfl ?_
  refine mv_goto 74 rfl rfl ?_
  exact F
theorem vc_Store_pieceEnd_73 {q : Nat × (Nat → Int32)} {S S' : ms} {r : Option Value} (x2 x3 x4 x5 x6 : Int) (a1 na1 : Nat) (ha1 : isRow a1 na1)
    (F : EV q 243 74 [some (.ref 184), some (.ref a1), some (vI x2), some (vI x3), some (vI x4), some (vI x5), some (vI x6)] [vI 0] S r S') : EV q 243 73 [some (.ref 184), some (.ref a1), some (vI x2), some (vI x3), some (vI x4), some (vI x5), some (vI x6)] [] S r S' := by
  unfold EV
  refine ev_bk 1 (S' := (74, [some (.ref 184), some (.ref a1), some (vI x2), some (vI x3), some (vI x4), some (vI x5), some (vI x6)], [vI 0], hp S, 0, 0)) rfl ?_
  exact F
theorem vc_Store_pieceEnd_74 {q : Nat × (Nat → Int32)} {S S' : ms} {r : Option Value} (x2 x3 x4 x5 x6 y0 : Int) (a1 na1 : Nat) (ha1 : isRow a1 na1)
    (F : EV q 243 8 [some (.ref 184), some (.ref a1), some (vI x2), some (vI x3), some (vI (x4 + 1)), some (vI y0), none] [] S r S') : EV q 243 74 [some (.ref 184), some (.ref a1), some (vI x2), some (vI x3), some (vI x4), some (vI x5), some (vI x6)] [vI y0] S r S' := by
  unfold EV
  refine ev_bk 1 (S' := (76, [some (.ref 184), some (.ref a1), some (vI x2), some (vI x3), some (vI x4), some (vI y0), some (vI x6)], [], hp S, 0, 0)) rfl ?_
  refine mv_inc (lv' := [some (.ref 184), some (.ref a1), some (vI x2), some (vI x3), some (vI (x4 + 1)), some (vI y0), some (vI x6)]) 4 1 rfl rfl rfl rfl ?_
  refine mv_goto 8 rfl rfl ?_
  exact ev_wk (le_s (le_s (le_s (le_s (le_s (le_s (le_n le_0))))))) F
theorem vc_Store_pieceEnd_82 {q : Nat × (Nat → Int32)} {S S' : ms} {r : Option Value} (x2 x3 x4 x5 : Int) (a1 na1 : Nat) (ha1 : isRow a1 na1)
    (F : ∀ S1 : ms, S1 = wI S 184 12 x3 → r = some (vI x4) ∧ S' = S1) : EV q 243 82 [some (.ref 184), some (.ref a1), some (vI x2), some (vI x3), some (vI x4), some (vI x5), none] [] S r S' := by
  unfold EV
  refine ev_bk 2 (S' := (84, [some (.ref 184), some (.ref a1), some (vI x2), some (vI x3), some (vI x4), some (vI x5), none], [vI x3, .ref 184], hp S, 0, 0)) rfl ?_
  refine mv_pfI rfl rfl (sh_184) (by decide) rfl rfl ?_
  have F := F _ rfl
  refine ev_bk 1 (S' := (89, [some (.ref 184), some (.ref a1), some (vI x2), some (vI x3), some (vI x4), some (vI x5), none], [vI x4], hp (wI S 184 12 x3), 0, 0)) rfl ?_
  obtain ⟨rfl, rfl⟩ := F
  exact ev_ret rfl rfl
theorem vc_Store_placeOf {q : Nat × (Nat → Int32)} {S S' : ms} {r : Option Value} (x2 x3 : Int) (a1 na1 : Nat) (ha1 : isRow a1 na1)
    (F : EV q 244 6 [some (.ref 184), some (.ref a1), some (vI x2), some (vI x3), some (vI ((-1))), some (vI 0)] [] S r S') : EV q 244 0 [some (.ref 184), some (.ref a1), some (vI x2), some (vI x3), none, none] [] S r S' := by
  unfold EV
  refine ev_bk 4 (S' := (6, [some (.ref 184), some (.ref a1), some (vI x2), some (vI x3), some (vI ((-1))), some (vI 0)], [], hp S, 0, 0)) rfl ?_
  exact F
theorem vc_Store_placeOf_6 {q : Nat × (Nat → Int32)} {S S' : ms} {r : Option Value} (x2 x3 x4 x5 : Int) (a1 na1 : Nat) (ha1 : isRow a1 na1)
    (F : ((300 ≤ w32 x5) → ((w32 x4 < 0) → r = some (vI ((-1))) ∧ S' = S) ∧ ((¬ w32 x4 < 0) → ((w32 x3 ≤ w32 (40000 - (S.1 184 1))) → EV q 244 83 [some (.ref 184), some (.ref a1), some (vI x2), some (vI x3), some (vI x4), some (vI 0)] [] S r S') ∧ ((¬ w32 x3 ≤ w32 (40000 - (S.1 184 1))) → r = some (vI ((-1))) ∧ S' = S))) ∧ ((¬ 300 ≤ w32 x5) → (0 ≤ w32 x5 ∧ w32 x5 < (300 : Nat)) ∧ ((¬ w32 (S.1 186 (w32 x5)) = 0) → ∃ (z4 : Int) (S2 : ms), EV q 245 0 [some (.ref 184), some (vI x5), some (.ref a1), some (vI x2), some (vI x3), none] [] S (some (vI z4)) S2 ∧ ((w32 z4 = 0) → EV q 244 56 [some (.ref 184), some (.ref a1), some (vI x2), some (vI x3), some (vI x4), some (vI x5)] [] S2 r S') ∧ ((¬ w32 z4 = 0) → r = some (vI x5) ∧ S' = S2)) ∧ ((¬ (¬ w32 (S.1 186 (w32 x5)) = 0)) → ((0 ≤ w32 x4) → EV q 244 36 [some (.ref 184), some (.ref a1), some (vI x2), some (vI x3), some (vI x4), some (vI x5)] [vI x4] S r S') ∧ ((¬ 0 ≤ w32 x4) → EV q 244 36 [some (.ref 184), some (.ref a1), some (vI x2), some (vI x3), some (vI x4), some (vI x5)] [vI x5] S r S')))) : EV q 244 6 [some (.ref 184), some (.ref a1), some (vI x2), some (vI x3), some (vI x4), some (vI x5)] [] S r S' := by
  unfold EV
  refine ev_bk 2 (S' := (11, [some (.ref 184), some (.ref a1), some (vI x2), some (vI x3), some (vI x4), some (vI x5)], [vI 300, vI x5], hp S, 0, 0)) rfl ?_
  refine mv_icmp 62 rfl rfl (fun c => ?_) (fun c => ?_)
  · have F := F.1 c
    refine ev_bk 1 (S' := (64, [some (.ref 184), some (.ref a1), some (vI x2), some (vI x3), some (vI x4), some (vI x5)], [vI x4], hp S, 0, 0)) rfl ?_
    refine mv_if 78 rfl rfl (fun c => ?_) (fun c => ?_)
    · have F := F.1 c
      refine ev_bk 1 (S' := (79, [some (.ref 184), some (.ref a1), some (vI x2), some (vI x3), some (vI x4), some (vI x5)], [vI ((-1))], hp S, 0, 0)) rfl ?_
      obtain ⟨rfl, rfl⟩ := F
      exact ev_ret rfl rfl
    · have F := F.2 c
      refine ev_bk 3 (S' := (71, [some (.ref 184), some (.ref a1), some (vI x2), some (vI x3), some (vI x4), some (vI x5)], [.ref 184, vI 40000, vI x3], hp S, 0, 0)) rfl ?_
      refine mv_gfI rfl rfl (sh_184) (by decide) rfl ?_
      refine mv_isub rfl ?_
      refine mv_icmp 80 rfl rfl (fun c => ?_) (fun c => ?_)
      · have F := F.1 c
        refine ev_bk 2 (S' := (83, [some (.ref 184), some (.ref a1), some (vI x2), some (vI x3), some (vI x4), some (vI 0)], [], hp S, 0, 0)) rfl ?_
        exact F
      · have F := F.2 c
        refine ev_bk 1 (S' := (79, [some (.ref 184), some (.ref a1), some (vI x2), some (vI x3), some (vI x4), some (vI x5)], [vI ((-1))], hp S, 0, 0)) rfl ?_
        obtain ⟨rfl, rfl⟩ := F
        exact ev_ret rfl rfl
  · have F := F.2 c
    refine ev_bk 1 (S' := (15, [some (.ref 184), some (.ref a1), some (vI x2), some (vI x3), some (vI x4), some (vI x5)], [.ref 184], hp S, 0, 0)) rfl ?_
    refine mv_gfR rfl rfl (sh_184) (by decide) rfl ?_
    refine ev_bk 1 (S' := (20, [some (.ref 184), some (.ref a1), some (vI x2), some (vI x3), some (vI x4), some (vI x5)], [vI x5, .ref 186], hp S, 0, 0)) rfl ?_
    obtain ⟨b1, F⟩ := F
    refine mv_ial rfl (sh_186) b1 ?_
    refine mv_if 41 rfl rfl (fun c => ?_) (fun c => ?_)
    · have F := F.1 c
      refine ev_bk 5 (S' := (47, [some (.ref 184), some (.ref a1), some (vI x2), some (vI x3), some (vI x4), some (vI x5)], [vI x3, vI x2, .ref a1, vI x5, .ref 184], hp S, 0, 0)) rfl ?_
      obtain ⟨z4, S2, e3, F⟩ := F
      refine mv_calv (as := [vI x5, .ref a1, vI x2, vI x3]) (rest := []) e3 (sh_184) rfl rfl rfl ⟨rfl, rfl⟩ rfl rfl rfl rfl rfl ?_
      refine mv_if 56 rfl rfl (fun c => ?_) (fun c => ?_)
      · have F := F.1 c
        exact F
      · have F := F.2 c
        refine ev_bk 1 (S' := (55, [some (.ref 184), some (.ref a1), some (vI x2), some (vI x3), some (vI x4), some (vI x5)], [vI x5], hp S2, 0, 0)) rfl ?_
        obtain ⟨rfl, rfl⟩ := F
        exact ev_ret rfl rfl
    · have F := F.2 c
      refine ev_bk 1 (S' := (26, [some (.ref 184), some (.ref a1), some (vI x2), some (vI x3), some (vI x4), some (vI x5)], [vI x4], hp S, 0, 0)) rfl ?_
      refine mv_if 34 rfl rfl (fun c => ?_) (fun c => ?_)
      · have F := F.1 c
        refine ev_bk 1 (S' := (36, [some (.ref 184), some (.ref a1), some (vI x2), some (vI x3), some (vI x4), some (vI x5)], [vI x4], hp S, 0, 0)) rfl ?_
        exact F
      · have F := F.2 c
        refine ev_bk 1 (S' := (31, [some (.ref 184), some (.ref a1), some (vI x2), some (vI x3), some (vI x4), some (vI x5)], [vI x5], hp S, 0, 0)) rfl ?_
        refine mv_goto 36 rfl rfl ?_
        exact F
theorem vc_Store_placeOf_36 {q : Nat × (Nat → Int32)} {S S' : ms} {r : Option Value} (x2 x3 x4 x5 y0 : Int) (a1 na1 : Nat) (ha1 : isRow a1 na1)
    (F : EV q 244 56 [some (.ref 184), some (.ref a1), some (vI x2), some (vI x3), some (vI y0), some (vI x5)] [] S r S') : EV q 244 36 [some (.ref 184), some (.ref a1), some (vI x2), some (vI x3), some (vI x4), some (vI x5)] [vI y0] S r S' := by
  unfold EV
  refine ev_bk 1 (S' := (38, [some (.ref 184), some (.ref a1), some (vI x2), some (vI x3), some (vI y0), some (vI x5)], [], hp S, 0, 0)) rfl ?_
  refine mv_goto 56 rfl rfl ?_
  exact F
theorem vc_Store_placeOf_56 {q : Nat × (Nat → Int32)} {S S' : ms} {r : Option Value} (x2 x3 x4 x5 : Int) (a1 na1 : Nat) (ha1 : isRow a1 na1)
    (F : EV q 244 6 [some (.ref 184), some (.ref a1), some (vI x2), some (vI x3), some (vI x4), some (vI (x5 + 1))] [] S r S') : EV q 244 56 [some (.ref 184), some (.ref a1), some (vI x2), some (vI x3), some (vI x4), some (vI x5)] [] S r S' := by
  unfold EV
  refine mv_inc (lv' := [some (.ref 184), some (.ref a1), some (vI x2), some (vI x3), some (vI x4), some (vI (x5 + 1))]) 5 1 rfl rfl rfl rfl ?_
  refine mv_goto 6 rfl rfl ?_
  exact F
theorem vc_Store_placeOf_83 {q : Nat × (Nat → Int32)} {S S' : ms} {r : Option Value} (x2 x3 x4 x5 : Int) (a1 na1 : Nat) (ha1 : isRow a1 na1)
    (F : ((w32 x3 ≤ w32 x5) → (0 ≤ w32 x4 ∧ w32 x4 < (300 : Nat)) ∧ ∀ S2 : ms, S2 = wI S 186 (w32 x4) x3 → (0 ≤ w32 x4 ∧ w32 x4 < (300 : Nat)) ∧ ∀ S4 : ms, S4 = wI S2 187 (w32 x4) (S2.1 184 12) → (0 ≤ w32 x4 ∧ w32 x4 < (300 : Nat)) ∧ ∀ S6 : ms, S6 = wI S4 188 (w32 x4) 0 → ∀ S7 : ms, S7 = wI S6 184 0 (S6.1 184 0 + 1) → ∀ S8 : ms, S8 = wI S7 184 1 (S7.1 184 1 + x3) → r = some (vI x4) ∧ S' = S8) ∧ ((¬ w32 x3 ≤ w32 x5) → (0 ≤ w32 (x2 + x5) ∧ w32 (x2 + x5) < (na1 : Nat)) ∧ (0 ≤ w32 ((x4 * 200) + x5) ∧ w32 ((x4 * 200) + x5) < (60000 : Nat)) ∧ ∀ S11 : ms, S11 = wI S 185 (w32 ((x4 * 200) + x5)) (S.1 (a1 + 1) (w32 (x2 + x5))) → EV q 244 83 [some (.ref 184), some (.ref a1), some (vI x2), some (vI x3), some (vI x4), some (vI (x5 + 1))] [] S11 r S')) : EV q 244 83 [some (.ref 184), some (.ref a1), some (vI x2), some (vI x3), some (vI x4), some (vI x5)] [] S r S' := by
  unfold EV
  refine ev_bk 2 (S' := (86, [some (.ref 184), some (.ref a1), some (vI x2), some (vI x3), some (vI x4), some (vI x5)], [vI x3, vI x5], hp S, 0, 0)) rfl ?_
  refine mv_icmp 118 rfl rfl (fun c => ?_) (fun c => ?_)
  · have F := F.1 c
    refine ev_bk 1 (S' := (119, [some (.ref 184), some (.ref a1), some (vI x2), some (vI x3), some (vI x4), some (vI x5)], [.ref 184], hp S, 0, 0)) rfl ?_
    refine mv_gfR rfl rfl (sh_184) (by decide) rfl ?_
    refine ev_bk 2 (S' := (125, [some (.ref 184), some (.ref a1), some (vI x2), some (vI x3), some (vI x4), some (vI x5)], [vI x3, vI x4, .ref 186], hp S, 0, 0)) rfl ?_
    obtain ⟨b1, F⟩ := F
    refine mv_ias rfl (sh_186) b1 ?_
    have F := F _ rfl
    refine ev_bk 1 (S' := (127, [some (.ref 184), some (.ref a1), some (vI x2), some (vI x3), some (vI x4), some (vI x5)], [.ref 184], hp (wI S 186 (w32 x4) x3), 0, 0)) rfl ?_
    refine mv_gfR rfl rfl (sh_184) (by decide) rfl ?_
    refine ev_bk 2 (S' := (133, [some (.ref 184), some (.ref a1), some (vI x2), some (vI x3), some (vI x4), some (vI x5)], [.ref 184, vI x4, .ref 187], hp (wI S 186 (w32 x4) x3), 0, 0)) rfl ?_
    refine mv_gfI rfl rfl (sh_184) (by decide) rfl ?_
    obtain ⟨b3, F⟩ := F
    refine mv_ias rfl (sh_187) b3 ?_
    have F := F _ rfl
    refine ev_bk 1 (S' := (138, [some (.ref 184), some (.ref a1), some (vI x2), some (vI x3), some (vI x4), some (vI x5)], [.ref 184], hp (wI (wI S 186 (w32 x4) x3) 187 (w32 x4) ((wI S 186 (w32 x4) x3).1 184 12)), 0, 0)) rfl ?_
    refine mv_gfR rfl rfl (sh_184) (by decide) rfl ?_
    refine ev_bk 2 (S' := (144, [some (.ref 184), some (.ref a1), some (vI x2), some (vI x3), some (vI x4), some (vI x5)], [vI 0, vI x4, .ref 188], hp (wI (wI S 186 (w32 x4) x3) 187 (w32 x4) ((wI S 186 (w32 x4) x3).1 184 12)), 0, 0)) rfl ?_
    obtain ⟨b5, F⟩ := F
    refine mv_ias rfl (sh_188) b5 ?_
    have F := F _ rfl
    refine ev_bk 2 (S' := (147, [some (.ref 184), some (.ref a1), some (vI x2), some (vI x3), some (vI x4), some (vI x5)], [.ref 184, .ref 184], hp (wI (wI (wI S 186 (w32 x4) x3) 187 (w32 x4) ((wI S 186 (w32 x4) x3).1 184 12)) 188 (w32 x4) 0), 0, 0)) rfl ?_
    refine mv_gfI rfl rfl (sh_184) (by decide) rfl ?_
    refine ev_bk 1 (S' := (151, [some (.ref 184), some (.ref a1), some (vI x2), some (vI x3), some (vI x4), some (vI x5)], [vI 1, vI ((wI (wI (wI S 186 (w32 x4) x3) 187 (w32 x4) ((wI S 186 (w32 x4) x3).1 184 12)) 188 (w32 x4) 0).1 184 0), .ref 184], hp (wI (wI (wI S 186 (w32 x4) x3) 187 (w32 x4) ((wI S 186 (w32 x4) x3).1 184 12)) 188 (w32 x4) 0), 0, 0)) rfl ?_
    refine mv_iadd rfl ?_
    refine mv_pfI rfl rfl (sh_184) (by decide) rfl rfl ?_
    have F := F _ rfl
    refine ev_bk 2 (S' := (157, [some (.ref 184), some (.ref a1), some (vI x2), some (vI x3), some (vI x4), some (vI x5)], [.ref 184, .ref 184], hp (wI (wI (wI (wI S 186 (w32 x4) x3) 187 (w32 x4) ((wI S 186 (w32 x4) x3).1 184 12)) 188 (w32 x4) 0) 184 0 ((wI (wI (wI S 186 (w32 x4) x3) 187 (w32 x4) ((wI S 186 (w32 x4) x3).1 184 12)) 188 (w32 x4) 0).1 184 0 + 1)), 0, 0)) rfl ?_
    refine mv_gfI rfl rfl (sh_184) (by decide) rfl ?_
    refine ev_bk 1 (S' := (161, [some (.ref 184), some (.ref a1), some (vI x2), some (vI x3), some (vI x4), some (vI x5)], [vI x3, vI ((wI (wI (wI (wI S 186 (w32 x4) x3) 187 (w32 x4) ((wI S 186 (w32 x4) x3).1 184 12)) 188 (w32 x4) 0) 184 0 ((wI (wI (wI S 186 (w32 x4) x3) 187 (w32 x4) ((wI S 186 (w32 x4) x3).1 184 12)) 188 (w32 x4) 0).1 184 0 + 1)).1 184 1), .ref 184], hp (wI (wI (wI (wI S 186 (w32 x4) x3) 187 (w32 x4) ((wI S 186 (w32 x4) x3).1 184 12)) 188 (w32 x4) 0) 184 0 ((wI (wI (wI S 186 (w32 x4) x3) 187 (w32 x4) ((wI S 186 (w32 x4) x3).1 184 12)) 188 (w32 x4) 0).1 184 0 + 1)), 0, 0)) rfl ?_
    refine mv_iadd rfl ?_
    refine mv_pfI rfl rfl (sh_184) (by decide) rfl rfl ?_
    have F := F _ rfl
    refine ev_bk 1 (S' := (167, [some (.ref 184), some (.ref a1), some (vI x2), some (vI x3), some (vI x4), some (vI x5)], [vI x4], hp (wI (wI (wI (wI (wI S 186 (w32 x4) x3) 187 (w32 x4) ((wI S 186 (w32 x4) x3).1 184 12)) 188 (w32 x4) 0) 184 0 ((wI (wI (wI S 186 (w32 x4) x3) 187 (w32 x4) ((wI S 186 (w32 x4) x3).1 184 12)) 188 (w32 x4) 0).1 184 0 + 1)) 184 1 ((wI (wI (wI (wI S 186 (w32 x4) x3) 187 (w32 x4) ((wI S 186 (w32 x4) x3).1 184 12)) 188 (w32 x4) 0) 184 0 ((wI (wI (wI S 186 (w32 x4) x3) 187 (w32 x4) ((wI S 186 (w32 x4) x3).1 184 12)) 188 (w32 x4) 0).1 184 0 + 1)).1 184 1 + x3)), 0, 0)) rfl ?_
    obtain ⟨rfl, rfl⟩ := F
    exact ev_ret rfl rfl
  · have F := F.2 c
    refine ev_bk 1 (S' := (90, [some (.ref 184), some (.ref a1), some (vI x2), some (vI x3), some (vI x4), some (vI x5)], [.ref 184], hp S, 0, 0)) rfl ?_
    refine mv_gfR rfl rfl (sh_184) (by decide) rfl ?_
    refine ev_bk 2 (S' := (98, [some (.ref 184), some (.ref a1), some (vI x2), some (vI x3), some (vI x4), some (vI x5)], [vI 200, vI x4, .ref 185], hp S, 0, 0)) rfl ?_
    refine mv_imul rfl ?_
    refine ev_bk 1 (S' := (101, [some (.ref 184), some (.ref a1), some (vI x2), some (vI x3), some (vI x4), some (vI x5)], [vI x5, vI (x4 * 200), .ref 185], hp S, 0, 0)) rfl ?_
    refine mv_iadd rfl ?_
    refine ev_bk 1 (S' := (103, [some (.ref 184), some (.ref a1), some (vI x2), some (vI x3), some (vI x4), some (vI x5)], [.ref a1, vI ((x4 * 200) + x5), .ref 185], hp S, 0, 0)) rfl ?_
    refine mv_gfR rfl rfl (ha1.1) (by decide) rfl ?_
    refine ev_bk 2 (S' := (109, [some (.ref 184), some (.ref a1), some (vI x2), some (vI x3), some (vI x4), some (vI x5)], [vI x5, vI x2, .ref (a1 + 1), vI ((x4 * 200) + x5), .ref 185], hp S, 0, 0)) rfl ?_
    refine mv_iadd rfl ?_
    obtain ⟨b9, F⟩ := F
    refine mv_ial rfl (ha1.2) b9 ?_
    obtain ⟨b10, F⟩ := F
    refine mv_ias rfl (sh_185) b10 ?_
    have F := F _ rfl
    refine mv_inc (lv' := [some (.ref 184), some (.ref a1), some (vI x2), some (vI x3), some (vI x4), some (vI (x5 + 1))]) 5 1 rfl rfl rfl rfl ?_
    refine mv_goto 83 rfl rfl ?_
    exact F
theorem vc_Store_isLike {q : Nat × (Nat → Int32)} {S S' : ms} {r : Option Value} (x1 x3 x4 : Int) (a2 na2 : Nat) (ha2 : isRow a2 na2)
    (F : (0 ≤ w32 x1 ∧ w32 x1 < (300 : Nat)) ∧ ((¬ w32 (S.1 186 (w32 x1)) = w32 x4) → r = some (vI 0) ∧ S' = S) ∧ ((¬ (¬ w32 (S.1 186 (w32 x1)) = w32 x4)) → (0 ≤ w32 x1 ∧ w32 x1 < (300 : Nat)) ∧ ((w32 (S.1 187 (w32 x1)) = w32 (S.1 184 12)) → EV q 245 29 [some (.ref 184), some (vI x1), some (.ref a2), some (vI x3), some (vI x4), some (vI 0)] [] S r S') ∧ ((¬ w32 (S.1 187 (w32 x1)) = w32 (S.1 184 12)) → r = some (vI 0) ∧ S' = S))) : EV q 245 0 [some (.ref 184), some (vI x1), some (.ref a2), some (vI x3), some (vI x4), none] [] S r S' := by
  unfold EV
  refine ev_bk 1 (S' := (1, [some (.ref 184), some (vI x1), some (.ref a2), some (vI x3), some (vI x4), none], [.ref 184], hp S, 0, 0)) rfl ?_
  refine mv_gfR rfl rfl (sh_184) (by decide) rfl ?_
  refine ev_bk 1 (S' := (5, [some (.ref 184), some (vI x1), some (.ref a2), some (vI x3), some (vI x4), none], [vI x1, .ref 186], hp S, 0, 0)) rfl ?_
  obtain ⟨b1, F⟩ := F
  refine mv_ial rfl (sh_186) b1 ?_
  refine ev_bk 1 (S' := (8, [some (.ref 184), some (vI x1), some (.ref a2), some (vI x3), some (vI x4), none], [vI x4, vI (S.1 186 (w32 x1))], hp S, 0, 0)) rfl ?_
  refine mv_icmp 24 rfl rfl (fun c => ?_) (fun c => ?_)
  · have F := F.1 c
    refine ev_bk 1 (S' := (25, [some (.ref 184), some (vI x1), some (.ref a2), some (vI x3), some (vI x4), none], [vI 0], hp S, 0, 0)) rfl ?_
    obtain ⟨rfl, rfl⟩ := F
    exact ev_ret rfl rfl
  · have F := F.2 c
    refine ev_bk 1 (S' := (12, [some (.ref 184), some (vI x1), some (.ref a2), some (vI x3), some (vI x4), none], [.ref 184], hp S, 0, 0)) rfl ?_
    refine mv_gfR rfl rfl (sh_184) (by decide) rfl ?_
    refine ev_bk 1 (S' := (16, [some (.ref 184), some (vI x1), some (.ref a2), some (vI x3), some (vI x4), none], [vI x1, .ref 187], hp S, 0, 0)) rfl ?_
    obtain ⟨b2, F⟩ := F
    refine mv_ial rfl (sh_187) b2 ?_
    refine ev_bk 1 (S' := (18, [some (.ref 184), some (vI x1), some (.ref a2), some (vI x3), some (vI x4), none], [.ref 184, vI (S.1 187 (w32 x1))], hp S, 0, 0)) rfl ?_
    refine mv_gfI rfl rfl (sh_184) (by decide) rfl ?_
    refine mv_icmp 26 rfl rfl (fun c => ?_) (fun c => ?_)
    · have F := F.1 c
      refine ev_bk 2 (S' := (29, [some (.ref 184), some (vI x1), some (.ref a2), some (vI x3), some (vI x4), some (vI 0)], [], hp S, 0, 0)) rfl ?_
      exact F
    · have F := F.2 c
      refine ev_bk 1 (S' := (25, [some (.ref 184), some (vI x1), some (.ref a2), some (vI x3), some (vI x4), none], [vI 0], hp S, 0, 0)) rfl ?_
      obtain ⟨rfl, rfl⟩ := F
      exact ev_ret rfl rfl
theorem vc_Store_isLike_29 {q : Nat × (Nat → Int32)} {S S' : ms} {r : Option Value} (x1 x3 x4 x5 : Int) (a2 na2 : Nat) (ha2 : isRow a2 na2)
    (F : ((w32 x4 ≤ w32 x5) → r = some (vI 1) ∧ S' = S) ∧ ((¬ w32 x4 ≤ w32 x5) → (0 ≤ w32 ((x1 * 200) + x5) ∧ w32 ((x1 * 200) + x5) < (60000 : Nat)) ∧ (0 ≤ w32 (x3 + x5) ∧ w32 (x3 + x5) < (na2 : Nat)) ∧ ((w32 (S.1 185 (w32 ((x1 * 200) + x5))) = w32 (S.1 (a2 + 1) (w32 (x3 + x5)))) → EV q 245 29 [some (.ref 184), some (vI x1), some (.ref a2), some (vI x3), some (vI x4), some (vI (x5 + 1))] [] S r S') ∧ ((¬ w32 (S.1 185 (w32 ((x1 * 200) + x5))) = w32 (S.1 (a2 + 1) (w32 (x3 + x5)))) → r = some (vI 0) ∧ S' = S))) : EV q 245 29 [some (.ref 184), some (vI x1), some (.ref a2), some (vI x3), some (vI x4), some (vI x5)] [] S r S' := by
  unfold EV
  refine ev_bk 2 (S' := (33, [some (.ref 184), some (vI x1), some (.ref a2), some (vI x3), some (vI x4), some (vI x5)], [vI x4, vI x5], hp S, 0, 0)) rfl ?_
  refine mv_icmp 69 rfl rfl (fun c => ?_) (fun c => ?_)
  · have F := F.1 c
    refine ev_bk 1 (S' := (70, [some (.ref 184), some (vI x1), some (.ref a2), some (vI x3), some (vI x4), some (vI x5)], [vI 1], hp S, 0, 0)) rfl ?_
    obtain ⟨rfl, rfl⟩ := F
    exact ev_ret rfl rfl
  · have F := F.2 c
    refine ev_bk 1 (S' := (37, [some (.ref 184), some (vI x1), some (.ref a2), some (vI x3), some (vI x4), some (vI x5)], [.ref 184], hp S, 0, 0)) rfl ?_
    refine mv_gfR rfl rfl (sh_184) (by decide) rfl ?_
    refine ev_bk 2 (S' := (44, [some (.ref 184), some (vI x1), some (.ref a2), some (vI x3), some (vI x4), some (vI x5)], [vI 200, vI x1, .ref 185], hp S, 0, 0)) rfl ?_
    refine mv_imul rfl ?_
    refine ev_bk 1 (S' := (47, [some (.ref 184), some (vI x1), some (.ref a2), some (vI x3), some (vI x4), some (vI x5)], [vI x5, vI (x1 * 200), .ref 185], hp S, 0, 0)) rfl ?_
    refine mv_iadd rfl ?_
    obtain ⟨b1, F⟩ := F
    refine mv_ial rfl (sh_185) b1 ?_
    refine ev_bk 1 (S' := (50, [some (.ref 184), some (vI x1), some (.ref a2), some (vI x3), some (vI x4), some (vI x5)], [.ref a2, vI (S.1 185 (w32 ((x1 * 200) + x5)))], hp S, 0, 0)) rfl ?_
    refine mv_gfR rfl rfl (ha2.1) (by decide) rfl ?_
    refine ev_bk 2 (S' := (56, [some (.ref 184), some (vI x1), some (.ref a2), some (vI x3), some (vI x4), some (vI x5)], [vI x5, vI x3, .ref (a2 + 1), vI (S.1 185 (w32 ((x1 * 200) + x5)))], hp S, 0, 0)) rfl ?_
    refine mv_iadd rfl ?_
    obtain ⟨b2, F⟩ := F
    refine mv_ial rfl (ha2.2) b2 ?_
    refine mv_icmp 63 rfl rfl (fun c => ?_) (fun c => ?_)
    · have F := F.1 c
      refine mv_inc (lv' := [some (.ref 184), some (vI x1), some (.ref a2), some (vI x3), some (vI x4), some (vI (x5 + 1))]) 5 1 rfl rfl rfl rfl ?_
      refine mv_goto 29 rfl rfl ?_
      exact F
    · have F := F.2 c
      refine ev_bk 1 (S' := (62, [some (.ref 184), some (vI x1), some (.ref a2), some (vI x3), some (vI x4), some (vI x5)], [vI 0], hp S, 0, 0)) rfl ?_
      obtain ⟨rfl, rfl⟩ := F
      exact ev_ret rfl rfl
theorem vc_Store_sweep {q : Nat × (Nat → Int32)} {S S' : ms} {r : Option Value}
    (F : EV q 246 4 [some (.ref 184), some (vI 0), some (vI 0)] [] S r S') : EV q 246 0 [some (.ref 184), none, none] [] S r S' := by
  unfold EV
  refine ev_bk 4 (S' := (4, [some (.ref 184), some (vI 0), some (vI 0)], [], hp S, 0, 0)) rfl ?_
  exact F
theorem vc_Store_sweep_4 {q : Nat × (Nat → Int32)} {S S' : ms} {r : Option Value} (x1 x2 : Int)
    (F : ((300 ≤ w32 x2) → r = some (vI x1) ∧ S' = S) ∧ ((¬ 300 ≤ w32 x2) → (0 ≤ w32 x2 ∧ w32 x2 < (300 : Nat)) ∧ ((w32 (S.1 186 (w32 x2)) ≤ 0) → EV q 246 64 [some (.ref 184), some (vI x1), some (vI x2)] [] S r S') ∧ ((¬ w32 (S.1 186 (w32 x2)) ≤ 0) → (0 ≤ w32 x2 ∧ w32 x2 < (300 : Nat)) ∧ ((¬ w32 (S.1 188 (w32 x2)) = 0) → EV q 246 64 [some (.ref 184), some (vI x1), some (vI x2)] [] S r S') ∧ ((¬ (¬ w32 (S.1 188 (w32 x2)) = 0)) → ∀ S3 : ms, S3 = wI S 184 0 ((S.1 184 0) - 1) → (0 ≤ w32 x2 ∧ w32 x2 < (300 : Nat)) ∧ ∀ S5 : ms, S5 = wI S3 184 1 ((S3.1 184 1) - (S3.1 186 (w32 x2))) → (0 ≤ w32 x2 ∧ w32 x2 < (300 : Nat)) ∧ ∀ S7 : ms, S7 = wI S5 186 (w32 x2) 0 → EV q 246 64 [some (.ref 184), some (vI (x1 + 1)), some (vI x2)] [] S7 r S')))) : EV q 246 4 [some (.ref 184), some (vI x1), some (vI x2)] [] S r S' := by
  unfold EV
  refine ev_bk 2 (S' := (8, [some (.ref 184), some (vI x1), some (vI x2)], [vI 300, vI x2], hp S, 0, 0)) rfl ?_
  refine mv_icmp 70 rfl rfl (fun c => ?_) (fun c => ?_)
  · have F := F.1 c
    refine ev_bk 1 (S' := (71, [some (.ref 184), some (vI x1), some (vI x2)], [vI x1], hp S, 0, 0)) rfl ?_
    obtain ⟨rfl, rfl⟩ := F
    exact ev_ret rfl rfl
  · have F := F.2 c
    refine ev_bk 1 (S' := (12, [some (.ref 184), some (vI x1), some (vI x2)], [.ref 184], hp S, 0, 0)) rfl ?_
    refine mv_gfR rfl rfl (sh_184) (by decide) rfl ?_
    refine ev_bk 1 (S' := (16, [some (.ref 184), some (vI x1), some (vI x2)], [vI x2, .ref 186], hp S, 0, 0)) rfl ?_
    obtain ⟨b1, F⟩ := F
    refine mv_ial rfl (sh_186) b1 ?_
    refine mv_if 64 rfl rfl (fun c => ?_) (fun c => ?_)
    · have F := F.1 c
      exact F
    · have F := F.2 c
      refine ev_bk 1 (S' := (21, [some (.ref 184), some (vI x1), some (vI x2)], [.ref 184], hp S, 0, 0)) rfl ?_
      refine mv_gfR rfl rfl (sh_184) (by decide) rfl ?_
      refine ev_bk 1 (S' := (25, [some (.ref 184), some (vI x1), some (vI x2)], [vI x2, .ref 188], hp S, 0, 0)) rfl ?_
      obtain ⟨b2, F⟩ := F
      refine mv_ial rfl (sh_188) b2 ?_
      refine mv_if 64 rfl rfl (fun c => ?_) (fun c => ?_)
      · have F := F.1 c
        exact F
      · have F := F.2 c
        refine ev_bk 2 (S' := (31, [some (.ref 184), some (vI x1), some (vI x2)], [.ref 184, .ref 184], hp S, 0, 0)) rfl ?_
        refine mv_gfI rfl rfl (sh_184) (by decide) rfl ?_
        refine ev_bk 1 (S' := (35, [some (.ref 184), some (vI x1), some (vI x2)], [vI 1, vI (S.1 184 0), .ref 184], hp S, 0, 0)) rfl ?_
        refine mv_isub rfl ?_
        refine mv_pfI rfl rfl (sh_184) (by decide) rfl rfl ?_
        have F := F _ rfl
        refine ev_bk 2 (S' := (41, [some (.ref 184), some (vI x1), some (vI x2)], [.ref 184, .ref 184], hp (wI S 184 0 ((S.1 184 0) - 1)), 0, 0)) rfl ?_
        refine mv_gfI rfl rfl (sh_184) (by decide) rfl ?_
        refine ev_bk 1 (S' := (45, [some (.ref 184), some (vI x1), some (vI x2)], [.ref 184, vI ((wI S 184 0 ((S.1 184 0) - 1)).1 184 1), .ref 184], hp (wI S 184 0 ((S.1 184 0) - 1)), 0, 0)) rfl ?_
        refine mv_gfR rfl rfl (sh_184) (by decide) rfl ?_
        refine ev_bk 1 (S' := (49, [some (.ref 184), some (vI x1), some (vI x2)], [vI x2, .ref 186, vI ((wI S 184 0 ((S.1 184 0) - 1)).1 184 1), .ref 184], hp (wI S 184 0 ((S.1 184 0) - 1)), 0, 0)) rfl ?_
        obtain ⟨b4, F⟩ := F
        refine mv_ial rfl (sh_186) b4 ?_
        refine mv_isub rfl ?_
        refine mv_pfI rfl rfl (sh_184) (by decide) rfl rfl ?_
        have F := F _ rfl
        refine ev_bk 1 (S' := (55, [some (.ref 184), some (vI x1), some (vI x2)], [.ref 184], hp (wI (wI S 184 0 ((S.1 184 0) - 1)) 184 1 (((wI S 184 0 ((S.1 184 0) - 1)).1 184 1) - ((wI S 184 0 ((S.1 184 0) - 1)).1 186 (w32 x2)))), 0, 0)) rfl ?_
        refine mv_gfR rfl rfl (sh_184) (by decide) rfl ?_
        refine ev_bk 2 (S' := (60, [some (.ref 184), some (vI x1), some (vI x2)], [vI 0, vI x2, .ref 186], hp (wI (wI S 184 0 ((S.1 184 0) - 1)) 184 1 (((wI S 184 0 ((S.1 184 0) - 1)).1 184 1) - ((wI S 184 0 ((S.1 184 0) - 1)).1 186 (w32 x2)))), 0, 0)) rfl ?_
        obtain ⟨b6, F⟩ := F
        refine mv_ias rfl (sh_186) b6 ?_
        have F := F _ rfl
        refine mv_inc (lv' := [some (.ref 184), some (vI (x1 + 1)), some (vI x2)]) 1 1 rfl rfl rfl rfl ?_
        exact F
theorem vc_Store_sweep_64 {q : Nat × (Nat → Int32)} {S S' : ms} {r : Option Value} (x1 x2 : Int)
    (F : EV q 246 4 [some (.ref 184), some (vI x1), some (vI (x2 + 1))] [] S r S') : EV q 246 64 [some (.ref 184), some (vI x1), some (vI x2)] [] S r S' := by
  unfold EV
  refine mv_inc (lv' := [some (.ref 184), some (vI x1), some (vI (x2 + 1))]) 2 1 rfl rfl rfl rfl ?_
  refine mv_goto 4 rfl rfl ?_
  exact F
theorem vc_Store_find {q : Nat × (Nat → Int32)} {S S' : ms} {r : Option Value} (x1 : Int)
    (F : EV q 248 2 [some (.ref 184), some (vI x1), some (vI 0)] [] S r S') : EV q 248 0 [some (.ref 184), some (vI x1), none] [] S r S' := by
  unfold EV
  refine ev_bk 2 (S' := (2, [some (.ref 184), some (vI x1), some (vI 0)], [], hp S, 0, 0)) rfl ?_
  exact F
theorem vc_Store_find_2 {q : Nat × (Nat → Int32)} {S S' : ms} {r : Option Value} (x1 x2 : Int)
    (F : ((8 ≤ w32 x2) → r = some (vI ((-1))) ∧ S' = S) ∧ ((¬ 8 ≤ w32 x2) → ((w32 x1 ≤ 0) → EV q 248 24 [some (.ref 184), some (vI x1), some (vI x2)] [] S r S') ∧ ((¬ w32 x1 ≤ 0) → (0 ≤ w32 x2 ∧ w32 x2 < (8 : Nat)) ∧ ((¬ w32 (S.1 190 (w32 x2)) = w32 x1) → EV q 248 24 [some (.ref 184), some (vI x1), some (vI x2)] [] S r S') ∧ ((¬ (¬ w32 (S.1 190 (w32 x2)) = w32 x1)) → r = some (vI x2) ∧ S' = S)))) : EV q 248 2 [some (.ref 184), some (vI x1), some (vI x2)] [] S r S' := by
  unfold EV
  refine ev_bk 2 (S' := (5, [some (.ref 184), some (vI x1), some (vI x2)], [vI 8, vI x2], hp S, 0, 0)) rfl ?_
  refine mv_icmp 30 rfl rfl (fun c => ?_) (fun c => ?_)
  · have F := F.1 c
    refine ev_bk 1 (S' := (31, [some (.ref 184), some (vI x1), some (vI x2)], [vI ((-1))], hp S, 0, 0)) rfl ?_
    obtain ⟨rfl, rfl⟩ := F
    exact ev_ret rfl rfl
  · have F := F.2 c
    refine ev_bk 1 (S' := (9, [some (.ref 184), some (vI x1), some (vI x2)], [vI x1], hp S, 0, 0)) rfl ?_
    refine mv_if 24 rfl rfl (fun c => ?_) (fun c => ?_)
    · have F := F.1 c
      exact F
    · have F := F.2 c
      refine ev_bk 1 (S' := (13, [some (.ref 184), some (vI x1), some (vI x2)], [.ref 184], hp S, 0, 0)) rfl ?_
      refine mv_gfR rfl rfl (sh_184) (by decide) rfl ?_
      refine ev_bk 1 (S' := (17, [some (.ref 184), some (vI x1), some (vI x2)], [vI x2, .ref 190], hp S, 0, 0)) rfl ?_
      obtain ⟨b1, F⟩ := F
      refine mv_ial rfl (sh_190) b1 ?_
      refine ev_bk 1 (S' := (19, [some (.ref 184), some (vI x1), some (vI x2)], [vI x1, vI (S.1 190 (w32 x2))], hp S, 0, 0)) rfl ?_
      refine mv_icmp 24 rfl rfl (fun c => ?_) (fun c => ?_)
      · have F := F.1 c
        exact F
      · have F := F.2 c
        refine ev_bk 1 (S' := (23, [some (.ref 184), some (vI x1), some (vI x2)], [vI x2], hp S, 0, 0)) rfl ?_
        obtain ⟨rfl, rfl⟩ := F
        exact ev_ret rfl rfl
theorem vc_Store_find_24 {q : Nat × (Nat → Int32)} {S S' : ms} {r : Option Value} (x1 x2 : Int)
    (F : EV q 248 2 [some (.ref 184), some (vI x1), some (vI (x2 + 1))] [] S r S') : EV q 248 24 [some (.ref 184), some (vI x1), some (vI x2)] [] S r S' := by
  unfold EV
  refine mv_inc (lv' := [some (.ref 184), some (vI x1), some (vI (x2 + 1))]) 2 1 rfl rfl rfl rfl ?_
  refine mv_goto 2 rfl rfl ?_
  exact F
theorem vc_Store_copyOut {q : Nat × (Nat → Int32)} {S S' : ms} {r : Option Value} (x1 : Int) (a2 na2 : Nat) (ha2 : isRow a2 na2)
    (F : EV q 249 2 [some (.ref 184), some (vI x1), some (.ref a2), some (vI 0), none] [] S r S') : EV q 249 0 [some (.ref 184), some (vI x1), some (.ref a2), none, none] [] S r S' := by
  unfold EV
  refine ev_bk 2 (S' := (2, [some (.ref 184), some (vI x1), some (.ref a2), some (vI 0), none], [], hp S, 0, 0)) rfl ?_
  exact F
theorem vc_Store_copyOut_2 {q : Nat × (Nat → Int32)} {S S' : ms} {r : Option Value} (x1 x3 : Int) (a2 na2 : Nat) (ha2 : isRow a2 na2)
    (F : (0 ≤ w32 x1 ∧ w32 x1 < (8 : Nat)) ∧ ((w32 (S.1 191 (w32 x1)) ≤ w32 x3) → r = none ∧ S' = S) ∧ ((¬ w32 (S.1 191 (w32 x1)) ≤ w32 x3) → (0 ≤ w32 ((x1 * 192) + x3) ∧ w32 ((x1 * 192) + x3) < (1536 : Nat)) ∧ (0 ≤ w32 (S.1 192 (w32 ((x1 * 192) + x3))) ∧ w32 (S.1 192 (w32 ((x1 * 192) + x3))) < (300 : Nat)) ∧ ∃ (S4 : ms), EV q 38 0 [some (.ref a2), some (.ref 185), some (vI ((S.1 192 (w32 ((x1 * 192) + x3))) * 200)), some (vI (((S.1 192 (w32 ((x1 * 192) + x3))) * 200) + (S.1 186 (w32 (S.1 192 (w32 ((x1 * 192) + x3))))))), none] [] S none S4 ∧ EV q 249 2 [some (.ref 184), some (vI x1), some (.ref a2), some (vI (x3 + 1)), none] [] S4 r S')) : EV q 249 2 [some (.ref 184), some (vI x1), some (.ref a2), some (vI x3), none] [] S r S' := by
  unfold EV
  refine ev_bk 2 (S' := (4, [some (.ref 184), some (vI x1), some (.ref a2), some (vI x3), none], [.ref 184, vI x3], hp S, 0, 0)) rfl ?_
  refine mv_gfR rfl rfl (sh_184) (by decide) rfl ?_
  refine ev_bk 1 (S' := (8, [some (.ref 184), some (vI x1), some (.ref a2), some (vI x3), none], [vI x1, .ref 191, vI x3], hp S, 0, 0)) rfl ?_
  obtain ⟨b1, F⟩ := F
  refine mv_ial rfl (sh_191) b1 ?_
  refine mv_icmp 60 rfl rfl (fun c => ?_) (fun c => ?_)
  · have F := F.1 c
    obtain ⟨rfl, rfl⟩ := F
    exact ev_ret rfl rfl
  · have F := F.2 c
    refine ev_bk 1 (S' := (13, [some (.ref 184), some (vI x1), some (.ref a2), some (vI x3), none], [.ref 184], hp S, 0, 0)) rfl ?_
    refine mv_gfR rfl rfl (sh_184) (by decide) rfl ?_
    refine ev_bk 2 (S' := (20, [some (.ref 184), some (vI x1), some (.ref a2), some (vI x3), none], [vI 192, vI x1, .ref 192], hp S, 0, 0)) rfl ?_
    refine mv_imul rfl ?_
    refine ev_bk 1 (S' := (22, [some (.ref 184), some (vI x1), some (.ref a2), some (vI x3), none], [vI x3, vI (x1 * 192), .ref 192], hp S, 0, 0)) rfl ?_
    refine mv_iadd rfl ?_
    obtain ⟨b2, F⟩ := F
    refine mv_ial rfl (sh_192) b2 ?_
    refine ev_bk 3 (S' := (28, [some (.ref 184), some (vI x1), some (.ref a2), some (vI x3), some (vI (S.1 192 (w32 ((x1 * 192) + x3))))], [.ref 184, .ref a2], hp S, 0, 0)) rfl ?_
    refine mv_gfR rfl rfl (sh_184) (by decide) rfl ?_
    refine ev_bk 2 (S' := (36, [some (.ref 184), some (vI x1), some (.ref a2), some (vI x3), some (vI (S.1 192 (w32 ((x1 * 192) + x3))))], [vI 200, vI (S.1 192 (w32 ((x1 * 192) + x3))), .ref 185, .ref a2], hp S, 0, 0)) rfl ?_
    refine mv_imul rfl ?_
    refine ev_bk 2 (S' := (42, [some (.ref 184), some (vI x1), some (.ref a2), some (vI x3), some (vI (S.1 192 (w32 ((x1 * 192) + x3))))], [vI 200, vI (S.1 192 (w32 ((x1 * 192) + x3))), vI ((S.1 192 (w32 ((x1 * 192) + x3))) * 200), .ref 185, .ref a2], hp S, 0, 0)) rfl ?_
    refine mv_imul rfl ?_
    refine ev_bk 1 (S' := (44, [some (.ref 184), some (vI x1), some (.ref a2), some (vI x3), some (vI (S.1 192 (w32 ((x1 * 192) + x3))))], [.ref 184, vI ((S.1 192 (w32 ((x1 * 192) + x3))) * 200), vI ((S.1 192 (w32 ((x1 * 192) + x3))) * 200), .ref 185, .ref a2], hp S, 0, 0)) rfl ?_
    refine mv_gfR rfl rfl (sh_184) (by decide) rfl ?_
    refine ev_bk 1 (S' := (49, [some (.ref 184), some (vI x1), some (.ref a2), some (vI x3), some (vI (S.1 192 (w32 ((x1 * 192) + x3))))], [vI (S.1 192 (w32 ((x1 * 192) + x3))), .ref 186, vI ((S.1 192 (w32 ((x1 * 192) + x3))) * 200), vI ((S.1 192 (w32 ((x1 * 192) + x3))) * 200), .ref 185, .ref a2], hp S, 0, 0)) rfl ?_
    obtain ⟨b3, F⟩ := F
    refine mv_ial rfl (sh_186) b3 ?_
    refine mv_iadd rfl ?_
    obtain ⟨S4, e5, F⟩ := F
    refine mv_calv (as := [.ref 185, vI ((S.1 192 (w32 ((x1 * 192) + x3))) * 200), vI (((S.1 192 (w32 ((x1 * 192) + x3))) * 200) + (S.1 186 (w32 (S.1 192 (w32 ((x1 * 192) + x3))))))]) (rest := []) e5 (ha2.1) rfl rfl rfl ⟨rfl, rfl⟩ rfl rfl rfl rfl rfl ?_
    refine mv_inc (lv' := [some (.ref 184), some (vI x1), some (.ref a2), some (vI (x3 + 1)), some (vI (S.1 192 (w32 ((x1 * 192) + x3))))]) 3 1 rfl rfl rfl rfl ?_
    refine mv_goto 2 rfl rfl ?_
    exact ev_wk (le_s (le_s (le_s (le_s (le_n le_0))))) F
theorem vc_Store_leave {q : Nat × (Nat → Int32)} {S S' : ms} {r : Option Value} (x1 : Int)
    (F : EV q 251 2 [some (.ref 184), some (vI x1), some (vI 0)] [] S r S') : EV q 251 0 [some (.ref 184), some (vI x1), none] [] S r S' := by
  unfold EV
  refine ev_bk 2 (S' := (2, [some (.ref 184), some (vI x1), some (vI 0)], [], hp S, 0, 0)) rfl ?_
  exact F
theorem vc_Store_leave_2 {q : Nat × (Nat → Int32)} {S S' : ms} {r : Option Value} (x1 x2 : Int)
    (F : (0 ≤ w32 x1 ∧ w32 x1 < (8 : Nat)) ∧ ((w32 (S.1 191 (w32 x1)) ≤ w32 x2) → (0 ≤ w32 x1 ∧ w32 x1 < (8 : Nat)) ∧ ∀ S3 : ms, S3 = wI S 190 (w32 x1) 0 → (0 ≤ w32 x1 ∧ w32 x1 < (8 : Nat)) ∧ ∀ S5 : ms, S5 = wI S3 191 (w32 x1) 0 → ∀ S6 : ms, S6 = wI S5 184 2 ((S5.1 184 2) - 1) → ∃ (z9 : Int) (S7 : ms), EV q 246 0 [some (.ref 184), none, none] [] S6 (some (vI z9)) S7 ∧ r = some (vI z9) ∧ S' = S7) ∧ ((¬ w32 (S.1 191 (w32 x1)) ≤ w32 x2) → (0 ≤ w32 ((x1 * 192) + x2) ∧ w32 ((x1 * 192) + x2) < (1536 : Nat)) ∧ (0 ≤ w32 (S.1 192 (w32 ((x1 * 192) + x2))) ∧ w32 (S.1 192 (w32 ((x1 * 192) + x2))) < (300 : Nat)) ∧ (0 ≤ w32 (S.1 192 (w32 ((x1 * 192) + x2))) ∧ w32 (S.1 192 (w32 ((x1 * 192) + x2))) < (300 : Nat)) ∧ ∀ S13 : ms, S13 = wI S 188 (w32 (S.1 192 (w32 ((x1 * 192) + x2)))) ((S.1 188 (w32 (S.1 192 (w32 ((x1 * 192) + x2))))) - 1) → EV q 251 2 [some (.ref 184), some (vI x1), some (vI (x2 + 1))] [] S13 r S')) : EV q 251 2 [some (.ref 184), some (vI x1), some (vI x2)] [] S r S' := by
  unfold EV
  refine ev_bk 2 (S' := (4, [some (.ref 184), some (vI x1), some (vI x2)], [.ref 184, vI x2], hp S, 0, 0)) rfl ?_
  refine mv_gfR rfl rfl (sh_184) (by decide) rfl ?_
  refine ev_bk 1 (S' := (8, [some (.ref 184), some (vI x1), some (vI x2)], [vI x1, .ref 191, vI x2], hp S, 0, 0)) rfl ?_
  obtain ⟨b1, F⟩ := F
  refine mv_ial rfl (sh_191) b1 ?_
  refine mv_icmp 39 rfl rfl (fun c => ?_) (fun c => ?_)
  · have F := F.1 c
    refine ev_bk 1 (S' := (40, [some (.ref 184), some (vI x1), some (vI x2)], [.ref 184], hp S, 0, 0)) rfl ?_
    refine mv_gfR rfl rfl (sh_184) (by decide) rfl ?_
    refine ev_bk 2 (S' := (45, [some (.ref 184), some (vI x1), some (vI x2)], [vI 0, vI x1, .ref 190], hp S, 0, 0)) rfl ?_
    obtain ⟨b2, F⟩ := F
    refine mv_ias rfl (sh_190) b2 ?_
    have F := F _ rfl
    refine ev_bk 1 (S' := (47, [some (.ref 184), some (vI x1), some (vI x2)], [.ref 184], hp (wI S 190 (w32 x1) 0), 0, 0)) rfl ?_
    refine mv_gfR rfl rfl (sh_184) (by decide) rfl ?_
    refine ev_bk 2 (S' := (52, [some (.ref 184), some (vI x1), some (vI x2)], [vI 0, vI x1, .ref 191], hp (wI S 190 (w32 x1) 0), 0, 0)) rfl ?_
    obtain ⟨b4, F⟩ := F
    refine mv_ias rfl (sh_191) b4 ?_
    have F := F _ rfl
    refine ev_bk 2 (S' := (55, [some (.ref 184), some (vI x1), some (vI x2)], [.ref 184, .ref 184], hp (wI (wI S 190 (w32 x1) 0) 191 (w32 x1) 0), 0, 0)) rfl ?_
    refine mv_gfI rfl rfl (sh_184) (by decide) rfl ?_
    refine ev_bk 1 (S' := (59, [some (.ref 184), some (vI x1), some (vI x2)], [vI 1, vI ((wI (wI S 190 (w32 x1) 0) 191 (w32 x1) 0).1 184 2), .ref 184], hp (wI (wI S 190 (w32 x1) 0) 191 (w32 x1) 0), 0, 0)) rfl ?_
    refine mv_isub rfl ?_
    refine mv_pfI rfl rfl (sh_184) (by decide) rfl rfl ?_
    have F := F _ rfl
    refine ev_bk 1 (S' := (64, [some (.ref 184), some (vI x1), some (vI x2)], [.ref 184], hp (wI (wI (wI S 190 (w32 x1) 0) 191 (w32 x1) 0) 184 2 (((wI (wI S 190 (w32 x1) 0) 191 (w32 x1) 0).1 184 2) - 1)), 0, 0)) rfl ?_
    obtain ⟨z9, S7, e8, F⟩ := F
    refine mv_calv (as := []) (rest := []) e8 (sh_184) rfl rfl rfl ⟨rfl, rfl⟩ rfl rfl rfl rfl rfl ?_
    obtain ⟨rfl, rfl⟩ := F
    exact ev_ret rfl rfl
  · have F := F.2 c
    refine ev_bk 1 (S' := (13, [some (.ref 184), some (vI x1), some (vI x2)], [.ref 184], hp S, 0, 0)) rfl ?_
    refine mv_gfR rfl rfl (sh_184) (by decide) rfl ?_
    refine ev_bk 1 (S' := (17, [some (.ref 184), some (vI x1), some (vI x2)], [.ref 184, .ref 188], hp S, 0, 0)) rfl ?_
    refine mv_gfR rfl rfl (sh_184) (by decide) rfl ?_
    refine ev_bk 2 (S' := (24, [some (.ref 184), some (vI x1), some (vI x2)], [vI 192, vI x1, .ref 192, .ref 188], hp S, 0, 0)) rfl ?_
    refine mv_imul rfl ?_
    refine ev_bk 1 (S' := (26, [some (.ref 184), some (vI x1), some (vI x2)], [vI x2, vI (x1 * 192), .ref 192, .ref 188], hp S, 0, 0)) rfl ?_
    refine mv_iadd rfl ?_
    obtain ⟨b10, F⟩ := F
    refine mv_ial rfl (sh_192) b10 ?_
    refine ev_bk 1 (S' := (29, [some (.ref 184), some (vI x1), some (vI x2)], [vI (S.1 192 (w32 ((x1 * 192) + x2))), .ref 188, vI (S.1 192 (w32 ((x1 * 192) + x2))), .ref 188], hp S, 0, 0)) rfl ?_
    obtain ⟨b11, F⟩ := F
    refine mv_ial rfl (sh_188) b11 ?_
    refine ev_bk 1 (S' := (31, [some (.ref 184), some (vI x1), some (vI x2)], [vI 1, vI (S.1 188 (w32 (S.1 192 (w32 ((x1 * 192) + x2))))), vI (S.1 192 (w32 ((x1 * 192) + x2))), .ref 188], hp S, 0, 0)) rfl ?_
    refine mv_isub rfl ?_
    obtain ⟨b12, F⟩ := F
    refine mv_ias rfl (sh_188) b12 ?_
    have F := F _ rfl
    refine mv_inc (lv' := [some (.ref 184), some (vI x1), some (vI (x2 + 1))]) 2 1 rfl rfl rfl rfl ?_
    refine mv_goto 2 rfl rfl ?_
    exact F
theorem vc_Store_countBoth {q : Nat × (Nat → Int32)} {S S' : ms} {r : Option Value} (x1 x2 : Int)
    (F : ∃ (S1 : ms), EV q 11 0 [some (.ref 189), some (vI 0), none, none] [] S none S1 ∧ EV q 253 10 [some (.ref 184), some (vI x1), some (vI x2), some (vI 0), none] [] S1 r S') : EV q 253 0 [some (.ref 184), some (vI x1), some (vI x2), none, none] [] S r S' := by
  unfold EV
  refine ev_bk 1 (S' := (1, [some (.ref 184), some (vI x1), some (vI x2), none, none], [.ref 184], hp S, 0, 0)) rfl ?_
  refine mv_gfR rfl rfl (sh_184) (by decide) rfl ?_
  refine ev_bk 1 (S' := (5, [some (.ref 184), some (vI x1), some (vI x2), none, none], [vI 0, .ref 189], hp S, 0, 0)) rfl ?_
  obtain ⟨S1, e2, F⟩ := F
  refine mv_cals (as := [.ref 189, vI 0]) (rest := []) e2 rfl rfl rfl ⟨rfl, rfl, rfl⟩ rfl rfl rfl rfl ?_
  refine ev_bk 2 (S' := (10, [some (.ref 184), some (vI x1), some (vI x2), some (vI 0), none], [], hp S1, 0, 0)) rfl ?_
  exact F
theorem vc_Store_countBoth_10 {q : Nat × (Nat → Int32)} {S S' : ms} {r : Option Value} (x1 x2 x3 : Int)
    (F : (0 ≤ w32 x1 ∧ w32 x1 < (8 : Nat)) ∧ ((w32 (S.1 191 (w32 x1)) ≤ w32 x3) → EV q 253 49 [some (.ref 184), some (vI x1), some (vI x2), some (vI 0), none] [] S r S') ∧ ((¬ w32 (S.1 191 (w32 x1)) ≤ w32 x3) → (0 ≤ w32 ((x1 * 192) + x3) ∧ w32 ((x1 * 192) + x3) < (1536 : Nat)) ∧ (0 ≤ w32 (S.1 192 (w32 ((x1 * 192) + x3))) ∧ w32 (S.1 192 (w32 ((x1 * 192) + x3))) < (300 : Nat)) ∧ (0 ≤ w32 (S.1 192 (w32 ((x1 * 192) + x3))) ∧ w32 (S.1 192 (w32 ((x1 * 192) + x3))) < (300 : Nat)) ∧ ∀ S5 : ms, S5 = wI S 189 (w32 (S.1 192 (w32 ((x1 * 192) + x3)))) (bO (S.1 189 (w32 (S.1 192 (w32 ((x1 * 192) + x3))))) 1) → EV q 253 10 [some (.ref 184), some (vI x1), some (vI x2), some (vI (x3 + 1)), none] [] S5 r S')) : EV q 253 10 [some (.ref 184), some (vI x1), some (vI x2), some (vI x3), none] [] S r S' := by
  unfold EV
  refine ev_bk 2 (S' := (12, [some (.ref 184), some (vI x1), some (vI x2), some (vI x3), none], [.ref 184, vI x3], hp S, 0, 0)) rfl ?_
  refine mv_gfR rfl rfl (sh_184) (by decide) rfl ?_
  refine ev_bk 1 (S' := (16, [some (.ref 184), some (vI x1), some (vI x2), some (vI x3), none], [vI x1, .ref 191, vI x3], hp S, 0, 0)) rfl ?_
  obtain ⟨b1, F⟩ := F
  refine mv_ial rfl (sh_191) b1 ?_
  refine mv_icmp 47 rfl rfl (fun c => ?_) (fun c => ?_)
  · have F := F.1 c
    refine ev_bk 2 (S' := (49, [some (.ref 184), some (vI x1), some (vI x2), some (vI 0), none], [], hp S, 0, 0)) rfl ?_
    exact F
  · have F := F.2 c
    refine ev_bk 1 (S' := (21, [some (.ref 184), some (vI x1), some (vI x2), some (vI x3), none], [.ref 184], hp S, 0, 0)) rfl ?_
    refine mv_gfR rfl rfl (sh_184) (by decide) rfl ?_
    refine ev_bk 1 (S' := (25, [some (.ref 184), some (vI x1), some (vI x2), some (vI x3), none], [.ref 184, .ref 189], hp S, 0, 0)) rfl ?_
    refine mv_gfR rfl rfl (sh_184) (by decide) rfl ?_
    refine ev_bk 2 (S' := (32, [some (.ref 184), some (vI x1), some (vI x2), some (vI x3), none], [vI 192, vI x1, .ref 192, .ref 189], hp S, 0, 0)) rfl ?_
    refine mv_imul rfl ?_
    refine ev_bk 1 (S' := (34, [some (.ref 184), some (vI x1), some (vI x2), some (vI x3), none], [vI x3, vI (x1 * 192), .ref 192, .ref 189], hp S, 0, 0)) rfl ?_
    refine mv_iadd rfl ?_
    obtain ⟨b2, F⟩ := F
    refine mv_ial rfl (sh_192) b2 ?_
    refine ev_bk 1 (S' := (37, [some (.ref 184), some (vI x1), some (vI x2), some (vI x3), none], [vI (S.1 192 (w32 ((x1 * 192) + x3))), .ref 189, vI (S.1 192 (w32 ((x1 * 192) + x3))), .ref 189], hp S, 0, 0)) rfl ?_
    obtain ⟨b3, F⟩ := F
    refine mv_ial rfl (sh_189) b3 ?_
    refine ev_bk 1 (S' := (39, [some (.ref 184), some (vI x1), some (vI x2), some (vI x3), none], [vI 1, vI (S.1 189 (w32 (S.1 192 (w32 ((x1 * 192) + x3))))), vI (S.1 192 (w32 ((x1 * 192) + x3))), .ref 189], hp S, 0, 0)) rfl ?_
    refine mv_ior rfl ?_
    obtain ⟨b4, F⟩ := F
    refine mv_ias rfl (sh_189) b4 ?_
    have F := F _ rfl
    refine mv_inc (lv' := [some (.ref 184), some (vI x1), some (vI x2), some (vI (x3 + 1)), none]) 3 1 rfl rfl rfl rfl ?_
    refine mv_goto 10 rfl rfl ?_
    exact F
theorem vc_Store_countBoth_49 {q : Nat × (Nat → Int32)} {S S' : ms} {r : Option Value} (x1 x2 x3 : Int)
    (F : (0 ≤ w32 x2 ∧ w32 x2 < (8 : Nat)) ∧ ((w32 (S.1 191 (w32 x2)) ≤ w32 x3) → EV q 253 91 [some (.ref 184), some (vI x1), some (vI x2), some (vI 0), some (vI 0)] [] S r S') ∧ ((¬ w32 (S.1 191 (w32 x2)) ≤ w32 x3) → (0 ≤ w32 ((x2 * 192) + x3) ∧ w32 ((x2 * 192) + x3) < (1536 : Nat)) ∧ (0 ≤ w32 (S.1 192 (w32 ((x2 * 192) + x3))) ∧ w32 (S.1 192 (w32 ((x2 * 192) + x3))) < (300 : Nat)) ∧ (0 ≤ w32 (S.1 192 (w32 ((x2 * 192) + x3))) ∧ w32 (S.1 192 (w32 ((x2 * 192) + x3))) < (300 : Nat)) ∧ ∀ S5 : ms, S5 = wI S 189 (w32 (S.1 192 (w32 ((x2 * 192) + x3)))) (bO (S.1 189 (w32 (S.1 192 (w32 ((x2 * 192) + x3))))) 2) → EV q 253 49 [some (.ref 184), some (vI x1), some (vI x2), some (vI (x3 + 1)), none] [] S5 r S')) : EV q 253 49 [some (.ref 184), some (vI x1), some (vI x2), some (vI x3), none] [] S r S' := by
  unfold EV
  refine ev_bk 2 (S' := (51, [some (.ref 184), some (vI x1), some (vI x2), some (vI x3), none], [.ref 184, vI x3], hp S, 0, 0)) rfl ?_
  refine mv_gfR rfl rfl (sh_184) (by decide) rfl ?_
  refine ev_bk 1 (S' := (55, [some (.ref 184), some (vI x1), some (vI x2), some (vI x3), none], [vI x2, .ref 191, vI x3], hp S, 0, 0)) rfl ?_
  obtain ⟨b1, F⟩ := F
  refine mv_ial rfl (sh_191) b1 ?_
  refine mv_icmp 86 rfl rfl (fun c => ?_) (fun c => ?_)
  · have F := F.1 c
    refine ev_bk 4 (S' := (91, [some (.ref 184), some (vI x1), some (vI x2), some (vI 0), some (vI 0)], [], hp S, 0, 0)) rfl ?_
    exact F
  · have F := F.2 c
    refine ev_bk 1 (S' := (60, [some (.ref 184), some (vI x1), some (vI x2), some (vI x3), none], [.ref 184], hp S, 0, 0)) rfl ?_
    refine mv_gfR rfl rfl (sh_184) (by decide) rfl ?_
    refine ev_bk 1 (S' := (64, [some (.ref 184), some (vI x1), some (vI x2), some (vI x3), none], [.ref 184, .ref 189], hp S, 0, 0)) rfl ?_
    refine mv_gfR rfl rfl (sh_184) (by decide) rfl ?_
    refine ev_bk 2 (S' := (71, [some (.ref 184), some (vI x1), some (vI x2), some (vI x3), none], [vI 192, vI x2, .ref 192, .ref 189], hp S, 0, 0)) rfl ?_
    refine mv_imul rfl ?_
    refine ev_bk 1 (S' := (73, [some (.ref 184), some (vI x1), some (vI x2), some (vI x3), none], [vI x3, vI (x2 * 192), .ref 192, .ref 189], hp S, 0, 0)) rfl ?_
    refine mv_iadd rfl ?_
    obtain ⟨b2, F⟩ := F
    refine mv_ial rfl (sh_192) b2 ?_
    refine ev_bk 1 (S' := (76, [some (.ref 184), some (vI x1), some (vI x2), some (vI x3), none], [vI (S.1 192 (w32 ((x2 * 192) + x3))), .ref 189, vI (S.1 192 (w32 ((x2 * 192) + x3))), .ref 189], hp S, 0, 0)) rfl ?_
    obtain ⟨b3, F⟩ := F
    refine mv_ial rfl (sh_189) b3 ?_
    refine ev_bk 1 (S' := (78, [some (.ref 184), some (vI x1), some (vI x2), some (vI x3), none], [vI 2, vI (S.1 189 (w32 (S.1 192 (w32 ((x2 * 192) + x3))))), vI (S.1 192 (w32 ((x2 * 192) + x3))), .ref 189], hp S, 0, 0)) rfl ?_
    refine mv_ior rfl ?_
    obtain ⟨b4, F⟩ := F
    refine mv_ias rfl (sh_189) b4 ?_
    have F := F _ rfl
    refine mv_inc (lv' := [some (.ref 184), some (vI x1), some (vI x2), some (vI (x3 + 1)), none]) 3 1 rfl rfl rfl rfl ?_
    refine mv_goto 49 rfl rfl ?_
    exact F
theorem vc_Store_countBoth_91 {q : Nat × (Nat → Int32)} {S S' : ms} {r : Option Value} (x1 x2 x3 x4 : Int)
    (F : ((300 ≤ w32 x4) → r = some (vI x3) ∧ S' = S) ∧ ((¬ 300 ≤ w32 x4) → (0 ≤ w32 x4 ∧ w32 x4 < (300 : Nat)) ∧ ((¬ w32 (S.1 189 (w32 x4)) = 3) → EV q 253 113 [some (.ref 184), some (vI x1), some (vI x2), some (vI x3), some (vI x4)] [] S r S') ∧ ((¬ (¬ w32 (S.1 189 (w32 x4)) = 3)) → EV q 253 113 [some (.ref 184), some (vI x1), some (vI x2), some (vI (x3 + 1)), some (vI x4)] [] S r S'))) : EV q 253 91 [some (.ref 184), some (vI x1), some (vI x2), some (vI x3), some (vI x4)] [] S r S' := by
  unfold EV
  refine ev_bk 2 (S' := (96, [some (.ref 184), some (vI x1), some (vI x2), some (vI x3), some (vI x4)], [vI 300, vI x4], hp S, 0, 0)) rfl ?_
  refine mv_icmp 119 rfl rfl (fun c => ?_) (fun c => ?_)
  · have F := F.1 c
    refine ev_bk 1 (S' := (120, [some (.ref 184), some (vI x1), some (vI x2), some (vI x3), some (vI x4)], [vI x3], hp S, 0, 0)) rfl ?_
    obtain ⟨rfl, rfl⟩ := F
    exact ev_ret rfl rfl
  · have F := F.2 c
    refine ev_bk 1 (S' := (100, [some (.ref 184), some (vI x1), some (vI x2), some (vI x3), some (vI x4)], [.ref 184], hp S, 0, 0)) rfl ?_
    refine mv_gfR rfl rfl (sh_184) (by decide) rfl ?_
    refine ev_bk 1 (S' := (105, [some (.ref 184), some (vI x1), some (vI x2), some (vI x3), some (vI x4)], [vI x4, .ref 189], hp S, 0, 0)) rfl ?_
    obtain ⟨b1, F⟩ := F
    refine mv_ial rfl (sh_189) b1 ?_
    refine ev_bk 1 (S' := (107, [some (.ref 184), some (vI x1), some (vI x2), some (vI x3), some (vI x4)], [vI 3, vI (S.1 189 (w32 x4))], hp S, 0, 0)) rfl ?_
    refine mv_icmp 113 rfl rfl (fun c => ?_) (fun c => ?_)
    · have F := F.1 c
      exact F
    · have F := F.2 c
      refine mv_inc (lv' := [some (.ref 184), some (vI x1), some (vI x2), some (vI (x3 + 1)), some (vI x4)]) 3 1 rfl rfl rfl rfl ?_
      exact F
theorem vc_Store_countBoth_113 {q : Nat × (Nat → Int32)} {S S' : ms} {r : Option Value} (x1 x2 x3 x4 : Int)
    (F : EV q 253 91 [some (.ref 184), some (vI x1), some (vI x2), some (vI x3), some (vI (x4 + 1))] [] S r S') : EV q 253 113 [some (.ref 184), some (vI x1), some (vI x2), some (vI x3), some (vI x4)] [] S r S' := by
  unfold EV
  refine mv_inc (lv' := [some (.ref 184), some (vI x1), some (vI x2), some (vI x3), some (vI (x4 + 1))]) 4 1 rfl rfl rfl rfl ?_
  refine mv_goto 91 rfl rfl ?_
  exact F
