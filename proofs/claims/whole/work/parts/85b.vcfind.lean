/-! what is to be shown of each method, by program (wip/gen/vcall.py) -/
theorem vc_Finder_forgetTokens {q : Nat × (Nat → Int32)} {S S' : ms} {r : Option Value}
    (F : ∀ S1 : ms, S1 = wI S 10 8 0 → r = none ∧ S' = S1) : EV q 44 0 [some (.ref 10)] [] S r S' := by
  unfold EV
  refine ev_bk 2 (S' := (2, [some (.ref 10)], [vI 0, .ref 10], hp S, 0, 0)) rfl ?_
  refine mv_pfI rfl rfl (sh_10) (by decide) rfl rfl ?_
  have F := F _ rfl
  obtain ⟨rfl, rfl⟩ := F
  exact ev_ret rfl rfl
theorem vc_Plain_packRuns {q : Nat × (Nat → Int32)} {S S' : ms} {r : Option Value} (a1 na1 : Nat) (ha1 : isRow a1 na1) (a2 na2 : Nat) (ha2 : isRow a2 na2)
    (F : EV q 46 5 [some (.ref 22), some (.ref a1), some (.ref a2), some (vI 0), some (vI 0), none, none] [] S r S') : EV q 46 0 [some (.ref 22), some (.ref a1), some (.ref a2), none, none, none, none] [] S r S' := by
  unfold EV
  refine ev_bk 4 (S' := (5, [some (.ref 22), some (.ref a1), some (.ref a2), some (vI 0), some (vI 0), none, none], [], hp S, 0, 0)) rfl ?_
  exact F
theorem vc_Plain_packRuns_5 {q : Nat × (Nat → Int32)} {S S' : ms} {r : Option Value} (x3 x4 : Int) (a1 na1 : Nat) (ha1 : isRow a1 na1) (a2 na2 : Nat) (ha2 : isRow a2 na2)
    (F : ((w32 (S.1 a1 1) ≤ w32 x4) → r = none ∧ S' = S) ∧ ((¬ w32 (S.1 a1 1) ≤ w32 x4) → ((w32 (S.1 a1 1) ≤ w32 x3) → r = none ∧ S' = S) ∧ ((¬ w32 (S.1 a1 1) ≤ w32 x3) → ∃ (z3 : Int) (S1 : ms), EV q 47 0 [some (.ref a1), some (vI x3), some (vI 128), none] [] S (some (vI z3)) S1 ∧ ((w32 z3 < 3) → EV q 46 71 [some (.ref 22), some (.ref a1), some (.ref a2), some (vI x3), some (vI x4), some (vI z3), some (vI (x3 + 1))] [] S1 r S') ∧ ((¬ w32 z3 < 3) → ∃ (S4 : ms), EV q 19 0 [some (.ref a2), some (vI (257 - z3))] [] S1 none S4 ∧ (0 ≤ w32 x3 ∧ w32 x3 < (na1 : Nat)) ∧ ∃ (S7 : ms), EV q 19 0 [some (.ref a2), some (vI (S4.1 (a1 + 1) (w32 x3)))] [] S4 none S7 ∧ EV q 46 131 [some (.ref 22), some (.ref a1), some (.ref a2), some (vI (x3 + z3)), some (vI x4), some (vI z3), none] [] S7 r S')))) : EV q 46 5 [some (.ref 22), some (.ref a1), some (.ref a2), some (vI x3), some (vI x4), none, none] [] S r S' := by
  unfold EV
  refine ev_bk 2 (S' := (8, [some (.ref 22), some (.ref a1), some (.ref a2), some (vI x3), some (vI x4), none, none], [.ref a1, vI x4], hp S, 0, 0)) rfl ?_
  refine mv_gfI rfl rfl (ha1.1) (by decide) rfl ?_
  refine mv_icmp 137 rfl rfl (fun c => ?_) (fun c => ?_)
  · have F := F.1 c
    obtain ⟨rfl, rfl⟩ := F
    exact ev_ret rfl rfl
  · have F := F.2 c
    refine ev_bk 2 (S' := (16, [some (.ref 22), some (.ref a1), some (.ref a2), some (vI x3), some (vI x4), none, none], [.ref a1, vI x3], hp S, 0, 0)) rfl ?_
    refine mv_gfI rfl rfl (ha1.1) (by decide) rfl ?_
    refine mv_icmp 137 rfl rfl (fun c => ?_) (fun c => ?_)
    · have F := F.1 c
      obtain ⟨rfl, rfl⟩ := F
      exact ev_ret rfl rfl
    · have F := F.2 c
      refine ev_bk 3 (S' := (27, [some (.ref 22), some (.ref a1), some (.ref a2), some (vI x3), some (vI x4), none, none], [vI 128, vI x3, .ref a1], hp S, 0, 0)) rfl ?_
      obtain ⟨z3, S1, e2, F⟩ := F
      refine mv_cals (as := [.ref a1, vI x3, vI 128]) (rest := []) e2 rfl rfl rfl ⟨rfl, rfl, rfl⟩ rfl rfl rfl rfl ?_
      refine ev_bk 3 (S' := (35, [some (.ref 22), some (.ref a1), some (.ref a2), some (vI x3), some (vI x4), some (vI z3), none], [vI 3, vI z3], hp S1, 0, 0)) rfl ?_
      refine mv_icmp 66 rfl rfl (fun c => ?_) (fun c => ?_)
      · have F := F.1 c
        refine ev_bk 2 (S' := (68, [some (.ref 22), some (.ref a1), some (.ref a2), some (vI x3), some (vI x4), some (vI z3), none], [vI 1, vI x3], hp S1, 0, 0)) rfl ?_
        refine mv_iadd rfl ?_
        refine ev_bk 1 (S' := (71, [some (.ref 22), some (.ref a1), some (.ref a2), some (vI x3), some (vI x4), some (vI z3), some (vI (x3 + 1))], [], hp S1, 0, 0)) rfl ?_
        exact F
      · have F := F.2 c
        refine ev_bk 3 (S' := (44, [some (.ref 22), some (.ref a1), some (.ref a2), some (vI x3), some (vI x4), some (vI z3), none], [vI z3, vI 257, .ref a2], hp S1, 0, 0)) rfl ?_
        refine mv_isub rfl ?_
        obtain ⟨S4, e5, F⟩ := F
        refine mv_calv (as := [vI (257 - z3)]) (rest := []) e5 (ha2.1) rfl rfl rfl ⟨rfl, rfl⟩ rfl rfl rfl rfl rfl ?_
        refine ev_bk 2 (S' := (50, [some (.ref 22), some (.ref a1), some (.ref a2), some (vI x3), some (vI x4), some (vI z3), none], [.ref a1, .ref a2], hp S4, 0, 0)) rfl ?_
        refine mv_gfR rfl rfl (ha1.1) (by decide) rfl ?_
        refine ev_bk 1 (S' := (54, [some (.ref 22), some (.ref a1), some (.ref a2), some (vI x3), some (vI x4), some (vI z3), none], [vI x3, .ref (a1 + 1), .ref a2], hp S4, 0, 0)) rfl ?_
        obtain ⟨b6, F⟩ := F
        refine mv_ial rfl (ha1.2) b6 ?_
        obtain ⟨S7, e8, F⟩ := F
        refine mv_calv (as := [vI (S4.1 (a1 + 1) (w32 x3))]) (rest := []) e8 (ha2.1) rfl rfl rfl ⟨rfl, rfl⟩ rfl rfl rfl rfl rfl ?_
        refine ev_bk 2 (S' := (61, [some (.ref 22), some (.ref a1), some (.ref a2), some (vI x3), some (vI x4), some (vI z3), none], [vI z3, vI x3], hp S7, 0, 0)) rfl ?_
        refine mv_iadd rfl ?_
        refine ev_bk 1 (S' := (63, [some (.ref 22), some (.ref a1), some (.ref a2), some (vI (x3 + z3)), some (vI x4), some (vI z3), none], [], hp S7, 0, 0)) rfl ?_
        refine mv_goto 131 rfl rfl ?_
        exact F
theorem vc_Plain_packRuns_71 {q : Nat × (Nat → Int32)} {S S' : ms} {r : Option Value} (x3 x4 x5 x6 : Int) (a1 na1 : Nat) (ha1 : isRow a1 na1) (a2 na2 : Nat) (ha2 : isRow a2 na2)
    (F : ((w32 (S.1 a1 1) ≤ w32 x6) → EV q 46 107 [some (.ref 22), some (.ref a1), some (.ref a2), some (vI x3), some (vI x4), some (vI x5), some (vI x6)] [] S r S') ∧ ((¬ w32 (S.1 a1 1) ≤ w32 x6) → ((128 ≤ w32 (x6 - x3)) → EV q 46 107 [some (.ref 22), some (.ref a1), some (.ref a2), some (vI x3), some (vI x4), some (vI x5), some (vI x6)] [] S r S') ∧ ((¬ 128 ≤ w32 (x6 - x3)) → ∃ (z3 : Int) (S1 : ms), EV q 47 0 [some (.ref a1), some (vI x6), some (vI 3), none] [] S (some (vI z3)) S1 ∧ ((3 ≤ w32 z3) → EV q 46 107 [some (.ref 22), some (.ref a1), some (.ref a2), some (vI x3), some (vI x4), some (vI x5), some (vI x6)] [] S1 r S') ∧ ((¬ 3 ≤ w32 z3) → EV q 46 71 [some (.ref 22), some (.ref a1), some (.ref a2), some (vI x3), some (vI x4), some (vI x5), some (vI (x6 + 1))] [] S1 r S')))) : EV q 46 71 [some (.ref 22), some (.ref a1), some (.ref a2), some (vI x3), some (vI x4), some (vI x5), some (vI x6)] [] S r S' := by
  unfold EV
  refine ev_bk 2 (S' := (74, [some (.ref 22), some (.ref a1), some (.ref a2), some (vI x3), some (vI x4), some (vI x5), some (vI x6)], [.ref a1, vI x6], hp S, 0, 0)) rfl ?_
  refine mv_gfI rfl rfl (ha1.1) (by decide) rfl ?_
  refine mv_icmp 107 rfl rfl (fun c => ?_) (fun c => ?_)
  · have F := F.1 c
    exact F
  · have F := F.2 c
    refine ev_bk 2 (S' := (83, [some (.ref 22), some (.ref a1), some (.ref a2), some (vI x3), some (vI x4), some (vI x5), some (vI x6)], [vI x3, vI x6], hp S, 0, 0)) rfl ?_
    refine mv_isub rfl ?_
    refine ev_bk 1 (S' := (87, [some (.ref 22), some (.ref a1), some (.ref a2), some (vI x3), some (vI x4), some (vI x5), some (vI x6)], [vI 128, vI (x6 - x3)], hp S, 0, 0)) rfl ?_
    refine mv_icmp 107 rfl rfl (fun c => ?_) (fun c => ?_)
    · have F := F.1 c
      exact F
    · have F := F.2 c
      refine ev_bk 3 (S' := (94, [some (.ref 22), some (.ref a1), some (.ref a2), some (vI x3), some (vI x4), some (vI x5), some (vI x6)], [vI 3, vI x6, .ref a1], hp S, 0, 0)) rfl ?_
      obtain ⟨z3, S1, e2, F⟩ := F
      refine mv_cals (as := [.ref a1, vI x6, vI 3]) (rest := []) e2 rfl rfl rfl ⟨rfl, rfl, rfl⟩ rfl rfl rfl rfl ?_
      refine ev_bk 1 (S' := (98, [some (.ref 22), some (.ref a1), some (.ref a2), some (vI x3), some (vI x4), some (vI x5), some (vI x6)], [vI 3, vI z3], hp S1, 0, 0)) rfl ?_
      refine mv_icmp 107 rfl rfl (fun c => ?_) (fun c => ?_)
      · have F := F.1 c
        exact F
      · have F := F.2 c
        refine mv_inc (lv' := [some (.ref 22), some (.ref a1), some (.ref a2), some (vI x3), some (vI x4), some (vI x5), some (vI (x6 + 1))]) 6 1 rfl rfl rfl rfl ?_
        refine mv_goto 71 rfl rfl ?_
        exact F
theorem vc_Plain_packRuns_107 {q : Nat × (Nat → Int32)} {S S' : ms} {r : Option Value} (x3 x4 x5 x6 : Int) (a1 na1 : Nat) (ha1 : isRow a1 na1) (a2 na2 : Nat) (ha2 : isRow a2 na2)
    (F : ∃ (S1 : ms), EV q 19 0 [some (.ref a2), some (vI ((x6 - x3) - 1))] [] S none S1 ∧ ∃ (S3 : ms), EV q 38 0 [some (.ref a2), some (.ref (a1 + 1)), some (vI x3), some (vI x6), none] [] S1 none S3 ∧ EV q 46 131 [some (.ref 22), some (.ref a1), some (.ref a2), some (vI x6), some (vI x4), some (vI x5), none] [] S3 r S') : EV q 46 107 [some (.ref 22), some (.ref a1), some (.ref a2), some (vI x3), some (vI x4), some (vI x5), some (vI x6)] [] S r S' := by
  unfold EV
  refine ev_bk 3 (S' := (111, [some (.ref 22), some (.ref a1), some (.ref a2), some (vI x3), some (vI x4), some (vI x5), some (vI x6)], [vI x3, vI x6, .ref a2], hp S, 0, 0)) rfl ?_
  refine mv_isub rfl ?_
  refine ev_bk 1 (S' := (113, [some (.ref 22), some (.ref a1), some (.ref a2), some (vI x3), some (vI x4), some (vI x5), some (vI x6)], [vI 1, vI (x6 - x3), .ref a2], hp S, 0, 0)) rfl ?_
  refine mv_isub rfl ?_
  obtain ⟨S1, e2, F⟩ := F
  refine mv_calv (as := [vI ((x6 - x3) - 1)]) (rest := []) e2 (ha2.1) rfl rfl rfl ⟨rfl, rfl⟩ rfl rfl rfl rfl rfl ?_
  refine ev_bk 2 (S' := (119, [some (.ref 22), some (.ref a1), some (.ref a2), some (vI x3), some (vI x4), some (vI x5), some (vI x6)], [.ref a1, .ref a2], hp S1, 0, 0)) rfl ?_
  refine mv_gfR rfl rfl (ha1.1) (by decide) rfl ?_
  refine ev_bk 2 (S' := (125, [some (.ref 22), some (.ref a1), some (.ref a2), some (vI x3), some (vI x4), some (vI x5), some (vI x6)], [vI x6, vI x3, .ref (a1 + 1), .ref a2], hp S1, 0, 0)) rfl ?_
  obtain ⟨S3, e4, F⟩ := F
  refine mv_calv (as := [.ref (a1 + 1), vI x3, vI x6]) (rest := []) e4 (ha2.1) rfl rfl rfl ⟨rfl, rfl⟩ rfl rfl rfl rfl rfl ?_
  refine ev_bk 2 (S' := (131, [some (.ref 22), some (.ref a1), some (.ref a2), some (vI x6), some (vI x4), some (vI x5), some (vI x6)], [], hp S3, 0, 0)) rfl ?_
  exact ev_wk (le_s (le_s (le_s (le_s (le_s (le_s (le_n le_0))))))) F
theorem vc_Plain_packRuns_131 {q : Nat × (Nat → Int32)} {S S' : ms} {r : Option Value} (x3 x4 x5 : Int) (a1 na1 : Nat) (ha1 : isRow a1 na1) (a2 na2 : Nat) (ha2 : isRow a2 na2)
    (F : EV q 46 5 [some (.ref 22), some (.ref a1), some (.ref a2), some (vI x3), some (vI (x4 + 1)), none, none] [] S r S') : EV q 46 131 [some (.ref 22), some (.ref a1), some (.ref a2), some (vI x3), some (vI x4), some (vI x5), none] [] S r S' := by
  unfold EV
  refine mv_inc (lv' := [some (.ref 22), some (.ref a1), some (.ref a2), some (vI x3), some (vI (x4 + 1)), some (vI x5), none]) 4 1 rfl rfl rfl rfl ?_
  refine mv_goto 5 rfl rfl ?_
  exact ev_wk (le_s (le_s (le_s (le_s (le_s (le_n (le_s le_0))))))) F
theorem vc_Plain_alike {q : Nat × (Nat → Int32)} {S S' : ms} {r : Option Value} (x1 x2 : Int) (a0 na0 : Nat) (ha0 : isRow a0 na0)
    (F : EV q 47 2 [some (.ref a0), some (vI x1), some (vI x2), some (vI 1)] [] S r S') : EV q 47 0 [some (.ref a0), some (vI x1), some (vI x2), none] [] S r S' := by
  unfold EV
  refine ev_bk 2 (S' := (2, [some (.ref a0), some (vI x1), some (vI x2), some (vI 1)], [], hp S, 0, 0)) rfl ?_
  exact F
theorem vc_Plain_alike_2 {q : Nat × (Nat → Int32)} {S S' : ms} {r : Option Value} (x1 x2 x3 : Int) (a0 na0 : Nat) (ha0 : isRow a0 na0)
    (F : ((w32 x2 ≤ w32 x3) → r = some (vI x3) ∧ S' = S) ∧ ((¬ w32 x2 ≤ w32 x3) → ((w32 (S.1 a0 1) ≤ w32 (x1 + x3)) → r = some (vI x3) ∧ S' = S) ∧ ((¬ w32 (S.1 a0 1) ≤ w32 (x1 + x3)) → (0 ≤ w32 (x1 + x3) ∧ w32 (x1 + x3) < (na0 : Nat)) ∧ (0 ≤ w32 x1 ∧ w32 x1 < (na0 : Nat)) ∧ ((¬ w32 (S.1 (a0 + 1) (w32 (x1 + x3))) = w32 (S.1 (a0 + 1) (w32 x1))) → r = some (vI x3) ∧ S' = S) ∧ ((¬ (¬ w32 (S.1 (a0 + 1) (w32 (x1 + x3))) = w32 (S.1 (a0 + 1) (w32 x1)))) → EV q 47 2 [some (.ref a0), some (vI x1), some (vI x2), some (vI (x3 + 1))] [] S r S')))) : EV q 47 2 [some (.ref a0), some (vI x1), some (vI x2), some (vI x3)] [] S r S' := by
  unfold EV
  refine ev_bk 2 (S' := (4, [some (.ref a0), some (vI x1), some (vI x2), some (vI x3)], [vI x2, vI x3], hp S, 0, 0)) rfl ?_
  refine mv_icmp 40 rfl rfl (fun c => ?_) (fun c => ?_)
  · have F := F.1 c
    refine ev_bk 1 (S' := (41, [some (.ref a0), some (vI x1), some (vI x2), some (vI x3)], [vI x3], hp S, 0, 0)) rfl ?_
    obtain ⟨rfl, rfl⟩ := F
    exact ev_ret rfl rfl
  · have F := F.2 c
    refine ev_bk 2 (S' := (9, [some (.ref a0), some (vI x1), some (vI x2), some (vI x3)], [vI x3, vI x1], hp S, 0, 0)) rfl ?_
    refine mv_iadd rfl ?_
    refine ev_bk 1 (S' := (11, [some (.ref a0), some (vI x1), some (vI x2), some (vI x3)], [.ref a0, vI (x1 + x3)], hp S, 0, 0)) rfl ?_
    refine mv_gfI rfl rfl (ha0.1) (by decide) rfl ?_
    refine mv_icmp 40 rfl rfl (fun c => ?_) (fun c => ?_)
    · have F := F.1 c
      refine ev_bk 1 (S' := (41, [some (.ref a0), some (vI x1), some (vI x2), some (vI x3)], [vI x3], hp S, 0, 0)) rfl ?_
      obtain ⟨rfl, rfl⟩ := F
      exact ev_ret rfl rfl
    · have F := F.2 c
      refine ev_bk 1 (S' := (18, [some (.ref a0), some (vI x1), some (vI x2), some (vI x3)], [.ref a0], hp S, 0, 0)) rfl ?_
      refine mv_gfR rfl rfl (ha0.1) (by decide) rfl ?_
      refine ev_bk 2 (S' := (23, [some (.ref a0), some (vI x1), some (vI x2), some (vI x3)], [vI x3, vI x1, .ref (a0 + 1)], hp S, 0, 0)) rfl ?_
      refine mv_iadd rfl ?_
      obtain ⟨b1, F⟩ := F
      refine mv_ial rfl (ha0.2) b1 ?_
      refine ev_bk 1 (S' := (26, [some (.ref a0), some (vI x1), some (vI x2), some (vI x3)], [.ref a0, vI (S.1 (a0 + 1) (w32 (x1 + x3)))], hp S, 0, 0)) rfl ?_
      refine mv_gfR rfl rfl (ha0.1) (by decide) rfl ?_
      refine ev_bk 1 (S' := (30, [some (.ref a0), some (vI x1), some (vI x2), some (vI x3)], [vI x1, .ref (a0 + 1), vI (S.1 (a0 + 1) (w32 (x1 + x3)))], hp S, 0, 0)) rfl ?_
      obtain ⟨b2, F⟩ := F
      refine mv_ial rfl (ha0.2) b2 ?_
      refine mv_icmp 40 rfl rfl (fun c => ?_) (fun c => ?_)
      · have F := F.1 c
        refine ev_bk 1 (S' := (41, [some (.ref a0), some (vI x1), some (vI x2), some (vI x3)], [vI x3], hp S, 0, 0)) rfl ?_
        obtain ⟨rfl, rfl⟩ := F
        exact ev_ret rfl rfl
      · have F := F.2 c
        refine mv_inc (lv' := [some (.ref a0), some (vI x1), some (vI x2), some (vI (x3 + 1))]) 3 1 rfl rfl rfl rfl ?_
        refine mv_goto 2 rfl rfl ?_
        exact F
theorem vc_Plain_packWords {q : Nat × (Nat → Int32)} {S S' : ms} {r : Option Value} (a1 na1 : Nat) (ha1 : isRow a1 na1) (a2 na2 : Nat) (ha2 : isRow a2 na2)
    (F : ∃ (S1 : ms), EV q 11 0 [some (.ref 23), some (vI 0), none, none] [] S none S1 ∧ ∃ (S3 : ms), EV q 49 0 [some (.ref a2), some (vI 256), some (vI 9), none, none, none, none, none] [] S1 none S3 ∧ EV q 48 28 [some (.ref 22), some (.ref a1), some (.ref a2), some (vI 0), some (vI 0), some (vI 0), some (vI 0), none, none, none] [] S3 r S') : EV q 48 0 [some (.ref 22), some (.ref a1), some (.ref a2), none, none, none, none, none, none, none] [] S r S' := by
  unfold EV
  refine ev_bk 1 (S' := (1, [some (.ref 22), some (.ref a1), some (.ref a2), none, none, none, none, none, none, none], [.ref 22], hp S, 0, 0)) rfl ?_
  refine mv_gfR rfl rfl (sh_22) (by decide) rfl ?_
  refine ev_bk 1 (S' := (5, [some (.ref 22), some (.ref a1), some (.ref a2), none, none, none, none, none, none, none], [vI 0, .ref 23], hp S, 0, 0)) rfl ?_
  obtain ⟨S1, e2, F⟩ := F
  refine mv_cals (as := [.ref 23, vI 0]) (rest := []) e2 rfl rfl rfl ⟨rfl, rfl, rfl⟩ rfl rfl rfl rfl ?_
  refine ev_bk 3 (S' := (14, [some (.ref 22), some (.ref a1), some (.ref a2), none, none, none, none, none, none, none], [vI 9, vI 256, .ref a2], hp S1, 0, 0)) rfl ?_
  obtain ⟨S3, e4, F⟩ := F
  refine mv_calv (as := [vI 256, vI 9]) (rest := []) e4 (ha2.1) rfl rfl rfl ⟨rfl, rfl⟩ rfl rfl rfl rfl rfl ?_
  refine ev_bk 8 (S' := (28, [some (.ref 22), some (.ref a1), some (.ref a2), some (vI 0), some (vI 0), some (vI 0), some (vI 0), none, none, none], [], hp S3, 0, 0)) rfl ?_
  exact F
theorem vc_Plain_packWords_28 {q : Nat × (Nat → Int32)} {S S' : ms} {r : Option Value} (x3 x4 x5 x6 : Int) (a1 na1 : Nat) (ha1 : isRow a1 na1) (a2 na2 : Nat) (ha2 : isRow a2 na2)
    (F : ((w32 (S.1 a1 1) ≤ w32 x6) → EV q 48 217 [some (.ref 22), some (.ref a1), some (.ref a2), some (vI x3), some (vI x4), some (vI x5), some (vI x6), none, none, none] [] S r S') ∧ ((¬ w32 (S.1 a1 1) ≤ w32 x6) → ((w32 (S.1 a1 1) ≤ w32 x5) → EV q 48 217 [some (.ref 22), some (.ref a1), some (.ref a2), some (vI x3), some (vI x4), some (vI x5), some (vI x6), none, none, none] [] S r S') ∧ ((¬ w32 (S.1 a1 1) ≤ w32 x5) → ((w32 x3 ≤ 0) → EV q 48 68 [some (.ref 22), some (.ref a1), some (.ref a2), some (vI x3), some (vI x4), some (vI x5), some (vI x6), none, none, none] [] S r S') ∧ ((¬ w32 x3 ≤ 0) → (0 ≤ w32 x5 ∧ w32 x5 < (na1 : Nat)) ∧ ∃ (S2 : ms), EV q 50 0 [some (.ref 22), some (vI x4), some (vI (S.1 (a1 + 1) (w32 x5))), some (vI (257 + x3))] [] S none S2 ∧ EV q 48 68 [some (.ref 22), some (.ref a1), some (.ref a2), some (vI x3), some (vI x4), some (vI x5), some (vI x6), none, none, none] [] S2 r S')))) : EV q 48 28 [some (.ref 22), some (.ref a1), some (.ref a2), some (vI x3), some (vI x4), some (vI x5), some (vI x6), none, none, none] [] S r S' := by
  unfold EV
  refine ev_bk 2 (S' := (31, [some (.ref 22), some (.ref a1), some (.ref a2), some (vI x3), some (vI x4), some (vI x5), some (vI x6), none, none, none], [.ref a1, vI x6], hp S, 0, 0)) rfl ?_
  refine mv_gfI rfl rfl (ha1.1) (by decide) rfl ?_
  refine mv_icmp 217 rfl rfl (fun c => ?_) (fun c => ?_)
  · have F := F.1 c
    exact F
  · have F := F.2 c
    refine ev_bk 2 (S' := (40, [some (.ref 22), some (.ref a1), some (.ref a2), some (vI x3), some (vI x4), some (vI x5), some (vI x6), none, none, none], [.ref a1, vI x5], hp S, 0, 0)) rfl ?_
    refine mv_gfI rfl rfl (ha1.1) (by decide) rfl ?_
    refine mv_icmp 217 rfl rfl (fun c => ?_) (fun c => ?_)
    · have F := F.1 c
      exact F
    · have F := F.2 c
      refine ev_bk 1 (S' := (47, [some (.ref 22), some (.ref a1), some (.ref a2), some (vI x3), some (vI x4), some (vI x5), some (vI x6), none, none, none], [vI x3], hp S, 0, 0)) rfl ?_
      refine mv_if 68 rfl rfl (fun c => ?_) (fun c => ?_)
      · have F := F.1 c
        exact F
      · have F := F.2 c
        refine ev_bk 3 (S' := (54, [some (.ref 22), some (.ref a1), some (.ref a2), some (vI x3), some (vI x4), some (vI x5), some (vI x6), none, none, none], [.ref a1, vI x4, .ref 22], hp S, 0, 0)) rfl ?_
        refine mv_gfR rfl rfl (ha1.1) (by decide) rfl ?_
        refine ev_bk 1 (S' := (59, [some (.ref 22), some (.ref a1), some (.ref a2), some (vI x3), some (vI x4), some (vI x5), some (vI x6), none, none, none], [vI x5, .ref (a1 + 1), vI x4, .ref 22], hp S, 0, 0)) rfl ?_
        obtain ⟨b1, F⟩ := F
        refine mv_ial rfl (ha1.2) b1 ?_
        refine ev_bk 2 (S' := (64, [some (.ref 22), some (.ref a1), some (.ref a2), some (vI x3), some (vI x4), some (vI x5), some (vI x6), none, none, none], [vI x3, vI 257, vI (S.1 (a1 + 1) (w32 x5)), vI x4, .ref 22], hp S, 0, 0)) rfl ?_
        refine mv_iadd rfl ?_
        obtain ⟨S2, e3, F⟩ := F
        refine mv_calv (as := [vI x4, vI (S.1 (a1 + 1) (w32 x5)), vI (257 + x3)]) (rest := []) e3 (sh_22) rfl rfl rfl ⟨rfl, rfl⟩ rfl rfl rfl rfl rfl ?_
        exact F
theorem vc_Plain_packWords_68 {q : Nat × (Nat → Int32)} {S S' : ms} {r : Option Value} (x3 x4 x5 x6 : Int) (a1 na1 : Nat) (ha1 : isRow a1 na1) (a2 na2 : Nat) (ha2 : isRow a2 na2)
    (F : (0 ≤ w32 x5 ∧ w32 x5 < (na1 : Nat)) ∧ ((w32 (S.1 a1 1) ≤ w32 (x5 + 1)) → EV q 48 106 [some (.ref 22), some (.ref a1), some (.ref a2), some (vI x3), some (vI x4), some (vI (x5 + 1)), some (vI x6), some (vI (S.1 (a1 + 1) (w32 x5))), none, none] [vI 0] S r S') ∧ ((¬ w32 (S.1 a1 1) ≤ w32 (x5 + 1)) → (0 ≤ w32 (x5 + 1) ∧ w32 (x5 + 1) < (na1 : Nat)) ∧ ∃ (z5 : Int) (S3 : ms), EV q 51 0 [some (.ref 22), some (vI (S.1 (a1 + 1) (w32 x5))), some (vI (S.1 (a1 + 1) (w32 (x5 + 1)))), none, none] [] S (some (vI z5)) S3 ∧ EV q 48 106 [some (.ref 22), some (.ref a1), some (.ref a2), some (vI x3), some (vI x4), some (vI (x5 + 1)), some (vI x6), some (vI (S.1 (a1 + 1) (w32 x5))), none, none] [vI z5] S3 r S')) : EV q 48 68 [some (.ref 22), some (.ref a1), some (.ref a2), some (vI x3), some (vI x4), some (vI x5), some (vI x6), none, none, none] [] S r S' := by
  unfold EV
  refine ev_bk 1 (S' := (69, [some (.ref 22), some (.ref a1), some (.ref a2), some (vI x3), some (vI x4), some (vI x5), some (vI x6), none, none, none], [.ref a1], hp S, 0, 0)) rfl ?_
  refine mv_gfR rfl rfl (ha1.1) (by decide) rfl ?_
  refine ev_bk 1 (S' := (74, [some (.ref 22), some (.ref a1), some (.ref a2), some (vI x3), some (vI x4), some (vI x5), some (vI x6), none, none, none], [vI x5, .ref (a1 + 1)], hp S, 0, 0)) rfl ?_
  obtain ⟨b1, F⟩ := F
  refine mv_ial rfl (ha1.2) b1 ?_
  refine ev_bk 1 (S' := (77, [some (.ref 22), some (.ref a1), some (.ref a2), some (vI x3), some (vI x4), some (vI x5), some (vI x6), some (vI (S.1 (a1 + 1) (w32 x5))), none, none], [], hp S, 0, 0)) rfl ?_
  refine mv_inc (lv' := [some (.ref 22), some (.ref a1), some (.ref a2), some (vI x3), some (vI x4), some (vI (x5 + 1)), some (vI x6), some (vI (S.1 (a1 + 1) (w32 x5))), none, none]) 5 1 rfl rfl rfl rfl ?_
  refine ev_bk 2 (S' := (83, [some (.ref 22), some (.ref a1), some (.ref a2), some (vI x3), some (vI x4), some (vI (x5 + 1)), some (vI x6), some (vI (S.1 (a1 + 1) (w32 x5))), none, none], [.ref a1, vI (x5 + 1)], hp S, 0, 0)) rfl ?_
  refine mv_gfI rfl rfl (ha1.1) (by decide) rfl ?_
  refine mv_icmp 105 rfl rfl (fun c => ?_) (fun c => ?_)
  · have F := F.1 c
    refine ev_bk 1 (S' := (106, [some (.ref 22), some (.ref a1), some (.ref a2), some (vI x3), some (vI x4), some (vI (x5 + 1)), some (vI x6), some (vI (S.1 (a1 + 1) (w32 x5))), none, none], [vI 0], hp S, 0, 0)) rfl ?_
    exact F
  · have F := F.2 c
    refine ev_bk 3 (S' := (93, [some (.ref 22), some (.ref a1), some (.ref a2), some (vI x3), some (vI x4), some (vI (x5 + 1)), some (vI x6), some (vI (S.1 (a1 + 1) (w32 x5))), none, none], [.ref a1, vI (S.1 (a1 + 1) (w32 x5)), .ref 22], hp S, 0, 0)) rfl ?_
    refine mv_gfR rfl rfl (ha1.1) (by decide) rfl ?_
    refine ev_bk 1 (S' := (98, [some (.ref 22), some (.ref a1), some (.ref a2), some (vI x3), some (vI x4), some (vI (x5 + 1)), some (vI x6), some (vI (S.1 (a1 + 1) (w32 x5))), none, none], [vI (x5 + 1), .ref (a1 + 1), vI (S.1 (a1 + 1) (w32 x5)), .ref 22], hp S, 0, 0)) rfl ?_
    obtain ⟨b2, F⟩ := F
    refine mv_ial rfl (ha1.2) b2 ?_
    obtain ⟨z5, S3, e4, F⟩ := F
    refine mv_calv (as := [vI (S.1 (a1 + 1) (w32 x5)), vI (S.1 (a1 + 1) (w32 (x5 + 1)))]) (rest := []) e4 (sh_22) rfl rfl rfl ⟨rfl, rfl⟩ rfl rfl rfl rfl rfl ?_
    refine mv_goto 106 rfl rfl ?_
    exact F
theorem vc_Plain_packWords_106 {q : Nat × (Nat → Int32)} {S S' : ms} {r : Option Value} (x3 x4 x5 x6 x7 y0 : Int) (a1 na1 : Nat) (ha1 : isRow a1 na1) (a2 na2 : Nat) (ha2 : isRow a2 na2)
    (F : EV q 48 111 [some (.ref 22), some (.ref a1), some (.ref a2), some (vI x3), some (vI x4), some (vI x5), some (vI x6), some (vI x7), some (vI y0), some (vI 0)] [] S r S') : EV q 48 106 [some (.ref 22), some (.ref a1), some (.ref a2), some (vI x3), some (vI x4), some (vI x5), some (vI x6), some (vI x7), none, none] [vI y0] S r S' := by
  unfold EV
  refine ev_bk 3 (S' := (111, [some (.ref 22), some (.ref a1), some (.ref a2), some (vI x3), some (vI x4), some (vI x5), some (vI x6), some (vI x7), some (vI y0), some (vI 0)], [], hp S, 0, 0)) rfl ?_
  exact F
theorem vc_Plain_packWords_111 {q : Nat × (Nat → Int32)} {S S' : ms} {r : Option Value} (x3 x4 x5 x6 x7 x8 x9 : Int) (a1 na1 : Nat) (ha1 : isRow a1 na1) (a2 na2 : Nat) (ha2 : isRow a2 na2)
    (F : ((w32 (S.1 a1 1) ≤ w32 x9) → EV q 48 166 [some (.ref 22), some (.ref a1), some (.ref a2), some (vI x3), some (vI x4), some (vI x5), some (vI x6), some (vI x7), some (vI x8), some (vI x9)] [] S r S') ∧ ((¬ w32 (S.1 a1 1) ≤ w32 x9) → ((w32 x8 ≤ 0) → EV q 48 166 [some (.ref 22), some (.ref a1), some (.ref a2), some (vI x3), some (vI x4), some (vI x5), some (vI x6), some (vI x7), some (vI x8), some (vI x9)] [] S r S') ∧ ((¬ w32 x8 ≤ 0) → ((w32 (S.1 a1 1) ≤ w32 (x5 + 1)) → EV q 48 158 [some (.ref 22), some (.ref a1), some (.ref a2), some (vI x3), some (vI x4), some (vI (x5 + 1)), some (vI x6), some (vI x8), some (vI x8), some (vI x9)] [vI 0] S r S') ∧ ((¬ w32 (S.1 a1 1) ≤ w32 (x5 + 1)) → (0 ≤ w32 (x5 + 1) ∧ w32 (x5 + 1) < (na1 : Nat)) ∧ ∃ (z4 : Int) (S2 : ms), EV q 51 0 [some (.ref 22), some (vI x8), some (vI (S.1 (a1 + 1) (w32 (x5 + 1)))), none, none] [] S (some (vI z4)) S2 ∧ EV q 48 158 [some (.ref 22), some (.ref a1), some (.ref a2), some (vI x3), some (vI x4), some (vI (x5 + 1)), some (vI x6), some (vI x8), some (vI x8), some (vI x9)] [vI z4] S2 r S')))) : EV q 48 111 [some (.ref 22), some (.ref a1), some (.ref a2), some (vI x3), some (vI x4), some (vI x5), some (vI x6), some (vI x7), some (vI x8), some (vI x9)] [] S r S' := by
  unfold EV
  refine ev_bk 2 (S' := (114, [some (.ref 22), some (.ref a1), some (.ref a2), some (vI x3), some (vI x4), some (vI x5), some (vI x6), some (vI x7), some (vI x8), some (vI x9)], [.ref a1, vI x9], hp S, 0, 0)) rfl ?_
  refine mv_gfI rfl rfl (ha1.1) (by decide) rfl ?_
  refine mv_icmp 166 rfl rfl (fun c => ?_) (fun c => ?_)
  · have F := F.1 c
    exact F
  · have F := F.2 c
    refine ev_bk 1 (S' := (122, [some (.ref 22), some (.ref a1), some (.ref a2), some (vI x3), some (vI x4), some (vI x5), some (vI x6), some (vI x7), some (vI x8), some (vI x9)], [vI x8], hp S, 0, 0)) rfl ?_
    refine mv_if 166 rfl rfl (fun c => ?_) (fun c => ?_)
    · have F := F.1 c
      exact F
    · have F := F.2 c
      refine ev_bk 2 (S' := (129, [some (.ref 22), some (.ref a1), some (.ref a2), some (vI x3), some (vI x4), some (vI x5), some (vI x6), some (vI x8), some (vI x8), some (vI x9)], [], hp S, 0, 0)) rfl ?_
      refine mv_inc (lv' := [some (.ref 22), some (.ref a1), some (.ref a2), some (vI x3), some (vI x4), some (vI (x5 + 1)), some (vI x6), some (vI x8), some (vI x8), some (vI x9)]) 5 1 rfl rfl rfl rfl ?_
      refine ev_bk 2 (S' := (135, [some (.ref 22), some (.ref a1), some (.ref a2), some (vI x3), some (vI x4), some (vI (x5 + 1)), some (vI x6), some (vI x8), some (vI x8), some (vI x9)], [.ref a1, vI (x5 + 1)], hp S, 0, 0)) rfl ?_
      refine mv_gfI rfl rfl (ha1.1) (by decide) rfl ?_
      refine mv_icmp 157 rfl rfl (fun c => ?_) (fun c => ?_)
      · have F := F.1 c
        refine ev_bk 1 (S' := (158, [some (.ref 22), some (.ref a1), some (.ref a2), some (vI x3), some (vI x4), some (vI (x5 + 1)), some (vI x6), some (vI x8), some (vI x8), some (vI x9)], [vI 0], hp S, 0, 0)) rfl ?_
        exact F
      · have F := F.2 c
        refine ev_bk 3 (S' := (145, [some (.ref 22), some (.ref a1), some (.ref a2), some (vI x3), some (vI x4), some (vI (x5 + 1)), some (vI x6), some (vI x8), some (vI x8), some (vI x9)], [.ref a1, vI x8, .ref 22], hp S, 0, 0)) rfl ?_
        refine mv_gfR rfl rfl (ha1.1) (by decide) rfl ?_
        refine ev_bk 1 (S' := (150, [some (.ref 22), some (.ref a1), some (.ref a2), some (vI x3), some (vI x4), some (vI (x5 + 1)), some (vI x6), some (vI x8), some (vI x8), some (vI x9)], [vI (x5 + 1), .ref (a1 + 1), vI x8, .ref 22], hp S, 0, 0)) rfl ?_
        obtain ⟨b1, F⟩ := F
        refine mv_ial rfl (ha1.2) b1 ?_
        obtain ⟨z4, S2, e3, F⟩ := F
        refine mv_calv (as := [vI x8, vI (S.1 (a1 + 1) (w32 (x5 + 1)))]) (rest := []) e3 (sh_22) rfl rfl rfl ⟨rfl, rfl⟩ rfl rfl rfl rfl rfl ?_
        refine mv_goto 158 rfl rfl ?_
        exact F
theorem vc_Plain_packWords_158 {q : Nat × (Nat → Int32)} {S S' : ms} {r : Option Value} (x3 x4 x5 x6 x7 x8 x9 y0 : Int) (a1 na1 : Nat) (ha1 : isRow a1 na1) (a2 na2 : Nat) (ha2 : isRow a2 na2)
    (F : EV q 48 111 [some (.ref 22), some (.ref a1), some (.ref a2), some (vI x3), some (vI x4), some (vI x5), some (vI x6), some (vI x7), some (vI y0), some (vI (x9 + 1))] [] S r S') : EV q 48 158 [some (.ref 22), some (.ref a1), some (.ref a2), some (vI x3), some (vI x4), some (vI x5), some (vI x6), some (vI x7), some (vI x8), some (vI x9)] [vI y0] S r S' := by
  unfold EV
  refine ev_bk 1 (S' := (160, [some (.ref 22), some (.ref a1), some (.ref a2), some (vI x3), some (vI x4), some (vI x5), some (vI x6), some (vI x7), some (vI y0), some (vI x9)], [], hp S, 0, 0)) rfl ?_
  refine mv_inc (lv' := [some (.ref 22), some (.ref a1), some (.ref a2), some (vI x3), some (vI x4), some (vI x5), some (vI x6), some (vI x7), some (vI y0), some (vI (x9 + 1))]) 9 1 rfl rfl rfl rfl ?_
  refine mv_goto 111 rfl rfl ?_
  exact F
theorem vc_Plain_packWords_166 {q : Nat × (Nat → Int32)} {S S' : ms} {r : Option Value} (x3 x4 x5 x6 x7 x8 x9 : Int) (a1 na1 : Nat) (ha1 : isRow a1 na1) (a2 na2 : Nat) (ha2 : isRow a2 na2)
    (F : ∃ (z3 : Int) (S1 : ms), EV q 52 0 [some (vI x3), none] [] S (some (vI z3)) S1 ∧ ∃ (S4 : ms), EV q 49 0 [some (.ref a2), some (vI x7), some (vI z3), none, none, none, none, none] [] S1 none S4 ∧ ((¬ w32 (x3 + 1) = 3838) → EV q 48 211 [some (.ref 22), some (.ref a1), some (.ref a2), some (vI (x3 + 1)), some (vI x7), some (vI x5), some (vI x6), some (vI x7), some (vI x8), some (vI x9)] [] S4 r S') ∧ ((¬ (¬ w32 (x3 + 1) = 3838)) → ∃ (z8 : Int) (S6 : ms), EV q 52 0 [some (vI (x3 + 1)), none] [] S4 (some (vI z8)) S6 ∧ ∃ (S9 : ms), EV q 49 0 [some (.ref a2), some (vI 256), some (vI z8), none, none, none, none, none] [] S6 none S9 ∧ ∃ (S11 : ms), EV q 11 0 [some (.ref 23), some (vI 0), none, none] [] S9 none S11 ∧ EV q 48 211 [some (.ref 22), some (.ref a1), some (.ref a2), some (vI 0), some (vI x7), some (vI x5), some (vI x6), some (vI x7), some (vI x8), some (vI x9)] [] S11 r S')) : EV q 48 166 [some (.ref 22), some (.ref a1), some (.ref a2), some (vI x3), some (vI x4), some (vI x5), some (vI x6), some (vI x7), some (vI x8), some (vI x9)] [] S r S' := by
  unfold EV
  refine ev_bk 3 (S' := (170, [some (.ref 22), some (.ref a1), some (.ref a2), some (vI x3), some (vI x4), some (vI x5), some (vI x6), some (vI x7), some (vI x8), some (vI x9)], [vI x3, vI x7, .ref a2], hp S, 0, 0)) rfl ?_
  obtain ⟨z3, S1, e2, F⟩ := F
  refine mv_cals (as := [vI x3]) (rest := [vI x7, .ref a2]) e2 rfl rfl rfl ⟨rfl, rfl, rfl⟩ rfl rfl rfl rfl ?_
  obtain ⟨S4, e5, F⟩ := F
  refine mv_calv (as := [vI x7, vI z3]) (rest := []) e5 (ha2.1) rfl rfl rfl ⟨rfl, rfl⟩ rfl rfl rfl rfl rfl ?_
  refine ev_bk 2 (S' := (180, [some (.ref 22), some (.ref a1), some (.ref a2), some (vI x3), some (vI x7), some (vI x5), some (vI x6), some (vI x7), some (vI x8), some (vI x9)], [], hp S4, 0, 0)) rfl ?_
  refine mv_inc (lv' := [some (.ref 22), some (.ref a1), some (.ref a2), some (vI (x3 + 1)), some (vI x7), some (vI x5), some (vI x6), some (vI x7), some (vI x8), some (vI x9)]) 3 1 rfl rfl rfl rfl ?_
  refine ev_bk 2 (S' := (187, [some (.ref 22), some (.ref a1), some (.ref a2), some (vI (x3 + 1)), some (vI x7), some (vI x5), some (vI x6), some (vI x7), some (vI x8), some (vI x9)], [vI 3838, vI (x3 + 1)], hp S4, 0, 0)) rfl ?_
  refine mv_icmp 211 rfl rfl (fun c => ?_) (fun c => ?_)
  · have F := F.1 c
    exact F
  · have F := F.2 c
    refine ev_bk 3 (S' := (195, [some (.ref 22), some (.ref a1), some (.ref a2), some (vI (x3 + 1)), some (vI x7), some (vI x5), some (vI x6), some (vI x7), some (vI x8), some (vI x9)], [vI (x3 + 1), vI 256, .ref a2], hp S4, 0, 0)) rfl ?_
    obtain ⟨z8, S6, e7, F⟩ := F
    refine mv_cals (as := [vI (x3 + 1)]) (rest := [vI 256, .ref a2]) e7 rfl rfl rfl ⟨rfl, rfl, rfl⟩ rfl rfl rfl rfl ?_
    obtain ⟨S9, e10, F⟩ := F
    refine mv_calv (as := [vI 256, vI z8]) (rest := []) e10 (ha2.1) rfl rfl rfl ⟨rfl, rfl⟩ rfl rfl rfl rfl rfl ?_
    refine ev_bk 1 (S' := (202, [some (.ref 22), some (.ref a1), some (.ref a2), some (vI (x3 + 1)), some (vI x7), some (vI x5), some (vI x6), some (vI x7), some (vI x8), some (vI x9)], [.ref 22], hp S9, 0, 0)) rfl ?_
    refine mv_gfR rfl rfl (sh_22) (by decide) rfl ?_
    refine ev_bk 1 (S' := (206, [some (.ref 22), some (.ref a1), some (.ref a2), some (vI (x3 + 1)), some (vI x7), some (vI x5), some (vI x6), some (vI x7), some (vI x8), some (vI x9)], [vI 0, .ref 23], hp S9, 0, 0)) rfl ?_
    obtain ⟨S11, e12, F⟩ := F
    refine mv_cals (as := [.ref 23, vI 0]) (rest := []) e12 rfl rfl rfl ⟨rfl, rfl, rfl⟩ rfl rfl rfl rfl ?_
    refine ev_bk 2 (S' := (211, [some (.ref 22), some (.ref a1), some (.ref a2), some (vI 0), some (vI x7), some (vI x5), some (vI x6), some (vI x7), some (vI x8), some (vI x9)], [], hp S11, 0, 0)) rfl ?_
    exact F
theorem vc_Plain_packWords_211 {q : Nat × (Nat → Int32)} {S S' : ms} {r : Option Value} (x3 x4 x5 x6 x7 x8 x9 : Int) (a1 na1 : Nat) (ha1 : isRow a1 na1) (a2 na2 : Nat) (ha2 : isRow a2 na2)
    (F : EV q 48 28 [some (.ref 22), some (.ref a1), some (.ref a2), some (vI x3), some (vI x4), some (vI x5), some (vI (x6 + 1)), none, none, none] [] S r S') : EV q 48 211 [some (.ref 22), some (.ref a1), some (.ref a2), some (vI x3), some (vI x4), some (vI x5), some (vI x6), some (vI x7), some (vI x8), some (vI x9)] [] S r S' := by
  unfold EV
  refine mv_inc (lv' := [some (.ref 22), some (.ref a1), some (.ref a2), some (vI x3), some (vI x4), some (vI x5), some (vI (x6 + 1)), some (vI x7), some (vI x8), some (vI x9)]) 6 1 rfl rfl rfl rfl ?_
  refine mv_goto 28 rfl rfl ?_
  exact ev_wk (le_s (le_s (le_s (le_s (le_s (le_s (le_s (le_n (le_n (le_n le_0)))))))))) F
theorem vc_Plain_packWords_217 {q : Nat × (Nat → Int32)} {S S' : ms} {r : Option Value} (x3 x4 x5 x6 : Int) (a1 na1 : Nat) (ha1 : isRow a1 na1) (a2 na2 : Nat) (ha2 : isRow a2 na2)
    (F : ∃ (z3 : Int) (S1 : ms), EV q 52 0 [some (vI x3), none] [] S (some (vI z3)) S1 ∧ ∃ (S4 : ms), EV q 49 0 [some (.ref a2), some (vI 257), some (vI z3), none, none, none, none, none] [] S1 none S4 ∧ ∃ (S6 : ms), EV q 53 0 [some (.ref a2)] [] S4 none S6 ∧ r = none ∧ S' = S6) : EV q 48 217 [some (.ref 22), some (.ref a1), some (.ref a2), some (vI x3), some (vI x4), some (vI x5), some (vI x6), none, none, none] [] S r S' := by
  unfold EV
  refine ev_bk 3 (S' := (222, [some (.ref 22), some (.ref a1), some (.ref a2), some (vI x3), some (vI x4), some (vI x5), some (vI x6), none, none, none], [vI x3, vI 257, .ref a2], hp S, 0, 0)) rfl ?_
  obtain ⟨z3, S1, e2, F⟩ := F
  refine mv_cals (as := [vI x3]) (rest := [vI 257, .ref a2]) e2 rfl rfl rfl ⟨rfl, rfl, rfl⟩ rfl rfl rfl rfl ?_
  obtain ⟨S4, e5, F⟩ := F
  refine mv_calv (as := [vI 257, vI z3]) (rest := []) e5 (ha2.1) rfl rfl rfl ⟨rfl, rfl⟩ rfl rfl rfl rfl rfl ?_
  refine ev_bk 1 (S' := (229, [some (.ref 22), some (.ref a1), some (.ref a2), some (vI x3), some (vI x4), some (vI x5), some (vI x6), none, none, none], [.ref a2], hp S4, 0, 0)) rfl ?_
  obtain ⟨S6, e7, F⟩ := F
  refine mv_calv (as := []) (rest := []) e7 (ha2.1) rfl rfl rfl ⟨rfl, rfl⟩ rfl rfl rfl rfl rfl ?_
  obtain ⟨rfl, rfl⟩ := F
  exact ev_ret rfl rfl
theorem vc_Plain_addWord {q : Nat × (Nat → Int32)} {S S' : ms} {r : Option Value} (x1 x2 x3 : Int)
    (F : ((4096 ≤ w32 x3) → r = none ∧ S' = S) ∧ ((¬ 4096 ≤ w32 x3) → (0 ≤ w32 x3 ∧ w32 x3 < (4096 : Nat)) ∧ ∀ S2 : ms, S2 = wI S 25 (w32 x3) x2 → (0 ≤ w32 x1 ∧ w32 x1 < (4096 : Nat)) ∧ (0 ≤ w32 x3 ∧ w32 x3 < (4096 : Nat)) ∧ ∀ S5 : ms, S5 = wI S2 24 (w32 x3) (S2.1 23 (w32 x1)) → (0 ≤ w32 x1 ∧ w32 x1 < (4096 : Nat)) ∧ ∀ S7 : ms, S7 = wI S5 23 (w32 x1) x3 → (0 ≤ w32 x3 ∧ w32 x3 < (4096 : Nat)) ∧ ∀ S9 : ms, S9 = wI S7 23 (w32 x3) 0 → r = none ∧ S' = S9)) : EV q 50 0 [some (.ref 22), some (vI x1), some (vI x2), some (vI x3)] [] S r S' := by
  unfold EV
  refine ev_bk 2 (S' := (4, [some (.ref 22), some (vI x1), some (vI x2), some (vI x3)], [vI 4096, vI x3], hp S, 0, 0)) rfl ?_
  refine mv_icmp 40 rfl rfl (fun c => ?_) (fun c => ?_)
  · have F := F.1 c
    obtain ⟨rfl, rfl⟩ := F
    exact ev_ret rfl rfl
  · have F := F.2 c
    refine ev_bk 1 (S' := (8, [some (.ref 22), some (vI x1), some (vI x2), some (vI x3)], [.ref 22], hp S, 0, 0)) rfl ?_
    refine mv_gfR rfl rfl (sh_22) (by decide) rfl ?_
    refine ev_bk 2 (S' := (13, [some (.ref 22), some (vI x1), some (vI x2), some (vI x3)], [vI x2, vI x3, .ref 25], hp S, 0, 0)) rfl ?_
    obtain ⟨b1, F⟩ := F
    refine mv_ias rfl (sh_25) b1 ?_
    have F := F _ rfl
    refine ev_bk 1 (S' := (15, [some (.ref 22), some (vI x1), some (vI x2), some (vI x3)], [.ref 22], hp (wI S 25 (w32 x3) x2), 0, 0)) rfl ?_
    refine mv_gfR rfl rfl (sh_22) (by decide) rfl ?_
    refine ev_bk 2 (S' := (20, [some (.ref 22), some (vI x1), some (vI x2), some (vI x3)], [.ref 22, vI x3, .ref 24], hp (wI S 25 (w32 x3) x2), 0, 0)) rfl ?_
    refine mv_gfR rfl rfl (sh_22) (by decide) rfl ?_
    refine ev_bk 1 (S' := (24, [some (.ref 22), some (vI x1), some (vI x2), some (vI x3)], [vI x1, .ref 23, vI x3, .ref 24], hp (wI S 25 (w32 x3) x2), 0, 0)) rfl ?_
    obtain ⟨b3, F⟩ := F
    refine mv_ial rfl (sh_23) b3 ?_
    obtain ⟨b4, F⟩ := F
    refine mv_ias rfl (sh_24) b4 ?_
    have F := F _ rfl
    refine ev_bk 1 (S' := (27, [some (.ref 22), some (vI x1), some (vI x2), some (vI x3)], [.ref 22], hp (wI (wI S 25 (w32 x3) x2) 24 (w32 x3) ((wI S 25 (w32 x3) x2).1 23 (w32 x1))), 0, 0)) rfl ?_
    refine mv_gfR rfl rfl (sh_22) (by decide) rfl ?_
    refine ev_bk 2 (S' := (32, [some (.ref 22), some (vI x1), some (vI x2), some (vI x3)], [vI x3, vI x1, .ref 23], hp (wI (wI S 25 (w32 x3) x2) 24 (w32 x3) ((wI S 25 (w32 x3) x2).1 23 (w32 x1))), 0, 0)) rfl ?_
    obtain ⟨b6, F⟩ := F
    refine mv_ias rfl (sh_23) b6 ?_
    have F := F _ rfl
    refine ev_bk 1 (S' := (34, [some (.ref 22), some (vI x1), some (vI x2), some (vI x3)], [.ref 22], hp (wI (wI (wI S 25 (w32 x3) x2) 24 (w32 x3) ((wI S 25 (w32 x3) x2).1 23 (w32 x1))) 23 (w32 x1) x3), 0, 0)) rfl ?_
    refine mv_gfR rfl rfl (sh_22) (by decide) rfl ?_
    refine ev_bk 2 (S' := (39, [some (.ref 22), some (vI x1), some (vI x2), some (vI x3)], [vI 0, vI x3, .ref 23], hp (wI (wI (wI S 25 (w32 x3) x2) 24 (w32 x3) ((wI S 25 (w32 x3) x2).1 23 (w32 x1))) 23 (w32 x1) x3), 0, 0)) rfl ?_
    obtain ⟨b8, F⟩ := F
    refine mv_ias rfl (sh_23) b8 ?_
    have F := F _ rfl
    obtain ⟨rfl, rfl⟩ := F
    exact ev_ret rfl rfl
theorem vc_Plain_longerWord {q : Nat × (Nat → Int32)} {S S' : ms} {r : Option Value} (x1 x2 : Int)
    (F : (0 ≤ w32 x1 ∧ w32 x1 < (4096 : Nat)) ∧ EV q 51 10 [some (.ref 22), some (vI x1), some (vI x2), some (vI (S.1 23 (w32 x1))), some (vI 0)] [] S r S') : EV q 51 0 [some (.ref 22), some (vI x1), some (vI x2), none, none] [] S r S' := by
  unfold EV
  refine ev_bk 1 (S' := (1, [some (.ref 22), some (vI x1), some (vI x2), none, none], [.ref 22], hp S, 0, 0)) rfl ?_
  refine mv_gfR rfl rfl (sh_22) (by decide) rfl ?_
  refine ev_bk 1 (S' := (5, [some (.ref 22), some (vI x1), some (vI x2), none, none], [vI x1, .ref 23], hp S, 0, 0)) rfl ?_
  obtain ⟨b1, F⟩ := F
  refine mv_ial rfl (sh_23) b1 ?_
  refine ev_bk 3 (S' := (10, [some (.ref 22), some (vI x1), some (vI x2), some (vI (S.1 23 (w32 x1))), some (vI 0)], [], hp S, 0, 0)) rfl ?_
  exact F
theorem vc_Plain_longerWord_10 {q : Nat × (Nat → Int32)} {S S' : ms} {r : Option Value} (x1 x2 x3 x4 : Int)
    (F : ((256 ≤ w32 x4) → r = some (vI x3) ∧ S' = S) ∧ ((¬ 256 ≤ w32 x4) → ((w32 x3 ≤ 0) → r = some (vI x3) ∧ S' = S) ∧ ((¬ w32 x3 ≤ 0) → (0 ≤ w32 x3 ∧ w32 x3 < (4096 : Nat)) ∧ ((w32 (S.1 25 (w32 x3)) = w32 x2) → r = some (vI x3) ∧ S' = S) ∧ ((¬ w32 (S.1 25 (w32 x3)) = w32 x2) → (0 ≤ w32 x3 ∧ w32 x3 < (4096 : Nat)) ∧ EV q 51 10 [some (.ref 22), some (vI x1), some (vI x2), some (vI (S.1 24 (w32 x3))), some (vI (x4 + 1))] [] S r S')))) : EV q 51 10 [some (.ref 22), some (vI x1), some (vI x2), some (vI x3), some (vI x4)] [] S r S' := by
  unfold EV
  refine ev_bk 2 (S' := (15, [some (.ref 22), some (vI x1), some (vI x2), some (vI x3), some (vI x4)], [vI 256, vI x4], hp S, 0, 0)) rfl ?_
  refine mv_icmp 45 rfl rfl (fun c => ?_) (fun c => ?_)
  · have F := F.1 c
    refine ev_bk 1 (S' := (46, [some (.ref 22), some (vI x1), some (vI x2), some (vI x3), some (vI x4)], [vI x3], hp S, 0, 0)) rfl ?_
    obtain ⟨rfl, rfl⟩ := F
    exact ev_ret rfl rfl
  · have F := F.2 c
    refine ev_bk 1 (S' := (19, [some (.ref 22), some (vI x1), some (vI x2), some (vI x3), some (vI x4)], [vI x3], hp S, 0, 0)) rfl ?_
    refine mv_if 45 rfl rfl (fun c => ?_) (fun c => ?_)
    · have F := F.1 c
      refine ev_bk 1 (S' := (46, [some (.ref 22), some (vI x1), some (vI x2), some (vI x3), some (vI x4)], [vI x3], hp S, 0, 0)) rfl ?_
      obtain ⟨rfl, rfl⟩ := F
      exact ev_ret rfl rfl
    · have F := F.2 c
      refine ev_bk 1 (S' := (23, [some (.ref 22), some (vI x1), some (vI x2), some (vI x3), some (vI x4)], [.ref 22], hp S, 0, 0)) rfl ?_
      refine mv_gfR rfl rfl (sh_22) (by decide) rfl ?_
      refine ev_bk 1 (S' := (27, [some (.ref 22), some (vI x1), some (vI x2), some (vI x3), some (vI x4)], [vI x3, .ref 25], hp S, 0, 0)) rfl ?_
      obtain ⟨b1, F⟩ := F
      refine mv_ial rfl (sh_25) b1 ?_
      refine ev_bk 1 (S' := (29, [some (.ref 22), some (vI x1), some (vI x2), some (vI x3), some (vI x4)], [vI x2, vI (S.1 25 (w32 x3))], hp S, 0, 0)) rfl ?_
      refine mv_icmp 45 rfl rfl (fun c => ?_) (fun c => ?_)
      · have F := F.1 c
        refine ev_bk 1 (S' := (46, [some (.ref 22), some (vI x1), some (vI x2), some (vI x3), some (vI x4)], [vI x3], hp S, 0, 0)) rfl ?_
        obtain ⟨rfl, rfl⟩ := F
        exact ev_ret rfl rfl
      · have F := F.2 c
        refine ev_bk 1 (S' := (33, [some (.ref 22), some (vI x1), some (vI x2), some (vI x3), some (vI x4)], [.ref 22], hp S, 0, 0)) rfl ?_
        refine mv_gfR rfl rfl (sh_22) (by decide) rfl ?_
        refine ev_bk 1 (S' := (37, [some (.ref 22), some (vI x1), some (vI x2), some (vI x3), some (vI x4)], [vI x3, .ref 24], hp S, 0, 0)) rfl ?_
        obtain ⟨b2, F⟩ := F
        refine mv_ial rfl (sh_24) b2 ?_
        refine ev_bk 1 (S' := (39, [some (.ref 22), some (vI x1), some (vI x2), some (vI (S.1 24 (w32 x3))), some (vI x4)], [], hp S, 0, 0)) rfl ?_
        refine mv_inc (lv' := [some (.ref 22), some (vI x1), some (vI x2), some (vI (S.1 24 (w32 x3))), some (vI (x4 + 1))]) 4 1 rfl rfl rfl rfl ?_
        refine mv_goto 10 rfl rfl ?_
        exact F
theorem vc_Plain_width {q : Nat × (Nat → Int32)} {S S' : ms} {r : Option Value} (x0 : Int)
    (F : ((512 ≤ w32 (257 + x0)) → ((1024 ≤ w32 (257 + x0)) → ((2048 ≤ w32 (257 + x0)) → r = some (vI 12) ∧ S' = S) ∧ ((¬ 2048 ≤ w32 (257 + x0)) → r = some (vI 11) ∧ S' = S)) ∧ ((¬ 1024 ≤ w32 (257 + x0)) → r = some (vI 10) ∧ S' = S)) ∧ ((¬ 512 ≤ w32 (257 + x0)) → r = some (vI 9) ∧ S' = S)) : EV q 52 0 [some (vI x0), none] [] S r S' := by
  unfold EV
  refine ev_bk 2 (S' := (4, [some (vI x0), none], [vI x0, vI 257], hp S, 0, 0)) rfl ?_
  refine mv_iadd rfl ?_
  refine ev_bk 3 (S' := (10, [some (vI x0), some (vI (257 + x0))], [vI 512, vI (257 + x0)], hp S, 0, 0)) rfl ?_
  refine mv_icmp 18 rfl rfl (fun c => ?_) (fun c => ?_)
  · have F := F.1 c
    refine ev_bk 2 (S' := (22, [some (vI x0), some (vI (257 + x0))], [vI 1024, vI (257 + x0)], hp S, 0, 0)) rfl ?_
    refine mv_icmp 30 rfl rfl (fun c => ?_) (fun c => ?_)
    · have F := F.1 c
      refine ev_bk 2 (S' := (34, [some (vI x0), some (vI (257 + x0))], [vI 2048, vI (257 + x0)], hp S, 0, 0)) rfl ?_
      refine mv_icmp 42 rfl rfl (fun c => ?_) (fun c => ?_)
      · have F := F.1 c
        refine ev_bk 1 (S' := (44, [some (vI x0), some (vI (257 + x0))], [vI 12], hp S, 0, 0)) rfl ?_
        obtain ⟨rfl, rfl⟩ := F
        exact ev_ret rfl rfl
      · have F := F.2 c
        refine ev_bk 1 (S' := (39, [some (vI x0), some (vI (257 + x0))], [vI 11], hp S, 0, 0)) rfl ?_
        refine mv_goto 44 rfl rfl ?_
        obtain ⟨rfl, rfl⟩ := F
        exact ev_ret rfl rfl
    · have F := F.2 c
      refine ev_bk 1 (S' := (27, [some (vI x0), some (vI (257 + x0))], [vI 10], hp S, 0, 0)) rfl ?_
      refine mv_goto 44 rfl rfl ?_
      obtain ⟨rfl, rfl⟩ := F
      exact ev_ret rfl rfl
  · have F := F.2 c
    refine ev_bk 1 (S' := (15, [some (vI x0), some (vI (257 + x0))], [vI 9], hp S, 0, 0)) rfl ?_
    refine mv_goto 44 rfl rfl ?_
    obtain ⟨rfl, rfl⟩ := F
    exact ev_ret rfl rfl
theorem vc_Finder_greedy {q : Nat × (Nat → Int32)} {S S' : ms} {r : Option Value} (x2 x3 x4 : Int) (a1 na1 : Nat) (ha1 : isRow a1 na1)
    (F : ∃ (S1 : ms), EV q 59 0 [some (.ref 10), some (.ref a1), none, none] [] S none S1 ∧ EV q 58 11 [some (.ref 10), some (.ref a1), some (vI x2), some (vI x3), some (vI x4), some (vI 0), some (vI 0), none] [] S1 r S') : EV q 58 0 [some (.ref 10), some (.ref a1), some (vI x2), some (vI x3), some (vI x4), none, none, none] [] S r S' := by
  unfold EV
  refine ev_bk 2 (S' := (2, [some (.ref 10), some (.ref a1), some (vI x2), some (vI x3), some (vI x4), none, none, none], [.ref a1, .ref 10], hp S, 0, 0)) rfl ?_
  obtain ⟨S1, e2, F⟩ := F
  refine mv_calv (as := [.ref a1]) (rest := []) e2 (sh_10) rfl rfl rfl ⟨rfl, rfl⟩ rfl rfl rfl rfl rfl ?_
  refine ev_bk 4 (S' := (11, [some (.ref 10), some (.ref a1), some (vI x2), some (vI x3), some (vI x4), some (vI 0), some (vI 0), none], [], hp S1, 0, 0)) rfl ?_
  exact F
theorem vc_Finder_greedy_11 {q : Nat × (Nat → Int32)} {S S' : ms} {r : Option Value} (x2 x3 x4 x5 x6 : Int) (a1 na1 : Nat) (ha1 : isRow a1 na1)
    (F : ((w32 (S.1 10 3) ≤ w32 x6) → r = none ∧ S' = S) ∧ ((¬ w32 (S.1 10 3) ≤ w32 x6) → ((w32 (S.1 10 3) ≤ w32 x5) → r = none ∧ S' = S) ∧ ((¬ w32 (S.1 10 3) ≤ w32 x5) → ∃ (z3 : Int) (S1 : ms), EV q 60 0 [some (.ref 10), some (vI x5), some (vI x2), some (vI x3), none, none, none, none, none] [] S (some (vI z3)) S1 ∧ ∃ (z6 : Int) (S4 : ms), EV q 62 0 [some (.ref 10), some (vI x5), some (vI x4)] [] S1 (some (vI z6)) S4 ∧ ((w32 x2 ≤ w32 (min (w32 z3) (w32 (z6 - x5)))) → ∃ (S7 : ms), EV q 63 0 [some (.ref 10), some (vI x5), some (vI (min (w32 z3) (w32 (z6 - x5)))), some (vI (S4.1 10 4))] [] S4 none S7 ∧ EV q 58 92 [some (.ref 10), some (.ref a1), some (vI x2), some (vI x3), some (vI x4), some (vI (x5 + (min (w32 z3) (w32 (z6 - x5))))), some (vI x6), some (vI (min (w32 z3) (w32 (z6 - x5))))] [] S7 r S') ∧ ((¬ w32 x2 ≤ w32 (min (w32 z3) (w32 (z6 - x5)))) → ∃ (S9 : ms), EV q 63 0 [some (.ref 10), some (vI x5), some (vI 1), some (vI 0)] [] S4 none S9 ∧ EV q 58 92 [some (.ref 10), some (.ref a1), some (vI x2), some (vI x3), some (vI x4), some (vI (x5 + 1)), some (vI x6), some (vI (min (w32 z3) (w32 (z6 - x5))))] [] S9 r S')))) : EV q 58 11 [some (.ref 10), some (.ref a1), some (vI x2), some (vI x3), some (vI x4), some (vI x5), some (vI x6), none] [] S r S' := by
  unfold EV
  refine ev_bk 2 (S' := (14, [some (.ref 10), some (.ref a1), some (vI x2), some (vI x3), some (vI x4), some (vI x5), some (vI x6), none], [.ref 10, vI x6], hp S, 0, 0)) rfl ?_
  refine mv_gfI rfl rfl (sh_10) (by decide) rfl ?_
  refine mv_icmp 98 rfl rfl (fun c => ?_) (fun c => ?_)
  · have F := F.1 c
    obtain ⟨rfl, rfl⟩ := F
    exact ev_ret rfl rfl
  · have F := F.2 c
    refine ev_bk 2 (S' := (23, [some (.ref 10), some (.ref a1), some (vI x2), some (vI x3), some (vI x4), some (vI x5), some (vI x6), none], [.ref 10, vI x5], hp S, 0, 0)) rfl ?_
    refine mv_gfI rfl rfl (sh_10) (by decide) rfl ?_
    refine mv_icmp 98 rfl rfl (fun c => ?_) (fun c => ?_)
    · have F := F.1 c
      obtain ⟨rfl, rfl⟩ := F
      exact ev_ret rfl rfl
    · have F := F.2 c
      refine ev_bk 4 (S' := (34, [some (.ref 10), some (.ref a1), some (vI x2), some (vI x3), some (vI x4), some (vI x5), some (vI x6), none], [vI x3, vI x2, vI x5, .ref 10], hp S, 0, 0)) rfl ?_
      obtain ⟨z3, S1, e2, F⟩ := F
      refine mv_calv (as := [vI x5, vI x2, vI x3]) (rest := []) e2 (sh_10) rfl rfl rfl ⟨rfl, rfl⟩ rfl rfl rfl rfl rfl ?_
      refine ev_bk 3 (S' := (42, [some (.ref 10), some (.ref a1), some (vI x2), some (vI x3), some (vI x4), some (vI x5), some (vI x6), none], [vI x4, vI x5, .ref 10, vI z3], hp S1, 0, 0)) rfl ?_
      obtain ⟨z6, S4, e5, F⟩ := F
      refine mv_calv (as := [vI x5, vI x4]) (rest := [vI z3]) e5 (sh_10) rfl rfl rfl ⟨rfl, rfl⟩ rfl rfl rfl rfl rfl ?_
      refine ev_bk 1 (S' := (47, [some (.ref 10), some (.ref a1), some (vI x2), some (vI x3), some (vI x4), some (vI x5), some (vI x6), none], [vI x5, vI z6, vI z3], hp S4, 0, 0)) rfl ?_
      refine mv_isub rfl ?_
      refine mv_min rfl rfl rfl ?_
      refine ev_bk 3 (S' := (56, [some (.ref 10), some (.ref a1), some (vI x2), some (vI x3), some (vI x4), some (vI x5), some (vI x6), some (vI (min (w32 z3) (w32 (z6 - x5))))], [vI x2, vI (min (w32 z3) (w32 (z6 - x5)))], hp S4, 0, 0)) rfl ?_
      refine mv_icmp 73 rfl rfl (fun c => ?_) (fun c => ?_)
      · have F := F.1 c
        refine ev_bk 4 (S' := (79, [some (.ref 10), some (.ref a1), some (vI x2), some (vI x3), some (vI x4), some (vI x5), some (vI x6), some (vI (min (w32 z3) (w32 (z6 - x5))))], [.ref 10, vI (min (w32 z3) (w32 (z6 - x5))), vI x5, .ref 10], hp S4, 0, 0)) rfl ?_
        refine mv_gfI rfl rfl (sh_10) (by decide) rfl ?_
        obtain ⟨S7, e8, F⟩ := F
        refine mv_calv (as := [vI x5, vI (min (w32 z3) (w32 (z6 - x5))), vI (S4.1 10 4)]) (rest := []) e8 (sh_10) rfl rfl rfl ⟨rfl, rfl⟩ rfl rfl rfl rfl rfl ?_
        refine ev_bk 2 (S' := (89, [some (.ref 10), some (.ref a1), some (vI x2), some (vI x3), some (vI x4), some (vI x5), some (vI x6), some (vI (min (w32 z3) (w32 (z6 - x5))))], [vI (min (w32 z3) (w32 (z6 - x5))), vI x5], hp S7, 0, 0)) rfl ?_
        refine mv_iadd rfl ?_
        refine ev_bk 1 (S' := (92, [some (.ref 10), some (.ref a1), some (vI x2), some (vI x3), some (vI x4), some (vI (x5 + (min (w32 z3) (w32 (z6 - x5))))), some (vI x6), some (vI (min (w32 z3) (w32 (z6 - x5))))], [], hp S7, 0, 0)) rfl ?_
        exact F
      · have F := F.2 c
        refine ev_bk 4 (S' := (64, [some (.ref 10), some (.ref a1), some (vI x2), some (vI x3), some (vI x4), some (vI x5), some (vI x6), some (vI (min (w32 z3) (w32 (z6 - x5))))], [vI 0, vI 1, vI x5, .ref 10], hp S4, 0, 0)) rfl ?_
        obtain ⟨S9, e10, F⟩ := F
        refine mv_calv (as := [vI x5, vI 1, vI 0]) (rest := []) e10 (sh_10) rfl rfl rfl ⟨rfl, rfl⟩ rfl rfl rfl rfl rfl ?_
        refine mv_inc (lv' := [some (.ref 10), some (.ref a1), some (vI x2), some (vI x3), some (vI x4), some (vI (x5 + 1)), some (vI x6), some (vI (min (w32 z3) (w32 (z6 - x5))))]) 5 1 rfl rfl rfl rfl ?_
        refine mv_goto 92 rfl rfl ?_
        exact F
theorem vc_Finder_greedy_92 {q : Nat × (Nat → Int32)} {S S' : ms} {r : Option Value} (x2 x3 x4 x5 x6 x7 : Int) (a1 na1 : Nat) (ha1 : isRow a1 na1)
    (F : EV q 58 11 [some (.ref 10), some (.ref a1), some (vI x2), some (vI x3), some (vI x4), some (vI x5), some (vI (x6 + 1)), none] [] S r S') : EV q 58 92 [some (.ref 10), some (.ref a1), some (vI x2), some (vI x3), some (vI x4), some (vI x5), some (vI x6), some (vI x7)] [] S r S' := by
  unfold EV
  refine mv_inc (lv' := [some (.ref 10), some (.ref a1), some (vI x2), some (vI x3), some (vI x4), some (vI x5), some (vI (x6 + 1)), some (vI x7)]) 6 1 rfl rfl rfl rfl ?_
  refine mv_goto 11 rfl rfl ?_
  exact ev_wk (le_s (le_s (le_s (le_s (le_s (le_s (le_s (le_n le_0)))))))) F
theorem vc_Finder_chainUp {q : Nat × (Nat → Int32)} {S S' : ms} {r : Option Value} (a1 na1 : Nat) (ha1 : isRow a1 na1)
    (F : ∀ S1 : ms, S1 = wR S 10 2 (a1 + 1) → ∀ S2 : ms, S2 = wI S1 10 3 (min (w32 (S1.1 a1 1)) (w32 6000)) → ∀ S3 : ms, S3 = wI S2 10 8 0 → ∃ (S4 : ms), EV q 11 0 [some (.ref 11), some (vI ((-1))), none, none] [] S3 none S4 ∧ EV q 59 37 [some (.ref 10), some (.ref a1), some (vI 0), none] [] S4 r S') : EV q 59 0 [some (.ref 10), some (.ref a1), none, none] [] S r S' := by
  unfold EV
  refine ev_bk 2 (S' := (2, [some (.ref 10), some (.ref a1), none, none], [.ref a1, .ref 10], hp S, 0, 0)) rfl ?_
  refine mv_gfR rfl rfl (ha1.1) (by decide) rfl ?_
  refine mv_pfR rfl rfl (sh_10) (by decide) rfl rfl ?_
  have F := F _ rfl
  refine ev_bk 2 (S' := (10, [some (.ref 10), some (.ref a1), none, none], [.ref a1, .ref 10], hp (wR S 10 2 (a1 + 1)), 0, 0)) rfl ?_
  refine mv_gfI rfl rfl (ha1.1) (by decide) rfl ?_
  refine ev_bk 1 (S' := (16, [some (.ref 10), some (.ref a1), none, none], [vI 6000, vI ((wR S 10 2 (a1 + 1)).1 a1 1), .ref 10], hp (wR S 10 2 (a1 + 1)), 0, 0)) rfl ?_
  refine mv_min rfl rfl rfl ?_
  refine mv_pfI rfl rfl (sh_10) (by decide) rfl rfl ?_
  have F := F _ rfl
  refine ev_bk 2 (S' := (24, [some (.ref 10), some (.ref a1), none, none], [vI 0, .ref 10], hp (wI (wR S 10 2 (a1 + 1)) 10 3 (min (w32 ((wR S 10 2 (a1 + 1)).1 a1 1)) (w32 6000))), 0, 0)) rfl ?_
  refine mv_pfI rfl rfl (sh_10) (by decide) rfl rfl ?_
  have F := F _ rfl
  refine ev_bk 1 (S' := (28, [some (.ref 10), some (.ref a1), none, none], [.ref 10], hp (wI (wI (wR S 10 2 (a1 + 1)) 10 3 (min (w32 ((wR S 10 2 (a1 + 1)).1 a1 1)) (w32 6000))) 10 8 0), 0, 0)) rfl ?_
  refine mv_gfR rfl rfl (sh_10) (by decide) rfl ?_
  refine ev_bk 1 (S' := (32, [some (.ref 10), some (.ref a1), none, none], [vI ((-1)), .ref 11], hp (wI (wI (wR S 10 2 (a1 + 1)) 10 3 (min (w32 ((wR S 10 2 (a1 + 1)).1 a1 1)) (w32 6000))) 10 8 0), 0, 0)) rfl ?_
  obtain ⟨S4, e5, F⟩ := F
  refine mv_cals (as := [.ref 11, vI ((-1))]) (rest := []) e5 rfl rfl rfl ⟨rfl, rfl, rfl⟩ rfl rfl rfl rfl ?_
  refine ev_bk 2 (S' := (37, [some (.ref 10), some (.ref a1), some (vI 0), none], [], hp S4, 0, 0)) rfl ?_
  exact F
theorem vc_Finder_chainUp_37 {q : Nat × (Nat → Int32)} {S S' : ms} {r : Option Value} (x2 : Int) (a1 na1 : Nat) (ha1 : isRow a1 na1)
    (F : ((w32 (S.1 10 3) ≤ w32 x2) → r = none ∧ S' = S) ∧ ((¬ w32 (S.1 10 3) ≤ w32 x2) → (0 ≤ w32 x2 ∧ w32 x2 < (12000 : Nat)) ∧ ∀ S2 : ms, S2 = wI S 12 (w32 x2) ((-1)) → ((w32 (S2.1 10 3) < w32 (x2 + 3)) → EV q 59 116 [some (.ref 10), some (.ref a1), some (vI x2), none] [] S2 r S') ∧ ((¬ w32 (S2.1 10 3) < w32 (x2 + 3)) → ∃ (o3 no3 : Nat), S2.2.2 10 2 = o3 ∧ SH o3 = (0, no3, []) ∧ (0 ≤ w32 x2 ∧ w32 x2 < (no3 : Nat)) ∧ ∃ (o7 no7 : Nat), S2.2.2 10 2 = o7 ∧ SH o7 = (0, no7, []) ∧ (0 ≤ w32 (x2 + 1) ∧ w32 (x2 + 1) < (no7 : Nat)) ∧ ∃ (o11 no11 : Nat), S2.2.2 10 2 = o11 ∧ SH o11 = (0, no11, []) ∧ (0 ≤ w32 (x2 + 2) ∧ w32 (x2 + 2) < (no11 : Nat)) ∧ (0 ≤ w32 ((((((S2.1 o3 (w32 x2)) * 33) + (S2.1 o7 (w32 (x2 + 1)))) * 33) + (S2.1 o11 (w32 (x2 + 2)))) % 8192) ∧ w32 ((((((S2.1 o3 (w32 x2)) * 33) + (S2.1 o7 (w32 (x2 + 1)))) * 33) + (S2.1 o11 (w32 (x2 + 2)))) % 8192) < (8192 : Nat)) ∧ (0 ≤ w32 x2 ∧ w32 x2 < (12000 : Nat)) ∧ ∀ S17 : ms, S17 = wI S2 12 (w32 x2) (S2.1 11 (w32 ((((((S2.1 o3 (w32 x2)) * 33) + (S2.1 o7 (w32 (x2 + 1)))) * 33) + (S2.1 o11 (w32 (x2 + 2)))) % 8192))) → (0 ≤ w32 ((((((S2.1 o3 (w32 x2)) * 33) + (S2.1 o7 (w32 (x2 + 1)))) * 33) + (S2.1 o11 (w32 (x2 + 2)))) % 8192) ∧ w32 ((((((S2.1 o3 (w32 x2)) * 33) + (S2.1 o7 (w32 (x2 + 1)))) * 33) + (S2.1 o11 (w32 (x2 + 2)))) % 8192) < (8192 : Nat)) ∧ ∀ S19 : ms, S19 = wI S17 11 (w32 ((((((S2.1 o3 (w32 x2)) * 33) + (S2.1 o7 (w32 (x2 + 1)))) * 33) + (S2.1 o11 (w32 (x2 + 2)))) % 8192)) x2 → EV q 59 116 [some (.ref 10), some (.ref a1), some (vI x2), none] [] S19 r S'))) : EV q 59 37 [some (.ref 10), some (.ref a1), some (vI x2), none] [] S r S' := by
  unfold EV
  refine ev_bk 2 (S' := (39, [some (.ref 10), some (.ref a1), some (vI x2), none], [.ref 10, vI x2], hp S, 0, 0)) rfl ?_
  refine mv_gfI rfl rfl (sh_10) (by decide) rfl ?_
  refine mv_icmp 122 rfl rfl (fun c => ?_) (fun c => ?_)
  · have F := F.1 c
    obtain ⟨rfl, rfl⟩ := F
    exact ev_ret rfl rfl
  · have F := F.2 c
    refine ev_bk 1 (S' := (46, [some (.ref 10), some (.ref a1), some (vI x2), none], [.ref 10], hp S, 0, 0)) rfl ?_
    refine mv_gfR rfl rfl (sh_10) (by decide) rfl ?_
    refine ev_bk 2 (S' := (51, [some (.ref 10), some (.ref a1), some (vI x2), none], [vI ((-1)), vI x2, .ref 12], hp S, 0, 0)) rfl ?_
    obtain ⟨b1, F⟩ := F
    refine mv_ias rfl (sh_12) b1 ?_
    have F := F _ rfl
    refine ev_bk 2 (S' := (54, [some (.ref 10), some (.ref a1), some (vI x2), none], [vI 3, vI x2], hp (wI S 12 (w32 x2) ((-1))), 0, 0)) rfl ?_
    refine mv_iadd rfl ?_
    refine ev_bk 1 (S' := (56, [some (.ref 10), some (.ref a1), some (vI x2), none], [.ref 10, vI (x2 + 3)], hp (wI S 12 (w32 x2) ((-1))), 0, 0)) rfl ?_
    refine mv_gfI rfl rfl (sh_10) (by decide) rfl ?_
    refine mv_icmp 116 rfl rfl (fun c => ?_) (fun c => ?_)
    · have F := F.1 c
      exact F
    · have F := F.2 c
      refine ev_bk 1 (S' := (63, [some (.ref 10), some (.ref a1), some (vI x2), none], [.ref 10], hp (wI S 12 (w32 x2) ((-1))), 0, 0)) rfl ?_
      obtain ⟨o3, no3, e5, h4, F⟩ := F
      refine mv_gfV rfl rfl (sh_10) (by decide) rfl e5 ?_
      refine ev_bk 1 (S' := (67, [some (.ref 10), some (.ref a1), some (vI x2), none], [vI x2, .ref o3], hp (wI S 12 (w32 x2) ((-1))), 0, 0)) rfl ?_
      obtain ⟨b6, F⟩ := F
      refine mv_ial rfl (h4) b6 ?_
      refine ev_bk 1 (S' := (70, [some (.ref 10), some (.ref a1), some (vI x2), none], [vI 33, vI ((wI S 12 (w32 x2) ((-1))).1 o3 (w32 x2))], hp (wI S 12 (w32 x2) ((-1))), 0, 0)) rfl ?_
      refine mv_imul rfl ?_
      refine ev_bk 1 (S' := (72, [some (.ref 10), some (.ref a1), some (vI x2), none], [.ref 10, vI (((wI S 12 (w32 x2) ((-1))).1 o3 (w32 x2)) * 33)], hp (wI S 12 (w32 x2) ((-1))), 0, 0)) rfl ?_
      obtain ⟨o7, no7, e9, h8, F⟩ := F
      refine mv_gfV rfl rfl (sh_10) (by decide) rfl e9 ?_
      refine ev_bk 2 (S' := (77, [some (.ref 10), some (.ref a1), some (vI x2), none], [vI 1, vI x2, .ref o7, vI (((wI S 12 (w32 x2) ((-1))).1 o3 (w32 x2)) * 33)], hp (wI S 12 (w32 x2) ((-1))), 0, 0)) rfl ?_
      refine mv_iadd rfl ?_
      obtain ⟨b10, F⟩ := F
      refine mv_ial rfl (h8) b10 ?_
      refine mv_iadd rfl ?_
      refine ev_bk 1 (S' := (82, [some (.ref 10), some (.ref a1), some (vI x2), none], [vI 33, vI ((((wI S 12 (w32 x2) ((-1))).1 o3 (w32 x2)) * 33) + ((wI S 12 (w32 x2) ((-1))).1 o7 (w32 (x2 + 1))))], hp (wI S 12 (w32 x2) ((-1))), 0, 0)) rfl ?_
      refine mv_imul rfl ?_
      refine ev_bk 1 (S' := (84, [some (.ref 10), some (.ref a1), some (vI x2), none], [.ref 10, vI (((((wI S 12 (w32 x2) ((-1))).1 o3 (w32 x2)) * 33) + ((wI S 12 (w32 x2) ((-1))).1 o7 (w32 (x2 + 1)))) * 33)], hp (wI S 12 (w32 x2) ((-1))), 0, 0)) rfl ?_
      obtain ⟨o11, no11, e13, h12, F⟩ := F
      refine mv_gfV rfl rfl (sh_10) (by decide) rfl e13 ?_
      refine ev_bk 2 (S' := (89, [some (.ref 10), some (.ref a1), some (vI x2), none], [vI 2, vI x2, .ref o11, vI (((((wI S 12 (w32 x2) ((-1))).1 o3 (w32 x2)) * 33) + ((wI S 12 (w32 x2) ((-1))).1 o7 (w32 (x2 + 1)))) * 33)], hp (wI S 12 (w32 x2) ((-1))), 0, 0)) rfl ?_
      refine mv_iadd rfl ?_
      obtain ⟨b14, F⟩ := F
      refine mv_ial rfl (h12) b14 ?_
      refine mv_iadd rfl ?_
      refine ev_bk 1 (S' := (95, [some (.ref 10), some (.ref a1), some (vI x2), none], [vI 8191, vI ((((((wI S 12 (w32 x2) ((-1))).1 o3 (w32 x2)) * 33) + ((wI S 12 (w32 x2) ((-1))).1 o7 (w32 (x2 + 1)))) * 33) + ((wI S 12 (w32 x2) ((-1))).1 o11 (w32 (x2 + 2))))], hp (wI S 12 (w32 x2) ((-1))), 0, 0)) rfl ?_
      refine mv_iandm 8192 13 (by decide) rfl rfl rfl ?_
      refine ev_bk 2 (S' := (98, [some (.ref 10), some (.ref a1), some (vI x2), some (vI (((((((wI S 12 (w32 x2) ((-1))).1 o3 (w32 x2)) * 33) + ((wI S 12 (w32 x2) ((-1))).1 o7 (w32 (x2 + 1)))) * 33) + ((wI S 12 (w32 x2) ((-1))).1 o11 (w32 (x2 + 2)))) % 8192))], [.ref 10], hp (wI S 12 (w32 x2) ((-1))), 0, 0)) rfl ?_
      refine mv_gfR rfl rfl (sh_10) (by decide) rfl ?_
      refine ev_bk 2 (S' := (103, [some (.ref 10), some (.ref a1), some (vI x2), some (vI (((((((wI S 12 (w32 x2) ((-1))).1 o3 (w32 x2)) * 33) + ((wI S 12 (w32 x2) ((-1))).1 o7 (w32 (x2 + 1)))) * 33) + ((wI S 12 (w32 x2) ((-1))).1 o11 (w32 (x2 + 2)))) % 8192))], [.ref 10, vI x2, .ref 12], hp (wI S 12 (w32 x2) ((-1))), 0, 0)) rfl ?_
      refine mv_gfR rfl rfl (sh_10) (by decide) rfl ?_
      refine ev_bk 1 (S' := (107, [some (.ref 10), some (.ref a1), some (vI x2), some (vI (((((((wI S 12 (w32 x2) ((-1))).1 o3 (w32 x2)) * 33) + ((wI S 12 (w32 x2) ((-1))).1 o7 (w32 (x2 + 1)))) * 33) + ((wI S 12 (w32 x2) ((-1))).1 o11 (w32 (x2 + 2)))) % 8192))], [vI (((((((wI S 12 (w32 x2) ((-1))).1 o3 (w32 x2)) * 33) + ((wI S 12 (w32 x2) ((-1))).1 o7 (w32 (x2 + 1)))) * 33) + ((wI S 12 (w32 x2) ((-1))).1 o11 (w32 (x2 + 2)))) % 8192), .ref 11, vI x2, .ref 12], hp (wI S 12 (w32 x2) ((-1))), 0, 0)) rfl ?_
      obtain ⟨b15, F⟩ := F
      refine mv_ial rfl (sh_11) b15 ?_
      obtain ⟨b16, F⟩ := F
      refine mv_ias rfl (sh_12) b16 ?_
      have F := F _ rfl
      refine ev_bk 1 (S' := (110, [some (.ref 10), some (.ref a1), some (vI x2), some (vI (((((((wI S 12 (w32 x2) ((-1))).1 o3 (w32 x2)) * 33) + ((wI S 12 (w32 x2) ((-1))).1 o7 (w32 (x2 + 1)))) * 33) + ((wI S 12 (w32 x2) ((-1))).1 o11 (w32 (x2 + 2)))) % 8192))], [.ref 10], hp (wI (wI S 12 (w32 x2) ((-1))) 12 (w32 x2) ((wI S 12 (w32 x2) ((-1))).1 11 (w32 (((((((wI S 12 (w32 x2) ((-1))).1 o3 (w32 x2)) * 33) + ((wI S 12 (w32 x2) ((-1))).1 o7 (w32 (x2 + 1)))) * 33) + ((wI S 12 (w32 x2) ((-1))).1 o11 (w32 (x2 + 2)))) % 8192)))), 0, 0)) rfl ?_
      refine mv_gfR rfl rfl (sh_10) (by decide) rfl ?_
      refine ev_bk 2 (S' := (115, [some (.ref 10), some (.ref a1), some (vI x2), some (vI (((((((wI S 12 (w32 x2) ((-1))).1 o3 (w32 x2)) * 33) + ((wI S 12 (w32 x2) ((-1))).1 o7 (w32 (x2 + 1)))) * 33) + ((wI S 12 (w32 x2) ((-1))).1 o11 (w32 (x2 + 2)))) % 8192))], [vI x2, vI (((((((wI S 12 (w32 x2) ((-1))).1 o3 (w32 x2)) * 33) + ((wI S 12 (w32 x2) ((-1))).1 o7 (w32 (x2 + 1)))) * 33) + ((wI S 12 (w32 x2) ((-1))).1 o11 (w32 (x2 + 2)))) % 8192), .ref 11], hp (wI (wI S 12 (w32 x2) ((-1))) 12 (w32 x2) ((wI S 12 (w32 x2) ((-1))).1 11 (w32 (((((((wI S 12 (w32 x2) ((-1))).1 o3 (w32 x2)) * 33) + ((wI S 12 (w32 x2) ((-1))).1 o7 (w32 (x2 + 1)))) * 33) + ((wI S 12 (w32 x2) ((-1))).1 o11 (w32 (x2 + 2)))) % 8192)))), 0, 0)) rfl ?_
      obtain ⟨b18, F⟩ := F
      refine mv_ias rfl (sh_11) b18 ?_
      have F := F _ rfl
      exact ev_wk (le_s (le_s (le_s (le_n le_0)))) F
theorem vc_Finder_chainUp_116 {q : Nat × (Nat → Int32)} {S S' : ms} {r : Option Value} (x2 : Int) (a1 na1 : Nat) (ha1 : isRow a1 na1)
    (F : EV q 59 37 [some (.ref 10), some (.ref a1), some (vI (x2 + 1)), none] [] S r S') : EV q 59 116 [some (.ref 10), some (.ref a1), some (vI x2), none] [] S r S' := by
  unfold EV
  refine mv_inc (lv' := [some (.ref 10), some (.ref a1), some (vI (x2 + 1)), none]) 2 1 rfl rfl rfl rfl ?_
  refine mv_goto 37 rfl rfl ?_
  exact F
theorem vc_Finder_longest {q : Nat × (Nat → Int32)} {S S' : ms} {r : Option Value} (x1 x2 x3 : Int)
    (F : ((w32 x2 ≤ w32 (min (w32 x3) (w32 ((S.1 10 3) - x1)))) → (0 ≤ w32 x1 ∧ w32 x1 < (12000 : Nat)) ∧ EV q 60 36 [some (.ref 10), some (vI x1), some (vI x2), some (vI x3), some (vI (min (w32 x3) (w32 ((S.1 10 3) - x1)))), some (vI (x2 - 1)), some (vI (S.1 12 (w32 x1))), some (vI 0), none] [] S r S') ∧ ((¬ w32 x2 ≤ w32 (min (w32 x3) (w32 ((S.1 10 3) - x1)))) → r = some (vI 0) ∧ S' = S)) : EV q 60 0 [some (.ref 10), some (vI x1), some (vI x2), some (vI x3), none, none, none, none, none] [] S r S' := by
  unfold EV
  refine ev_bk 2 (S' := (2, [some (.ref 10), some (vI x1), some (vI x2), some (vI x3), none, none, none, none, none], [.ref 10, vI x3], hp S, 0, 0)) rfl ?_
  refine mv_gfI rfl rfl (sh_10) (by decide) rfl ?_
  refine ev_bk 1 (S' := (6, [some (.ref 10), some (vI x1), some (vI x2), some (vI x3), none, none, none, none, none], [vI x1, vI (S.1 10 3), vI x3], hp S, 0, 0)) rfl ?_
  refine mv_isub rfl ?_
  refine mv_min rfl rfl rfl ?_
  refine ev_bk 3 (S' := (15, [some (.ref 10), some (vI x1), some (vI x2), some (vI x3), some (vI (min (w32 x3) (w32 ((S.1 10 3) - x1)))), none, none, none, none], [vI x2, vI (min (w32 x3) (w32 ((S.1 10 3) - x1)))], hp S, 0, 0)) rfl ?_
  refine mv_icmp 20 rfl rfl (fun c => ?_) (fun c => ?_)
  · have F := F.1 c
    refine ev_bk 2 (S' := (22, [some (.ref 10), some (vI x1), some (vI x2), some (vI x3), some (vI (min (w32 x3) (w32 ((S.1 10 3) - x1)))), none, none, none, none], [vI 1, vI x2], hp S, 0, 0)) rfl ?_
    refine mv_isub rfl ?_
    refine ev_bk 2 (S' := (26, [some (.ref 10), some (vI x1), some (vI x2), some (vI x3), some (vI (min (w32 x3) (w32 ((S.1 10 3) - x1)))), some (vI (x2 - 1)), none, none, none], [.ref 10], hp S, 0, 0)) rfl ?_
    refine mv_gfR rfl rfl (sh_10) (by decide) rfl ?_
    refine ev_bk 1 (S' := (30, [some (.ref 10), some (vI x1), some (vI x2), some (vI x3), some (vI (min (w32 x3) (w32 ((S.1 10 3) - x1)))), some (vI (x2 - 1)), none, none, none], [vI x1, .ref 12], hp S, 0, 0)) rfl ?_
    obtain ⟨b1, F⟩ := F
    refine mv_ial rfl (sh_12) b1 ?_
    refine ev_bk 3 (S' := (36, [some (.ref 10), some (vI x1), some (vI x2), some (vI x3), some (vI (min (w32 x3) (w32 ((S.1 10 3) - x1)))), some (vI (x2 - 1)), some (vI (S.1 12 (w32 x1))), some (vI 0), none], [], hp S, 0, 0)) rfl ?_
    exact F
  · have F := F.2 c
    refine ev_bk 1 (S' := (19, [some (.ref 10), some (vI x1), some (vI x2), some (vI x3), some (vI (min (w32 x3) (w32 ((S.1 10 3) - x1)))), none, none, none, none], [vI 0], hp S, 0, 0)) rfl ?_
    obtain ⟨rfl, rfl⟩ := F
    exact ev_ret rfl rfl
theorem vc_Finder_longest_36 {q : Nat × (Nat → Int32)} {S S' : ms} {r : Option Value} (x1 x2 x3 x4 x5 x6 x7 : Int)
    (F : ((w32 (S.1 10 3) ≤ w32 x7) → EV q 60 124 [some (.ref 10), some (vI x1), some (vI x2), some (vI x3), some (vI x4), some (vI x5), some (vI x6), some (vI x7), none] [] S r S') ∧ ((¬ w32 (S.1 10 3) ≤ w32 x7) → ((w32 x6 < 0) → EV q 60 124 [some (.ref 10), some (vI x1), some (vI x2), some (vI x3), some (vI x4), some (vI x5), some (vI x6), some (vI x7), none] [] S r S') ∧ ((¬ w32 x6 < 0) → ((w32 x4 ≤ w32 x5) → EV q 60 124 [some (.ref 10), some (vI x1), some (vI x2), some (vI x3), some (vI x4), some (vI x5), some (vI x6), some (vI x7), none] [] S r S') ∧ ((¬ w32 x4 ≤ w32 x5) → ∃ (o1 no1 : Nat), S.2.2 10 2 = o1 ∧ SH o1 = (0, no1, []) ∧ (0 ≤ w32 (x6 + x5) ∧ w32 (x6 + x5) < (no1 : Nat)) ∧ ∃ (o5 no5 : Nat), S.2.2 10 2 = o5 ∧ SH o5 = (0, no5, []) ∧ (0 ≤ w32 (x1 + x5) ∧ w32 (x1 + x5) < (no5 : Nat)) ∧ ((¬ w32 (S.1 o1 (w32 (x6 + x5))) = w32 (S.1 o5 (w32 (x1 + x5)))) → EV q 60 109 [some (.ref 10), some (vI x1), some (vI x2), some (vI x3), some (vI x4), some (vI x5), some (vI x6), some (vI x7), none] [] S r S') ∧ ((¬ (¬ w32 (S.1 o1 (w32 (x6 + x5))) = w32 (S.1 o5 (w32 (x1 + x5))))) → ∃ (z11 : Int) (S9 : ms), EV q 61 0 [some (.ref 10), some (vI x6), some (vI x1), some (vI x4), none] [] S (some (vI z11)) S9 ∧ ((w32 z11 ≤ w32 x5) → EV q 60 109 [some (.ref 10), some (vI x1), some (vI x2), some (vI x3), some (vI x4), some (vI x5), some (vI x6), some (vI x7), none] [] S9 r S') ∧ ((¬ w32 z11 ≤ w32 x5) → ∀ S12 : ms, S12 = wI S9 10 4 (x1 - x6) → EV q 60 109 [some (.ref 10), some (vI x1), some (vI x2), some (vI x3), some (vI x4), some (vI z11), some (vI x6), some (vI x7), none] [] S12 r S')))))) : EV q 60 36 [some (.ref 10), some (vI x1), some (vI x2), some (vI x3), some (vI x4), some (vI x5), some (vI x6), some (vI x7), none] [] S r S' := by
  unfold EV
  refine ev_bk 2 (S' := (39, [some (.ref 10), some (vI x1), some (vI x2), some (vI x3), some (vI x4), some (vI x5), some (vI x6), some (vI x7), none], [.ref 10, vI x7], hp S, 0, 0)) rfl ?_
  refine mv_gfI rfl rfl (sh_10) (by decide) rfl ?_
  refine mv_icmp 124 rfl rfl (fun c => ?_) (fun c => ?_)
  · have F := F.1 c
    exact F
  · have F := F.2 c
    refine ev_bk 1 (S' := (47, [some (.ref 10), some (vI x1), some (vI x2), some (vI x3), some (vI x4), some (vI x5), some (vI x6), some (vI x7), none], [vI x6], hp S, 0, 0)) rfl ?_
    refine mv_if 124 rfl rfl (fun c => ?_) (fun c => ?_)
    · have F := F.1 c
      exact F
    · have F := F.2 c
      refine ev_bk 2 (S' := (54, [some (.ref 10), some (vI x1), some (vI x2), some (vI x3), some (vI x4), some (vI x5), some (vI x6), some (vI x7), none], [vI x4, vI x5], hp S, 0, 0)) rfl ?_
      refine mv_icmp 124 rfl rfl (fun c => ?_) (fun c => ?_)
      · have F := F.1 c
        exact F
      · have F := F.2 c
        refine ev_bk 1 (S' := (58, [some (.ref 10), some (vI x1), some (vI x2), some (vI x3), some (vI x4), some (vI x5), some (vI x6), some (vI x7), none], [.ref 10], hp S, 0, 0)) rfl ?_
        obtain ⟨o1, no1, e3, h2, F⟩ := F
        refine mv_gfV rfl rfl (sh_10) (by decide) rfl e3 ?_
        refine ev_bk 2 (S' := (65, [some (.ref 10), some (vI x1), some (vI x2), some (vI x3), some (vI x4), some (vI x5), some (vI x6), some (vI x7), none], [vI x5, vI x6, .ref o1], hp S, 0, 0)) rfl ?_
        refine mv_iadd rfl ?_
        obtain ⟨b4, F⟩ := F
        refine mv_ial rfl (h2) b4 ?_
        refine ev_bk 1 (S' := (68, [some (.ref 10), some (vI x1), some (vI x2), some (vI x3), some (vI x4), some (vI x5), some (vI x6), some (vI x7), none], [.ref 10, vI (S.1 o1 (w32 (x6 + x5)))], hp S, 0, 0)) rfl ?_
        obtain ⟨o5, no5, e7, h6, F⟩ := F
        refine mv_gfV rfl rfl (sh_10) (by decide) rfl e7 ?_
        refine ev_bk 2 (S' := (74, [some (.ref 10), some (vI x1), some (vI x2), some (vI x3), some (vI x4), some (vI x5), some (vI x6), some (vI x7), none], [vI x5, vI x1, .ref o5, vI (S.1 o1 (w32 (x6 + x5)))], hp S, 0, 0)) rfl ?_
        refine mv_iadd rfl ?_
        obtain ⟨b8, F⟩ := F
        refine mv_ial rfl (h6) b8 ?_
        refine mv_icmp 109 rfl rfl (fun c => ?_) (fun c => ?_)
        · have F := F.1 c
          exact F
        · have F := F.2 c
          refine ev_bk 4 (S' := (85, [some (.ref 10), some (vI x1), some (vI x2), some (vI x3), some (vI x4), some (vI x5), some (vI x6), some (vI x7), none], [vI x4, vI x1, vI x6, .ref 10], hp S, 0, 0)) rfl ?_
          obtain ⟨z11, S9, e10, F⟩ := F
          refine mv_calv (as := [vI x6, vI x1, vI x4]) (rest := []) e10 (sh_10) rfl rfl rfl ⟨rfl, rfl⟩ rfl rfl rfl rfl rfl ?_
          refine ev_bk 3 (S' := (94, [some (.ref 10), some (vI x1), some (vI x2), some (vI x3), some (vI x4), some (vI x5), some (vI x6), some (vI x7), some (vI z11)], [vI x5, vI z11], hp S9, 0, 0)) rfl ?_
          refine mv_icmp 109 rfl rfl (fun c => ?_) (fun c => ?_)
          · have F := F.1 c
            exact ev_wk (le_s (le_s (le_s (le_s (le_s (le_s (le_s (le_s (le_n le_0))))))))) F
          · have F := F.2 c
            refine ev_bk 5 (S' := (105, [some (.ref 10), some (vI x1), some (vI x2), some (vI x3), some (vI x4), some (vI z11), some (vI x6), some (vI x7), some (vI z11)], [vI x6, vI x1, .ref 10], hp S9, 0, 0)) rfl ?_
            refine mv_isub rfl ?_
            refine mv_pfI rfl rfl (sh_10) (by decide) rfl rfl ?_
            have F := F _ rfl
            exact ev_wk (le_s (le_s (le_s (le_s (le_s (le_s (le_s (le_s (le_n le_0))))))))) F
theorem vc_Finder_longest_109 {q : Nat × (Nat → Int32)} {S S' : ms} {r : Option Value} (x1 x2 x3 x4 x5 x6 x7 : Int)
    (F : (0 ≤ w32 x6 ∧ w32 x6 < (12000 : Nat)) ∧ EV q 60 36 [some (.ref 10), some (vI x1), some (vI x2), some (vI x3), some (vI x4), some (vI x5), some (vI (S.1 12 (w32 x6))), some (vI (x7 + 1)), none] [] S r S') : EV q 60 109 [some (.ref 10), some (vI x1), some (vI x2), some (vI x3), some (vI x4), some (vI x5), some (vI x6), some (vI x7), none] [] S r S' := by
  unfold EV
  refine ev_bk 1 (S' := (110, [some (.ref 10), some (vI x1), some (vI x2), some (vI x3), some (vI x4), some (vI x5), some (vI x6), some (vI x7), none], [.ref 10], hp S, 0, 0)) rfl ?_
  refine mv_gfR rfl rfl (sh_10) (by decide) rfl ?_
  refine ev_bk 1 (S' := (115, [some (.ref 10), some (vI x1), some (vI x2), some (vI x3), some (vI x4), some (vI x5), some (vI x6), some (vI x7), none], [vI x6, .ref 12], hp S, 0, 0)) rfl ?_
  obtain ⟨b1, F⟩ := F
  refine mv_ial rfl (sh_12) b1 ?_
  refine ev_bk 1 (S' := (118, [some (.ref 10), some (vI x1), some (vI x2), some (vI x3), some (vI x4), some (vI x5), some (vI (S.1 12 (w32 x6))), some (vI x7), none], [], hp S, 0, 0)) rfl ?_
  refine mv_inc (lv' := [some (.ref 10), some (vI x1), some (vI x2), some (vI x3), some (vI x4), some (vI x5), some (vI (S.1 12 (w32 x6))), some (vI (x7 + 1)), none]) 7 1 rfl rfl rfl rfl ?_
  refine mv_goto 36 rfl rfl ?_
  exact F
theorem vc_Finder_longest_124 {q : Nat × (Nat → Int32)} {S S' : ms} {r : Option Value} (x1 x2 x3 x4 x5 x6 x7 : Int)
    (F : ((w32 x2 ≤ w32 x5) → r = some (vI x5) ∧ S' = S) ∧ ((¬ w32 x2 ≤ w32 x5) → r = some (vI 0) ∧ S' = S)) : EV q 60 124 [some (.ref 10), some (vI x1), some (vI x2), some (vI x3), some (vI x4), some (vI x5), some (vI x6), some (vI x7), none] [] S r S' := by
  unfold EV
  refine ev_bk 2 (S' := (127, [some (.ref 10), some (vI x1), some (vI x2), some (vI x3), some (vI x4), some (vI x5), some (vI x6), some (vI x7), none], [vI x2, vI x5], hp S, 0, 0)) rfl ?_
  refine mv_icmp 134 rfl rfl (fun c => ?_) (fun c => ?_)
  · have F := F.1 c
    refine ev_bk 1 (S' := (136, [some (.ref 10), some (vI x1), some (vI x2), some (vI x3), some (vI x4), some (vI x5), some (vI x6), some (vI x7), none], [vI x5], hp S, 0, 0)) rfl ?_
    obtain ⟨rfl, rfl⟩ := F
    exact ev_ret rfl rfl
  · have F := F.2 c
    refine ev_bk 1 (S' := (131, [some (.ref 10), some (vI x1), some (vI x2), some (vI x3), some (vI x4), some (vI x5), some (vI x6), some (vI x7), none], [vI 0], hp S, 0, 0)) rfl ?_
    refine mv_goto 136 rfl rfl ?_
    obtain ⟨rfl, rfl⟩ := F
    exact ev_ret rfl rfl
theorem vc_Finder_alike {q : Nat × (Nat → Int32)} {S S' : ms} {r : Option Value} (x1 x2 x3 : Int)
    (F : EV q 61 3 [some (.ref 10), some (vI x1), some (vI x2), some (vI x3), some (vI 0)] [] S r S') : EV q 61 0 [some (.ref 10), some (vI x1), some (vI x2), some (vI x3), none] [] S r S' := by
  unfold EV
  refine ev_bk 2 (S' := (3, [some (.ref 10), some (vI x1), some (vI x2), some (vI x3), some (vI 0)], [], hp S, 0, 0)) rfl ?_
  exact F
theorem vc_Finder_alike_3 {q : Nat × (Nat → Int32)} {S S' : ms} {r : Option Value} (x1 x2 x3 x4 : Int)
    (F : ((w32 x3 ≤ w32 x4) → r = some (vI x4) ∧ S' = S) ∧ ((¬ w32 x3 ≤ w32 x4) → ∃ (o1 no1 : Nat), S.2.2 10 2 = o1 ∧ SH o1 = (0, no1, []) ∧ (0 ≤ w32 (x1 + x4) ∧ w32 (x1 + x4) < (no1 : Nat)) ∧ ∃ (o5 no5 : Nat), S.2.2 10 2 = o5 ∧ SH o5 = (0, no5, []) ∧ (0 ≤ w32 (x2 + x4) ∧ w32 (x2 + x4) < (no5 : Nat)) ∧ ((¬ w32 (S.1 o1 (w32 (x1 + x4))) = w32 (S.1 o5 (w32 (x2 + x4)))) → r = some (vI x4) ∧ S' = S) ∧ ((¬ (¬ w32 (S.1 o1 (w32 (x1 + x4))) = w32 (S.1 o5 (w32 (x2 + x4))))) → EV q 61 3 [some (.ref 10), some (vI x1), some (vI x2), some (vI x3), some (vI (x4 + 1))] [] S r S'))) : EV q 61 3 [some (.ref 10), some (vI x1), some (vI x2), some (vI x3), some (vI x4)] [] S r S' := by
  unfold EV
  refine ev_bk 2 (S' := (6, [some (.ref 10), some (vI x1), some (vI x2), some (vI x3), some (vI x4)], [vI x3, vI x4], hp S, 0, 0)) rfl ?_
  refine mv_icmp 36 rfl rfl (fun c => ?_) (fun c => ?_)
  · have F := F.1 c
    refine ev_bk 1 (S' := (38, [some (.ref 10), some (vI x1), some (vI x2), some (vI x3), some (vI x4)], [vI x4], hp S, 0, 0)) rfl ?_
    obtain ⟨rfl, rfl⟩ := F
    exact ev_ret rfl rfl
  · have F := F.2 c
    refine ev_bk 1 (S' := (10, [some (.ref 10), some (vI x1), some (vI x2), some (vI x3), some (vI x4)], [.ref 10], hp S, 0, 0)) rfl ?_
    obtain ⟨o1, no1, e3, h2, F⟩ := F
    refine mv_gfV rfl rfl (sh_10) (by decide) rfl e3 ?_
    refine ev_bk 2 (S' := (16, [some (.ref 10), some (vI x1), some (vI x2), some (vI x3), some (vI x4)], [vI x4, vI x1, .ref o1], hp S, 0, 0)) rfl ?_
    refine mv_iadd rfl ?_
    obtain ⟨b4, F⟩ := F
    refine mv_ial rfl (h2) b4 ?_
    refine ev_bk 1 (S' := (19, [some (.ref 10), some (vI x1), some (vI x2), some (vI x3), some (vI x4)], [.ref 10, vI (S.1 o1 (w32 (x1 + x4)))], hp S, 0, 0)) rfl ?_
    obtain ⟨o5, no5, e7, h6, F⟩ := F
    refine mv_gfV rfl rfl (sh_10) (by decide) rfl e7 ?_
    refine ev_bk 2 (S' := (25, [some (.ref 10), some (vI x1), some (vI x2), some (vI x3), some (vI x4)], [vI x4, vI x2, .ref o5, vI (S.1 o1 (w32 (x1 + x4)))], hp S, 0, 0)) rfl ?_
    refine mv_iadd rfl ?_
    obtain ⟨b8, F⟩ := F
    refine mv_ial rfl (h6) b8 ?_
    refine mv_icmp 36 rfl rfl (fun c => ?_) (fun c => ?_)
    · have F := F.1 c
      refine ev_bk 1 (S' := (38, [some (.ref 10), some (vI x1), some (vI x2), some (vI x3), some (vI x4)], [vI x4], hp S, 0, 0)) rfl ?_
      obtain ⟨rfl, rfl⟩ := F
      exact ev_ret rfl rfl
    · have F := F.2 c
      refine mv_inc (lv' := [some (.ref 10), some (vI x1), some (vI x2), some (vI x3), some (vI (x4 + 1))]) 4 1 rfl rfl rfl rfl ?_
      refine mv_goto 3 rfl rfl ?_
      exact F
theorem vc_Finder_furthest {q : Nat × (Nat → Int32)} {S S' : ms} {r : Option Value} (x1 x2 : Int)
    (F : ((w32 x2 = 1) → r = some (vI (min (w32 (S.1 10 3)) (w32 (((Int.tdiv (w32 x1) (w32 2000)) + 1) * 2000)))) ∧ S' = S) ∧ ((w32 x2 = 2) → ((w32 x1 ≤ w32 ((S.1 10 3) - 12)) → r = some (vI ((S.1 10 3) - 5)) ∧ S' = S) ∧ ((¬ w32 x1 ≤ w32 ((S.1 10 3) - 12)) → r = some (vI x1) ∧ S' = S)) ∧ ((¬ w32 x2 = 1) → (¬ w32 x2 = 2) → r = some (vI (S.1 10 3)) ∧ S' = S)) : EV q 62 0 [some (.ref 10), some (vI x1), some (vI x2)] [] S r S' := by
  unfold EV
  refine ev_bk 1 (S' := (1, [some (.ref 10), some (vI x1), some (vI x2)], [vI x2], hp S, 0, 0)) rfl ?_
  by_cases e0 : w32 x2 = 1
  · have F := F.1 e0
    refine mv_look 28 rfl rfl (by rw [e0]; try rfl) rfl ?_
    refine ev_bk 1 (S' := (29, [some (.ref 10), some (vI x1), some (vI x2)], [.ref 10], hp S, 0, 0)) rfl ?_
    refine mv_gfI rfl rfl (sh_10) (by decide) rfl ?_
    refine ev_bk 2 (S' := (36, [some (.ref 10), some (vI x1), some (vI x2)], [vI 2000, vI x1, vI (S.1 10 3)], hp S, 0, 0)) rfl ?_
    refine mv_idiv (by decide) rfl ?_
    refine ev_bk 1 (S' := (38, [some (.ref 10), some (vI x1), some (vI x2)], [vI 1, vI (Int.tdiv (w32 x1) (w32 2000)), vI (S.1 10 3)], hp S, 0, 0)) rfl ?_
    refine mv_iadd rfl ?_
    refine ev_bk 1 (S' := (42, [some (.ref 10), some (vI x1), some (vI x2)], [vI 2000, vI ((Int.tdiv (w32 x1) (w32 2000)) + 1), vI (S.1 10 3)], hp S, 0, 0)) rfl ?_
    refine mv_imul rfl ?_
    refine mv_min rfl rfl rfl ?_
    obtain ⟨rfl, rfl⟩ := F
    exact ev_ret rfl rfl
  by_cases e1 : w32 x2 = 2
  · have F := F.2.1 e1
    refine mv_look 47 rfl rfl (by rw [e1]; try rfl) rfl ?_
    refine ev_bk 2 (S' := (49, [some (.ref 10), some (vI x1), some (vI x2)], [.ref 10, vI x1], hp S, 0, 0)) rfl ?_
    refine mv_gfI rfl rfl (sh_10) (by decide) rfl ?_
    refine ev_bk 1 (S' := (54, [some (.ref 10), some (vI x1), some (vI x2)], [vI 12, vI (S.1 10 3), vI x1], hp S, 0, 0)) rfl ?_
    refine mv_isub rfl ?_
    refine mv_icmp 62 rfl rfl (fun c => ?_) (fun c => ?_)
    · have F := F.1 c
      refine ev_bk 1 (S' := (63, [some (.ref 10), some (vI x1), some (vI x2)], [.ref 10], hp S, 0, 0)) rfl ?_
      refine mv_gfI rfl rfl (sh_10) (by decide) rfl ?_
      refine ev_bk 1 (S' := (67, [some (.ref 10), some (vI x1), some (vI x2)], [vI 5, vI (S.1 10 3)], hp S, 0, 0)) rfl ?_
      refine mv_isub rfl ?_
      obtain ⟨rfl, rfl⟩ := F
      exact ev_ret rfl rfl
    · have F := F.2 c
      refine ev_bk 1 (S' := (59, [some (.ref 10), some (vI x1), some (vI x2)], [vI x1], hp S, 0, 0)) rfl ?_
      refine mv_goto 68 rfl rfl ?_
      obtain ⟨rfl, rfl⟩ := F
      exact ev_ret rfl rfl
  have F := F.2.2 e0 e1
  refine mv_look 69 rfl rfl (by show (if (1 : Int) = w32 x2 then _ else if (2 : Int) = w32 x2 then _ else _) = _; rw [if_neg (fun z => e0 z.symm), if_neg (fun z => e1 z.symm)]) rfl ?_
  refine ev_bk 1 (S' := (70, [some (.ref 10), some (vI x1), some (vI x2)], [.ref 10], hp S, 0, 0)) rfl ?_
  refine mv_gfI rfl rfl (sh_10) (by decide) rfl ?_
  obtain ⟨rfl, rfl⟩ := F
  exact ev_ret rfl rfl
theorem vc_Finder_addToken {q : Nat × (Nat → Int32)} {S S' : ms} {r : Option Value} (x1 x2 x3 : Int)
    (F : ((6000 ≤ w32 (S.1 10 8)) → r = none ∧ S' = S) ∧ ((¬ 6000 ≤ w32 (S.1 10 8)) → (0 ≤ w32 (S.1 10 8) ∧ w32 (S.1 10 8) < (6000 : Nat)) ∧ ∀ S2 : ms, S2 = wI S 13 (w32 (S.1 10 8)) x2 → (0 ≤ w32 (S2.1 10 8) ∧ w32 (S2.1 10 8) < (6000 : Nat)) ∧ ∀ S4 : ms, S4 = wI S2 14 (w32 (S2.1 10 8)) x3 → (0 ≤ w32 (S4.1 10 8) ∧ w32 (S4.1 10 8) < (6000 : Nat)) ∧ ∀ S6 : ms, S6 = wI S4 15 (w32 (S4.1 10 8)) x1 → ∀ S7 : ms, S7 = wI S6 10 8 (S6.1 10 8 + 1) → r = none ∧ S' = S7)) : EV q 63 0 [some (.ref 10), some (vI x1), some (vI x2), some (vI x3)] [] S r S' := by
  unfold EV
  refine ev_bk 1 (S' := (1, [some (.ref 10), some (vI x1), some (vI x2), some (vI x3)], [.ref 10], hp S, 0, 0)) rfl ?_
  refine mv_gfI rfl rfl (sh_10) (by decide) rfl ?_
  refine ev_bk 1 (S' := (7, [some (.ref 10), some (vI x1), some (vI x2), some (vI x3)], [vI 6000, vI (S.1 10 8)], hp S, 0, 0)) rfl ?_
  refine mv_icmp 50 rfl rfl (fun c => ?_) (fun c => ?_)
  · have F := F.1 c
    obtain ⟨rfl, rfl⟩ := F
    exact ev_ret rfl rfl
  · have F := F.2 c
    refine ev_bk 1 (S' := (11, [some (.ref 10), some (vI x1), some (vI x2), some (vI x3)], [.ref 10], hp S, 0, 0)) rfl ?_
    refine mv_gfR rfl rfl (sh_10) (by decide) rfl ?_
    refine ev_bk 1 (S' := (15, [some (.ref 10), some (vI x1), some (vI x2), some (vI x3)], [.ref 10, .ref 13], hp S, 0, 0)) rfl ?_
    refine mv_gfI rfl rfl (sh_10) (by decide) rfl ?_
    refine ev_bk 1 (S' := (19, [some (.ref 10), some (vI x1), some (vI x2), some (vI x3)], [vI x2, vI (S.1 10 8), .ref 13], hp S, 0, 0)) rfl ?_
    obtain ⟨b1, F⟩ := F
    refine mv_ias rfl (sh_13) b1 ?_
    have F := F _ rfl
    refine ev_bk 1 (S' := (21, [some (.ref 10), some (vI x1), some (vI x2), some (vI x3)], [.ref 10], hp (wI S 13 (w32 (S.1 10 8)) x2), 0, 0)) rfl ?_
    refine mv_gfR rfl rfl (sh_10) (by decide) rfl ?_
    refine ev_bk 1 (S' := (25, [some (.ref 10), some (vI x1), some (vI x2), some (vI x3)], [.ref 10, .ref 14], hp (wI S 13 (w32 (S.1 10 8)) x2), 0, 0)) rfl ?_
    refine mv_gfI rfl rfl (sh_10) (by decide) rfl ?_
    refine ev_bk 1 (S' := (29, [some (.ref 10), some (vI x1), some (vI x2), some (vI x3)], [vI x3, vI ((wI S 13 (w32 (S.1 10 8)) x2).1 10 8), .ref 14], hp (wI S 13 (w32 (S.1 10 8)) x2), 0, 0)) rfl ?_
    obtain ⟨b3, F⟩ := F
    refine mv_ias rfl (sh_14) b3 ?_
    have F := F _ rfl
    refine ev_bk 1 (S' := (31, [some (.ref 10), some (vI x1), some (vI x2), some (vI x3)], [.ref 10], hp (wI (wI S 13 (w32 (S.1 10 8)) x2) 14 (w32 ((wI S 13 (w32 (S.1 10 8)) x2).1 10 8)) x3), 0, 0)) rfl ?_
    refine mv_gfR rfl rfl (sh_10) (by decide) rfl ?_
    refine ev_bk 1 (S' := (35, [some (.ref 10), some (vI x1), some (vI x2), some (vI x3)], [.ref 10, .ref 15], hp (wI (wI S 13 (w32 (S.1 10 8)) x2) 14 (w32 ((wI S 13 (w32 (S.1 10 8)) x2).1 10 8)) x3), 0, 0)) rfl ?_
    refine mv_gfI rfl rfl (sh_10) (by decide) rfl ?_
    refine ev_bk 1 (S' := (39, [some (.ref 10), some (vI x1), some (vI x2), some (vI x3)], [vI x1, vI ((wI (wI S 13 (w32 (S.1 10 8)) x2) 14 (w32 ((wI S 13 (w32 (S.1 10 8)) x2).1 10 8)) x3).1 10 8), .ref 15], hp (wI (wI S 13 (w32 (S.1 10 8)) x2) 14 (w32 ((wI S 13 (w32 (S.1 10 8)) x2).1 10 8)) x3), 0, 0)) rfl ?_
    obtain ⟨b5, F⟩ := F
    refine mv_ias rfl (sh_15) b5 ?_
    have F := F _ rfl
    refine ev_bk 2 (S' := (42, [some (.ref 10), some (vI x1), some (vI x2), some (vI x3)], [.ref 10, .ref 10], hp (wI (wI (wI S 13 (w32 (S.1 10 8)) x2) 14 (w32 ((wI S 13 (w32 (S.1 10 8)) x2).1 10 8)) x3) 15 (w32 ((wI (wI S 13 (w32 (S.1 10 8)) x2) 14 (w32 ((wI S 13 (w32 (S.1 10 8)) x2).1 10 8)) x3).1 10 8)) x1), 0, 0)) rfl ?_
    refine mv_gfI rfl rfl (sh_10) (by decide) rfl ?_
    refine ev_bk 1 (S' := (46, [some (.ref 10), some (vI x1), some (vI x2), some (vI x3)], [vI 1, vI ((wI (wI (wI S 13 (w32 (S.1 10 8)) x2) 14 (w32 ((wI S 13 (w32 (S.1 10 8)) x2).1 10 8)) x3) 15 (w32 ((wI (wI S 13 (w32 (S.1 10 8)) x2) 14 (w32 ((wI S 13 (w32 (S.1 10 8)) x2).1 10 8)) x3).1 10 8)) x1).1 10 8), .ref 10], hp (wI (wI (wI S 13 (w32 (S.1 10 8)) x2) 14 (w32 ((wI S 13 (w32 (S.1 10 8)) x2).1 10 8)) x3) 15 (w32 ((wI (wI S 13 (w32 (S.1 10 8)) x2) 14 (w32 ((wI S 13 (w32 (S.1 10 8)) x2).1 10 8)) x3).1 10 8)) x1), 0, 0)) rfl ?_
    refine mv_iadd rfl ?_
    refine mv_pfI rfl rfl (sh_10) (by decide) rfl rfl ?_
    have F := F _ rfl
    obtain ⟨rfl, rfl⟩ := F
    exact ev_ret rfl rfl
theorem vc_Finder_lazy {q : Nat × (Nat → Int32)} {S S' : ms} {r : Option Value} (a1 na1 : Nat) (ha1 : isRow a1 na1)
    (F : ∃ (S1 : ms), EV q 59 0 [some (.ref 10), some (.ref a1), none, none] [] S none S1 ∧ ∃ (z5 : Int) (S3 : ms), EV q 60 0 [some (.ref 10), some (vI 0), some (vI 3), some (vI 258), none, none, none, none, none] [] S1 (some (vI z5)) S3 ∧ EV q 67 26 [some (.ref 10), some (.ref a1), some (vI 0), some (vI z5), some (vI (S3.1 10 4)), some (vI 0), none] [] S3 r S') : EV q 67 0 [some (.ref 10), some (.ref a1), none, none, none, none, none] [] S r S' := by
  unfold EV
  refine ev_bk 2 (S' := (2, [some (.ref 10), some (.ref a1), none, none, none, none, none], [.ref a1, .ref 10], hp S, 0, 0)) rfl ?_
  obtain ⟨S1, e2, F⟩ := F
  refine mv_calv (as := [.ref a1]) (rest := []) e2 (sh_10) rfl rfl rfl ⟨rfl, rfl⟩ rfl rfl rfl rfl rfl ?_
  refine ev_bk 6 (S' := (13, [some (.ref 10), some (.ref a1), some (vI 0), none, none, none, none], [vI 258, vI 3, vI 0, .ref 10], hp S1, 0, 0)) rfl ?_
  obtain ⟨z5, S3, e4, F⟩ := F
  refine mv_calv (as := [vI 0, vI 3, vI 258]) (rest := []) e4 (sh_10) rfl rfl rfl ⟨rfl, rfl⟩ rfl rfl rfl rfl rfl ?_
  refine ev_bk 2 (S' := (18, [some (.ref 10), some (.ref a1), some (vI 0), some (vI z5), none, none, none], [.ref 10], hp S3, 0, 0)) rfl ?_
  refine mv_gfI rfl rfl (sh_10) (by decide) rfl ?_
  refine ev_bk 3 (S' := (26, [some (.ref 10), some (.ref a1), some (vI 0), some (vI z5), some (vI (S3.1 10 4)), some (vI 0), none], [], hp S3, 0, 0)) rfl ?_
  exact F
theorem vc_Finder_lazy_26 {q : Nat × (Nat → Int32)} {S S' : ms} {r : Option Value} (x2 x3 x4 x5 : Int) (a1 na1 : Nat) (ha1 : isRow a1 na1)
    (F : ((w32 (S.1 10 3) ≤ w32 x5) → r = none ∧ S' = S) ∧ ((¬ w32 (S.1 10 3) ≤ w32 x5) → ((w32 (S.1 10 3) ≤ w32 x2) → r = none ∧ S' = S) ∧ ((¬ w32 (S.1 10 3) ≤ w32 x2) → ((¬ w32 x3 = 0) → ∃ (z3 : Int) (S1 : ms), EV q 60 0 [some (.ref 10), some (vI (x2 + 1)), some (vI 3), some (vI 258), none, none, none, none, none] [] S (some (vI z3)) S1 ∧ EV q 67 62 [some (.ref 10), some (.ref a1), some (vI x2), some (vI x3), some (vI x4), some (vI x5), none] [vI z3] S1 r S') ∧ ((¬ (¬ w32 x3 = 0)) → EV q 67 62 [some (.ref 10), some (.ref a1), some (vI x2), some (vI x3), some (vI x4), some (vI x5), none] [vI 0] S r S')))) : EV q 67 26 [some (.ref 10), some (.ref a1), some (vI x2), some (vI x3), some (vI x4), some (vI x5), none] [] S r S' := by
  unfold EV
  refine ev_bk 2 (S' := (29, [some (.ref 10), some (.ref a1), some (vI x2), some (vI x3), some (vI x4), some (vI x5), none], [.ref 10, vI x5], hp S, 0, 0)) rfl ?_
  refine mv_gfI rfl rfl (sh_10) (by decide) rfl ?_
  refine mv_icmp 147 rfl rfl (fun c => ?_) (fun c => ?_)
  · have F := F.1 c
    obtain ⟨rfl, rfl⟩ := F
    exact ev_ret rfl rfl
  · have F := F.2 c
    refine ev_bk 2 (S' := (37, [some (.ref 10), some (.ref a1), some (vI x2), some (vI x3), some (vI x4), some (vI x5), none], [.ref 10, vI x2], hp S, 0, 0)) rfl ?_
    refine mv_gfI rfl rfl (sh_10) (by decide) rfl ?_
    refine mv_icmp 147 rfl rfl (fun c => ?_) (fun c => ?_)
    · have F := F.1 c
      obtain ⟨rfl, rfl⟩ := F
      exact ev_ret rfl rfl
    · have F := F.2 c
      refine ev_bk 1 (S' := (44, [some (.ref 10), some (.ref a1), some (vI x2), some (vI x3), some (vI x4), some (vI x5), none], [vI x3], hp S, 0, 0)) rfl ?_
      refine mv_if 51 rfl rfl (fun c => ?_) (fun c => ?_)
      · have F := F.1 c
        refine ev_bk 3 (S' := (54, [some (.ref 10), some (.ref a1), some (vI x2), some (vI x3), some (vI x4), some (vI x5), none], [vI 1, vI x2, .ref 10], hp S, 0, 0)) rfl ?_
        refine mv_iadd rfl ?_
        refine ev_bk 2 (S' := (59, [some (.ref 10), some (.ref a1), some (vI x2), some (vI x3), some (vI x4), some (vI x5), none], [vI 258, vI 3, vI (x2 + 1), .ref 10], hp S, 0, 0)) rfl ?_
        obtain ⟨z3, S1, e2, F⟩ := F
        refine mv_calv (as := [vI (x2 + 1), vI 3, vI 258]) (rest := []) e2 (sh_10) rfl rfl rfl ⟨rfl, rfl⟩ rfl rfl rfl rfl rfl ?_
        exact F
      · have F := F.2 c
        refine ev_bk 1 (S' := (48, [some (.ref 10), some (.ref a1), some (vI x2), some (vI x3), some (vI x4), some (vI x5), none], [vI 0], hp S, 0, 0)) rfl ?_
        refine mv_goto 62 rfl rfl ?_
        exact F
theorem vc_Finder_lazy_62 {q : Nat × (Nat → Int32)} {S S' : ms} {r : Option Value} (x2 x3 x4 x5 y0 : Int) (a1 na1 : Nat) (ha1 : isRow a1 na1)
    (F : ((¬ w32 x3 = 0) → ((w32 y0 ≤ w32 x3) → ∃ (S1 : ms), EV q 63 0 [some (.ref 10), some (vI x2), some (vI x3), some (vI x4)] [] S none S1 ∧ ∃ (z5 : Int) (S3 : ms), EV q 60 0 [some (.ref 10), some (vI (x2 + x3)), some (vI 3), some (vI 258), none, none, none, none, none] [] S1 (some (vI z5)) S3 ∧ EV q 67 135 [some (.ref 10), some (.ref a1), some (vI (x2 + x3)), some (vI z5), some (vI x4), some (vI x5), some (vI y0)] [] S3 r S') ∧ ((¬ w32 y0 ≤ w32 x3) → ∃ (S6 : ms), EV q 63 0 [some (.ref 10), some (vI x2), some (vI 1), some (vI 0)] [] S none S6 ∧ EV q 67 135 [some (.ref 10), some (.ref a1), some (vI (x2 + 1)), some (vI y0), some (vI x4), some (vI x5), some (vI y0)] [] S6 r S')) ∧ ((¬ (¬ w32 x3 = 0)) → ∃ (S8 : ms), EV q 63 0 [some (.ref 10), some (vI x2), some (vI 1), some (vI 0)] [] S none S8 ∧ ∃ (z12 : Int) (S10 : ms), EV q 60 0 [some (.ref 10), some (vI (x2 + 1)), some (vI 3), some (vI 258), none, none, none, none, none] [] S8 (some (vI z12)) S10 ∧ EV q 67 135 [some (.ref 10), some (.ref a1), some (vI (x2 + 1)), some (vI z12), some (vI x4), some (vI x5), some (vI y0)] [] S10 r S')) : EV q 67 62 [some (.ref 10), some (.ref a1), some (vI x2), some (vI x3), some (vI x4), some (vI x5), none] [vI y0] S r S' := by
  unfold EV
  refine ev_bk 2 (S' := (65, [some (.ref 10), some (.ref a1), some (vI x2), some (vI x3), some (vI x4), some (vI x5), some (vI y0)], [vI x3], hp S, 0, 0)) rfl ?_
  refine mv_if 91 rfl rfl (fun c => ?_) (fun c => ?_)
  · have F := F.1 c
    refine ev_bk 2 (S' := (94, [some (.ref 10), some (.ref a1), some (vI x2), some (vI x3), some (vI x4), some (vI x5), some (vI y0)], [vI x3, vI y0], hp S, 0, 0)) rfl ?_
    refine mv_icmp 113 rfl rfl (fun c => ?_) (fun c => ?_)
    · have F := F.1 c
      refine ev_bk 4 (S' := (118, [some (.ref 10), some (.ref a1), some (vI x2), some (vI x3), some (vI x4), some (vI x5), some (vI y0)], [vI x4, vI x3, vI x2, .ref 10], hp S, 0, 0)) rfl ?_
      obtain ⟨S1, e2, F⟩ := F
      refine mv_calv (as := [vI x2, vI x3, vI x4]) (rest := []) e2 (sh_10) rfl rfl rfl ⟨rfl, rfl⟩ rfl rfl rfl rfl rfl ?_
      refine ev_bk 2 (S' := (123, [some (.ref 10), some (.ref a1), some (vI x2), some (vI x3), some (vI x4), some (vI x5), some (vI y0)], [vI x3, vI x2], hp S1, 0, 0)) rfl ?_
      refine mv_iadd rfl ?_
      refine ev_bk 5 (S' := (131, [some (.ref 10), some (.ref a1), some (vI (x2 + x3)), some (vI x3), some (vI x4), some (vI x5), some (vI y0)], [vI 258, vI 3, vI (x2 + x3), .ref 10], hp S1, 0, 0)) rfl ?_
      obtain ⟨z5, S3, e4, F⟩ := F
      refine mv_calv (as := [vI (x2 + x3), vI 3, vI 258]) (rest := []) e4 (sh_10) rfl rfl rfl ⟨rfl, rfl⟩ rfl rfl rfl rfl rfl ?_
      refine ev_bk 1 (S' := (135, [some (.ref 10), some (.ref a1), some (vI (x2 + x3)), some (vI z5), some (vI x4), some (vI x5), some (vI y0)], [], hp S3, 0, 0)) rfl ?_
      exact F
    · have F := F.2 c
      refine ev_bk 4 (S' := (101, [some (.ref 10), some (.ref a1), some (vI x2), some (vI x3), some (vI x4), some (vI x5), some (vI y0)], [vI 0, vI 1, vI x2, .ref 10], hp S, 0, 0)) rfl ?_
      obtain ⟨S6, e7, F⟩ := F
      refine mv_calv (as := [vI x2, vI 1, vI 0]) (rest := []) e7 (sh_10) rfl rfl rfl ⟨rfl, rfl⟩ rfl rfl rfl rfl rfl ?_
      refine mv_inc (lv' := [some (.ref 10), some (.ref a1), some (vI (x2 + 1)), some (vI x3), some (vI x4), some (vI x5), some (vI y0)]) 2 1 rfl rfl rfl rfl ?_
      refine ev_bk 2 (S' := (110, [some (.ref 10), some (.ref a1), some (vI (x2 + 1)), some (vI y0), some (vI x4), some (vI x5), some (vI y0)], [], hp S6, 0, 0)) rfl ?_
      refine mv_goto 135 rfl rfl ?_
      exact F
  · have F := F.2 c
    refine ev_bk 4 (S' := (72, [some (.ref 10), some (.ref a1), some (vI x2), some (vI x3), some (vI x4), some (vI x5), some (vI y0)], [vI 0, vI 1, vI x2, .ref 10], hp S, 0, 0)) rfl ?_
    obtain ⟨S8, e9, F⟩ := F
    refine mv_calv (as := [vI x2, vI 1, vI 0]) (rest := []) e9 (sh_10) rfl rfl rfl ⟨rfl, rfl⟩ rfl rfl rfl rfl rfl ?_
    refine mv_inc (lv' := [some (.ref 10), some (.ref a1), some (vI (x2 + 1)), some (vI x3), some (vI x4), some (vI x5), some (vI y0)]) 2 1 rfl rfl rfl rfl ?_
    refine ev_bk 4 (S' := (84, [some (.ref 10), some (.ref a1), some (vI (x2 + 1)), some (vI x3), some (vI x4), some (vI x5), some (vI y0)], [vI 258, vI 3, vI (x2 + 1), .ref 10], hp S8, 0, 0)) rfl ?_
    obtain ⟨z12, S10, e11, F⟩ := F
    refine mv_calv (as := [vI (x2 + 1), vI 3, vI 258]) (rest := []) e11 (sh_10) rfl rfl rfl ⟨rfl, rfl⟩ rfl rfl rfl rfl rfl ?_
    refine ev_bk 1 (S' := (88, [some (.ref 10), some (.ref a1), some (vI (x2 + 1)), some (vI z12), some (vI x4), some (vI x5), some (vI y0)], [], hp S10, 0, 0)) rfl ?_
    refine mv_goto 135 rfl rfl ?_
    exact F
theorem vc_Finder_lazy_135 {q : Nat × (Nat → Int32)} {S S' : ms} {r : Option Value} (x2 x3 x4 x5 x6 : Int) (a1 na1 : Nat) (ha1 : isRow a1 na1)
    (F : EV q 67 26 [some (.ref 10), some (.ref a1), some (vI x2), some (vI x3), some (vI (S.1 10 4)), some (vI (x5 + 1)), none] [] S r S') : EV q 67 135 [some (.ref 10), some (.ref a1), some (vI x2), some (vI x3), some (vI x4), some (vI x5), some (vI x6)] [] S r S' := by
  unfold EV
  refine ev_bk 1 (S' := (136, [some (.ref 10), some (.ref a1), some (vI x2), some (vI x3), some (vI x4), some (vI x5), some (vI x6)], [.ref 10], hp S, 0, 0)) rfl ?_
  refine mv_gfI rfl rfl (sh_10) (by decide) rfl ?_
  refine ev_bk 1 (S' := (141, [some (.ref 10), some (.ref a1), some (vI x2), some (vI x3), some (vI (S.1 10 4)), some (vI x5), some (vI x6)], [], hp S, 0, 0)) rfl ?_
  refine mv_inc (lv' := [some (.ref 10), some (.ref a1), some (vI x2), some (vI x3), some (vI (S.1 10 4)), some (vI (x5 + 1)), some (vI x6)]) 5 1 rfl rfl rfl rfl ?_
  refine mv_goto 26 rfl rfl ?_
  exact ev_wk (le_s (le_s (le_s (le_s (le_s (le_s (le_n le_0))))))) F
theorem vc_Finder_fewest {q : Nat × (Nat → Int32)} {S S' : ms} {r : Option Value} (a1 na1 : Nat) (ha1 : isRow a1 na1) (a2 na2 : Nat) (ha2 : SH a2 = (0, na2, []))
    (F : ∃ (S1 : ms), EV q 59 0 [some (.ref 10), some (.ref a1), none, none] [] S none S1 ∧ (0 ≤ w32 (S1.1 10 3) ∧ w32 (S1.1 10 3) < (6001 : Nat)) ∧ ∀ S4 : ms, S4 = wI S1 19 (w32 (S1.1 10 3)) 0 → EV q 79 27 [some (.ref 10), some (.ref a1), some (.ref a2), some (vI 258), some (vI ((S4.1 10 3) - 1)), none] [] S4 r S') : EV q 79 0 [some (.ref 10), some (.ref a1), some (.ref a2), none, none, none] [] S r S' := by
  unfold EV
  refine ev_bk 2 (S' := (2, [some (.ref 10), some (.ref a1), some (.ref a2), none, none, none], [.ref a1, .ref 10], hp S, 0, 0)) rfl ?_
  obtain ⟨S1, e2, F⟩ := F
  refine mv_calv (as := [.ref a1]) (rest := []) e2 (sh_10) rfl rfl rfl ⟨rfl, rfl⟩ rfl rfl rfl rfl rfl ?_
  refine ev_bk 1 (S' := (6, [some (.ref 10), some (.ref a1), some (.ref a2), none, none, none], [.ref 10], hp S1, 0, 0)) rfl ?_
  refine mv_gfR rfl rfl (sh_10) (by decide) rfl ?_
  refine ev_bk 1 (S' := (10, [some (.ref 10), some (.ref a1), some (.ref a2), none, none, none], [.ref 10, .ref 19], hp S1, 0, 0)) rfl ?_
  refine mv_gfI rfl rfl (sh_10) (by decide) rfl ?_
  refine ev_bk 1 (S' := (14, [some (.ref 10), some (.ref a1), some (.ref a2), none, none, none], [vI 0, vI (S1.1 10 3), .ref 19], hp S1, 0, 0)) rfl ?_
  obtain ⟨b3, F⟩ := F
  refine mv_ias rfl (sh_19) b3 ?_
  have F := F _ rfl
  refine ev_bk 3 (S' := (20, [some (.ref 10), some (.ref a1), some (.ref a2), some (vI 258), none, none], [.ref 10], hp (wI S1 19 (w32 (S1.1 10 3)) 0), 0, 0)) rfl ?_
  refine mv_gfI rfl rfl (sh_10) (by decide) rfl ?_
  refine ev_bk 1 (S' := (24, [some (.ref 10), some (.ref a1), some (.ref a2), some (vI 258), none, none], [vI 1, vI ((wI S1 19 (w32 (S1.1 10 3)) 0).1 10 3)], hp (wI S1 19 (w32 (S1.1 10 3)) 0), 0, 0)) rfl ?_
  refine mv_isub rfl ?_
  refine ev_bk 1 (S' := (27, [some (.ref 10), some (.ref a1), some (.ref a2), some (vI 258), some (vI (((wI S1 19 (w32 (S1.1 10 3)) 0).1 10 3) - 1)), none], [], hp (wI S1 19 (w32 (S1.1 10 3)) 0), 0, 0)) rfl ?_
  exact F
theorem vc_Finder_fewest_27 {q : Nat × (Nat → Int32)} {S S' : ms} {r : Option Value} (x3 x4 : Int) (a1 na1 : Nat) (ha1 : isRow a1 na1) (a2 na2 : Nat) (ha2 : SH a2 = (0, na2, []))
    (F : ((w32 x4 < 0) → EV q 79 55 [some (.ref 10), some (.ref a1), some (.ref a2), some (vI x3), some (vI 0), some (vI 0)] [] S r S') ∧ ((¬ w32 x4 < 0) → ∃ (z3 : Int) (S1 : ms), EV q 80 0 [some (.ref 10), some (vI x4), some (.ref a2), some (vI x3), none, none, none, none, none, none, none, none] [] S (some (vI z3)) S1 ∧ EV q 79 27 [some (.ref 10), some (.ref a1), some (.ref a2), some (vI (1 + z3)), some (vI (x4 - 1)), none] [] S1 r S')) : EV q 79 27 [some (.ref 10), some (.ref a1), some (.ref a2), some (vI x3), some (vI x4), none] [] S r S' := by
  unfold EV
  refine ev_bk 1 (S' := (29, [some (.ref 10), some (.ref a1), some (.ref a2), some (vI x3), some (vI x4), none], [vI x4], hp S, 0, 0)) rfl ?_
  refine mv_if 49 rfl rfl (fun c => ?_) (fun c => ?_)
  · have F := F.1 c
    refine ev_bk 4 (S' := (55, [some (.ref 10), some (.ref a1), some (.ref a2), some (vI x3), some (vI 0), some (vI 0)], [], hp S, 0, 0)) rfl ?_
    exact F
  · have F := F.2 c
    refine ev_bk 5 (S' := (38, [some (.ref 10), some (.ref a1), some (.ref a2), some (vI x3), some (vI x4), none], [vI x3, .ref a2, vI x4, .ref 10, vI 1], hp S, 0, 0)) rfl ?_
    obtain ⟨z3, S1, e2, F⟩ := F
    refine mv_calv (as := [vI x4, .ref a2, vI x3]) (rest := [vI 1]) e2 (sh_10) rfl rfl rfl ⟨rfl, rfl⟩ rfl rfl rfl rfl rfl ?_
    refine mv_iadd rfl ?_
    refine ev_bk 1 (S' := (43, [some (.ref 10), some (.ref a1), some (.ref a2), some (vI (1 + z3)), some (vI x4), none], [], hp S1, 0, 0)) rfl ?_
    refine mv_inc (lv' := [some (.ref 10), some (.ref a1), some (.ref a2), some (vI (1 + z3)), some (vI (x4 - 1)), none]) 4 (-1) rfl rfl rfl (by omega) ?_
    refine mv_goto 27 rfl rfl ?_
    exact F
theorem vc_Finder_fewest_55 {q : Nat × (Nat → Int32)} {S S' : ms} {r : Option Value} (x3 x4 x5 : Int) (a1 na1 : Nat) (ha1 : isRow a1 na1) (a2 na2 : Nat) (ha2 : SH a2 = (0, na2, []))
    (F : ((w32 (S.1 10 3) ≤ w32 x5) → r = none ∧ S' = S) ∧ ((¬ w32 (S.1 10 3) ≤ w32 x5) → ((w32 (S.1 10 3) ≤ w32 x4) → r = none ∧ S' = S) ∧ ((¬ w32 (S.1 10 3) ≤ w32 x4) → (0 ≤ w32 x4 ∧ w32 x4 < (6000 : Nat)) ∧ (0 ≤ w32 x4 ∧ w32 x4 < (6000 : Nat)) ∧ ∃ (S3 : ms), EV q 63 0 [some (.ref 10), some (vI x4), some (vI (S.1 20 (w32 x4))), some (vI (S.1 21 (w32 x4)))] [] S none S3 ∧ (0 ≤ w32 x4 ∧ w32 x4 < (6000 : Nat)) ∧ EV q 79 55 [some (.ref 10), some (.ref a1), some (.ref a2), some (vI x3), some (vI (x4 + (S3.1 20 (w32 x4)))), some (vI (x5 + 1))] [] S3 r S'))) : EV q 79 55 [some (.ref 10), some (.ref a1), some (.ref a2), some (vI x3), some (vI x4), some (vI x5)] [] S r S' := by
  unfold EV
  refine ev_bk 2 (S' := (58, [some (.ref 10), some (.ref a1), some (.ref a2), some (vI x3), some (vI x4), some (vI x5)], [.ref 10, vI x5], hp S, 0, 0)) rfl ?_
  refine mv_gfI rfl rfl (sh_10) (by decide) rfl ?_
  refine mv_icmp 111 rfl rfl (fun c => ?_) (fun c => ?_)
  · have F := F.1 c
    obtain ⟨rfl, rfl⟩ := F
    exact ev_ret rfl rfl
  · have F := F.2 c
    refine ev_bk 2 (S' := (67, [some (.ref 10), some (.ref a1), some (.ref a2), some (vI x3), some (vI x4), some (vI x5)], [.ref 10, vI x4], hp S, 0, 0)) rfl ?_
    refine mv_gfI rfl rfl (sh_10) (by decide) rfl ?_
    refine mv_icmp 111 rfl rfl (fun c => ?_) (fun c => ?_)
    · have F := F.1 c
      obtain ⟨rfl, rfl⟩ := F
      exact ev_ret rfl rfl
    · have F := F.2 c
      refine ev_bk 3 (S' := (77, [some (.ref 10), some (.ref a1), some (.ref a2), some (vI x3), some (vI x4), some (vI x5)], [.ref 10, vI x4, .ref 10], hp S, 0, 0)) rfl ?_
      refine mv_gfR rfl rfl (sh_10) (by decide) rfl ?_
      refine ev_bk 1 (S' := (82, [some (.ref 10), some (.ref a1), some (.ref a2), some (vI x3), some (vI x4), some (vI x5)], [vI x4, .ref 20, vI x4, .ref 10], hp S, 0, 0)) rfl ?_
      obtain ⟨b1, F⟩ := F
      refine mv_ial rfl (sh_20) b1 ?_
      refine ev_bk 1 (S' := (84, [some (.ref 10), some (.ref a1), some (.ref a2), some (vI x3), some (vI x4), some (vI x5)], [.ref 10, vI (S.1 20 (w32 x4)), vI x4, .ref 10], hp S, 0, 0)) rfl ?_
      refine mv_gfR rfl rfl (sh_10) (by decide) rfl ?_
      refine ev_bk 1 (S' := (89, [some (.ref 10), some (.ref a1), some (.ref a2), some (vI x3), some (vI x4), some (vI x5)], [vI x4, .ref 21, vI (S.1 20 (w32 x4)), vI x4, .ref 10], hp S, 0, 0)) rfl ?_
      obtain ⟨b2, F⟩ := F
      refine mv_ial rfl (sh_21) b2 ?_
      obtain ⟨S3, e4, F⟩ := F
      refine mv_calv (as := [vI x4, vI (S.1 20 (w32 x4)), vI (S.1 21 (w32 x4))]) (rest := []) e4 (sh_10) rfl rfl rfl ⟨rfl, rfl⟩ rfl rfl rfl rfl rfl ?_
      refine ev_bk 2 (S' := (96, [some (.ref 10), some (.ref a1), some (.ref a2), some (vI x3), some (vI x4), some (vI x5)], [.ref 10, vI x4], hp S3, 0, 0)) rfl ?_
      refine mv_gfR rfl rfl (sh_10) (by decide) rfl ?_
      refine ev_bk 1 (S' := (101, [some (.ref 10), some (.ref a1), some (.ref a2), some (vI x3), some (vI x4), some (vI x5)], [vI x4, .ref 20, vI x4], hp S3, 0, 0)) rfl ?_
      obtain ⟨b5, F⟩ := F
      refine mv_ial rfl (sh_20) b5 ?_
      refine mv_iadd rfl ?_
      refine ev_bk 1 (S' := (105, [some (.ref 10), some (.ref a1), some (.ref a2), some (vI x3), some (vI (x4 + (S3.1 20 (w32 x4)))), some (vI x5)], [], hp S3, 0, 0)) rfl ?_
      refine mv_inc (lv' := [some (.ref 10), some (.ref a1), some (.ref a2), some (vI x3), some (vI (x4 + (S3.1 20 (w32 x4)))), some (vI (x5 + 1))]) 5 1 rfl rfl rfl rfl ?_
      refine mv_goto 55 rfl rfl ?_
      exact F
theorem vc_Finder_cheapest {q : Nat × (Nat → Int32)} {S S' : ms} {r : Option Value} (x1 x3 : Int) (a2 na2 : Nat) (ha2 : SH a2 = (0, na2, []))
    (F : ∃ (o1 no1 : Nat), S.2.2 10 2 = o1 ∧ SH o1 = (0, no1, []) ∧ (0 ≤ w32 x1 ∧ w32 x1 < (no1 : Nat)) ∧ ((144 ≤ w32 (S.1 o1 (w32 x1))) → EV q 80 42 [some (.ref 10), some (vI x1), some (.ref a2), some (vI x3), some (vI (min (w32 (min (w32 258) (w32 x3))) (w32 ((S.1 10 3) - x1)))), none, none, none, none, none, none, none] [vI 9, vI x1, .ref 19] S r S') ∧ ((¬ 144 ≤ w32 (S.1 o1 (w32 x1))) → EV q 80 42 [some (.ref 10), some (vI x1), some (.ref a2), some (vI x3), some (vI (min (w32 (min (w32 258) (w32 x3))) (w32 ((S.1 10 3) - x1)))), none, none, none, none, none, none, none] [vI 8, vI x1, .ref 19] S r S')) : EV q 80 0 [some (.ref 10), some (vI x1), some (.ref a2), some (vI x3), none, none, none, none, none, none, none, none] [] S r S' := by
  unfold EV
  refine ev_bk 2 (S' := (4, [some (.ref 10), some (vI x1), some (.ref a2), some (vI x3), none, none, none, none, none, none, none, none], [vI x3, vI 258], hp S, 0, 0)) rfl ?_
  refine mv_min rfl rfl rfl ?_
  refine ev_bk 1 (S' := (8, [some (.ref 10), some (vI x1), some (.ref a2), some (vI x3), none, none, none, none, none, none, none, none], [.ref 10, vI (min (w32 258) (w32 x3))], hp S, 0, 0)) rfl ?_
  refine mv_gfI rfl rfl (sh_10) (by decide) rfl ?_
  refine ev_bk 1 (S' := (12, [some (.ref 10), some (vI x1), some (.ref a2), some (vI x3), none, none, none, none, none, none, none, none], [vI x1, vI (S.1 10 3), vI (min (w32 258) (w32 x3))], hp S, 0, 0)) rfl ?_
  refine mv_isub rfl ?_
  refine mv_min rfl rfl rfl ?_
  refine ev_bk 2 (S' := (19, [some (.ref 10), some (vI x1), some (.ref a2), some (vI x3), some (vI (min (w32 (min (w32 258) (w32 x3))) (w32 ((S.1 10 3) - x1)))), none, none, none, none, none, none, none], [.ref 10], hp S, 0, 0)) rfl ?_
  refine mv_gfR rfl rfl (sh_10) (by decide) rfl ?_
  refine ev_bk 2 (S' := (24, [some (.ref 10), some (vI x1), some (.ref a2), some (vI x3), some (vI (min (w32 (min (w32 258) (w32 x3))) (w32 ((S.1 10 3) - x1)))), none, none, none, none, none, none, none], [.ref 10, vI x1, .ref 19], hp S, 0, 0)) rfl ?_
  obtain ⟨o1, no1, e3, h2, F⟩ := F
  refine mv_gfV rfl rfl (sh_10) (by decide) rfl e3 ?_
  refine ev_bk 1 (S' := (28, [some (.ref 10), some (vI x1), some (.ref a2), some (vI x3), some (vI (min (w32 (min (w32 258) (w32 x3))) (w32 ((S.1 10 3) - x1)))), none, none, none, none, none, none, none], [vI x1, .ref o1, vI x1, .ref 19], hp S, 0, 0)) rfl ?_
  obtain ⟨b4, F⟩ := F
  refine mv_ial rfl (h2) b4 ?_
  refine ev_bk 1 (S' := (32, [some (.ref 10), some (vI x1), some (.ref a2), some (vI x3), some (vI (min (w32 (min (w32 258) (w32 x3))) (w32 ((S.1 10 3) - x1)))), none, none, none, none, none, none, none], [vI 144, vI (S.1 o1 (w32 x1)), vI x1, .ref 19], hp S, 0, 0)) rfl ?_
  refine mv_icmp 40 rfl rfl (fun c => ?_) (fun c => ?_)
  · have F := F.1 c
    refine ev_bk 1 (S' := (42, [some (.ref 10), some (vI x1), some (.ref a2), some (vI x3), some (vI (min (w32 (min (w32 258) (w32 x3))) (w32 ((S.1 10 3) - x1)))), none, none, none, none, none, none, none], [vI 9, vI x1, .ref 19], hp S, 0, 0)) rfl ?_
    exact F
  · have F := F.2 c
    refine ev_bk 1 (S' := (37, [some (.ref 10), some (vI x1), some (.ref a2), some (vI x3), some (vI (min (w32 (min (w32 258) (w32 x3))) (w32 ((S.1 10 3) - x1)))), none, none, none, none, none, none, none], [vI 8, vI x1, .ref 19], hp S, 0, 0)) rfl ?_
    refine mv_goto 42 rfl rfl ?_
    exact F
theorem vc_Finder_cheapest_42 {q : Nat × (Nat → Int32)} {S S' : ms} {r : Option Value} (x1 x3 x4 y0 y1 : Int) (a2 na2 : Nat) (ha2 : SH a2 = (0, na2, []))
    (F : (0 ≤ w32 (x1 + 1) ∧ w32 (x1 + 1) < (6001 : Nat)) ∧ (0 ≤ w32 y1 ∧ w32 y1 < (6001 : Nat)) ∧ ∀ S3 : ms, S3 = wI S 19 (w32 y1) (y0 + (S.1 19 (w32 (x1 + 1)))) → (0 ≤ w32 x1 ∧ w32 x1 < (6000 : Nat)) ∧ ∀ S5 : ms, S5 = wI S3 20 (w32 x1) 1 → (0 ≤ w32 x1 ∧ w32 x1 < (6000 : Nat)) ∧ ∀ S7 : ms, S7 = wI S5 21 (w32 x1) 0 → (0 ≤ w32 x1 ∧ w32 x1 < (12000 : Nat)) ∧ EV q 80 80 [some (.ref 10), some (vI x1), some (.ref a2), some (vI x3), some (vI x4), some (vI 2), some (vI (S7.1 12 (w32 x1))), some (vI 0), none, none, none, none] [] S7 r S') : EV q 80 42 [some (.ref 10), some (vI x1), some (.ref a2), some (vI x3), some (vI x4), none, none, none, none, none, none, none] [vI y0, vI y1, .ref 19] S r S' := by
  unfold EV
  refine ev_bk 1 (S' := (43, [some (.ref 10), some (vI x1), some (.ref a2), some (vI x3), some (vI x4), none, none, none, none, none, none, none], [.ref 10, vI y0, vI y1, .ref 19], hp S, 0, 0)) rfl ?_
  refine mv_gfR rfl rfl (sh_10) (by decide) rfl ?_
  refine ev_bk 2 (S' := (48, [some (.ref 10), some (vI x1), some (.ref a2), some (vI x3), some (vI x4), none, none, none, none, none, none, none], [vI 1, vI x1, .ref 19, vI y0, vI y1, .ref 19], hp S, 0, 0)) rfl ?_
  refine mv_iadd rfl ?_
  obtain ⟨b1, F⟩ := F
  refine mv_ial rfl (sh_19) b1 ?_
  refine mv_iadd rfl ?_
  obtain ⟨b2, F⟩ := F
  refine mv_ias rfl (sh_19) b2 ?_
  have F := F _ rfl
  refine ev_bk 1 (S' := (53, [some (.ref 10), some (vI x1), some (.ref a2), some (vI x3), some (vI x4), none, none, none, none, none, none, none], [.ref 10], hp (wI S 19 (w32 y1) (y0 + (S.1 19 (w32 (x1 + 1))))), 0, 0)) rfl ?_
  refine mv_gfR rfl rfl (sh_10) (by decide) rfl ?_
  refine ev_bk 2 (S' := (58, [some (.ref 10), some (vI x1), some (.ref a2), some (vI x3), some (vI x4), none, none, none, none, none, none, none], [vI 1, vI x1, .ref 20], hp (wI S 19 (w32 y1) (y0 + (S.1 19 (w32 (x1 + 1))))), 0, 0)) rfl ?_
  obtain ⟨b4, F⟩ := F
  refine mv_ias rfl (sh_20) b4 ?_
  have F := F _ rfl
  refine ev_bk 1 (S' := (60, [some (.ref 10), some (vI x1), some (.ref a2), some (vI x3), some (vI x4), none, none, none, none, none, none, none], [.ref 10], hp (wI (wI S 19 (w32 y1) (y0 + (S.1 19 (w32 (x1 + 1))))) 20 (w32 x1) 1), 0, 0)) rfl ?_
  refine mv_gfR rfl rfl (sh_10) (by decide) rfl ?_
  refine ev_bk 2 (S' := (65, [some (.ref 10), some (vI x1), some (.ref a2), some (vI x3), some (vI x4), none, none, none, none, none, none, none], [vI 0, vI x1, .ref 21], hp (wI (wI S 19 (w32 y1) (y0 + (S.1 19 (w32 (x1 + 1))))) 20 (w32 x1) 1), 0, 0)) rfl ?_
  obtain ⟨b6, F⟩ := F
  refine mv_ias rfl (sh_21) b6 ?_
  have F := F _ rfl
  refine ev_bk 3 (S' := (70, [some (.ref 10), some (vI x1), some (.ref a2), some (vI x3), some (vI x4), some (vI 2), none, none, none, none, none, none], [.ref 10], hp (wI (wI (wI S 19 (w32 y1) (y0 + (S.1 19 (w32 (x1 + 1))))) 20 (w32 x1) 1) 21 (w32 x1) 0), 0, 0)) rfl ?_
  refine mv_gfR rfl rfl (sh_10) (by decide) rfl ?_
  refine ev_bk 1 (S' := (74, [some (.ref 10), some (vI x1), some (.ref a2), some (vI x3), some (vI x4), some (vI 2), none, none, none, none, none, none], [vI x1, .ref 12], hp (wI (wI (wI S 19 (w32 y1) (y0 + (S.1 19 (w32 (x1 + 1))))) 20 (w32 x1) 1) 21 (w32 x1) 0), 0, 0)) rfl ?_
  obtain ⟨b8, F⟩ := F
  refine mv_ial rfl (sh_12) b8 ?_
  refine ev_bk 3 (S' := (80, [some (.ref 10), some (vI x1), some (.ref a2), some (vI x3), some (vI x4), some (vI 2), some (vI ((wI (wI (wI S 19 (w32 y1) (y0 + (S.1 19 (w32 (x1 + 1))))) 20 (w32 x1) 1) 21 (w32 x1) 0).1 12 (w32 x1))), some (vI 0), none, none, none, none], [], hp (wI (wI (wI S 19 (w32 y1) (y0 + (S.1 19 (w32 (x1 + 1))))) 20 (w32 x1) 1) 21 (w32 x1) 0), 0, 0)) rfl ?_
  exact F
theorem vc_Finder_cheapest_80 {q : Nat × (Nat → Int32)} {S S' : ms} {r : Option Value} (x1 x3 x4 x5 x6 x7 : Int) (a2 na2 : Nat) (ha2 : SH a2 = (0, na2, []))
    (F : ((w32 (S.1 10 3) ≤ w32 x7) → r = some (vI x5) ∧ S' = S) ∧ ((¬ w32 (S.1 10 3) ≤ w32 x7) → ((w32 x6 < 0) → r = some (vI x5) ∧ S' = S) ∧ ((¬ w32 x6 < 0) → ((w32 x4 ≤ w32 x5) → r = some (vI x5) ∧ S' = S) ∧ ((¬ w32 x4 ≤ w32 x5) → ∃ (o1 no1 : Nat), S.2.2 10 2 = o1 ∧ SH o1 = (0, no1, []) ∧ (0 ≤ w32 (x6 + x5) ∧ w32 (x6 + x5) < (no1 : Nat)) ∧ ∃ (o5 no5 : Nat), S.2.2 10 2 = o5 ∧ SH o5 = (0, no5, []) ∧ (0 ≤ w32 (x1 + x5) ∧ w32 (x1 + x5) < (no5 : Nat)) ∧ ((¬ w32 (S.1 o1 (w32 (x6 + x5))) = w32 (S.1 o5 (w32 (x1 + x5)))) → EV q 80 136 [some (.ref 10), some (vI x1), some (.ref a2), some (vI x3), some (vI x4), some (vI x5), some (vI x6), some (vI x7), none, none, none, none] [vI 0] S r S') ∧ ((¬ (¬ w32 (S.1 o1 (w32 (x6 + x5))) = w32 (S.1 o5 (w32 (x1 + x5))))) → ∃ (z11 : Int) (S9 : ms), EV q 61 0 [some (.ref 10), some (vI x6), some (vI x1), some (vI x4), none] [] S (some (vI z11)) S9 ∧ EV q 80 136 [some (.ref 10), some (vI x1), some (.ref a2), some (vI x3), some (vI x4), some (vI x5), some (vI x6), some (vI x7), none, none, none, none] [vI z11] S9 r S'))))) : EV q 80 80 [some (.ref 10), some (vI x1), some (.ref a2), some (vI x3), some (vI x4), some (vI x5), some (vI x6), some (vI x7), none, none, none, none] [] S r S' := by
  unfold EV
  refine ev_bk 2 (S' := (83, [some (.ref 10), some (vI x1), some (.ref a2), some (vI x3), some (vI x4), some (vI x5), some (vI x6), some (vI x7), none, none, none, none], [.ref 10, vI x7], hp S, 0, 0)) rfl ?_
  refine mv_gfI rfl rfl (sh_10) (by decide) rfl ?_
  refine mv_icmp 257 rfl rfl (fun c => ?_) (fun c => ?_)
  · have F := F.1 c
    refine ev_bk 1 (S' := (259, [some (.ref 10), some (vI x1), some (.ref a2), some (vI x3), some (vI x4), some (vI x5), some (vI x6), some (vI x7), none, none, none, none], [vI x5], hp S, 0, 0)) rfl ?_
    obtain ⟨rfl, rfl⟩ := F
    exact ev_ret rfl rfl
  · have F := F.2 c
    refine ev_bk 1 (S' := (91, [some (.ref 10), some (vI x1), some (.ref a2), some (vI x3), some (vI x4), some (vI x5), some (vI x6), some (vI x7), none, none, none, none], [vI x6], hp S, 0, 0)) rfl ?_
    refine mv_if 257 rfl rfl (fun c => ?_) (fun c => ?_)
    · have F := F.1 c
      refine ev_bk 1 (S' := (259, [some (.ref 10), some (vI x1), some (.ref a2), some (vI x3), some (vI x4), some (vI x5), some (vI x6), some (vI x7), none, none, none, none], [vI x5], hp S, 0, 0)) rfl ?_
      obtain ⟨rfl, rfl⟩ := F
      exact ev_ret rfl rfl
    · have F := F.2 c
      refine ev_bk 2 (S' := (98, [some (.ref 10), some (vI x1), some (.ref a2), some (vI x3), some (vI x4), some (vI x5), some (vI x6), some (vI x7), none, none, none, none], [vI x4, vI x5], hp S, 0, 0)) rfl ?_
      refine mv_icmp 257 rfl rfl (fun c => ?_) (fun c => ?_)
      · have F := F.1 c
        refine ev_bk 1 (S' := (259, [some (.ref 10), some (vI x1), some (.ref a2), some (vI x3), some (vI x4), some (vI x5), some (vI x6), some (vI x7), none, none, none, none], [vI x5], hp S, 0, 0)) rfl ?_
        obtain ⟨rfl, rfl⟩ := F
        exact ev_ret rfl rfl
      · have F := F.2 c
        refine ev_bk 1 (S' := (102, [some (.ref 10), some (vI x1), some (.ref a2), some (vI x3), some (vI x4), some (vI x5), some (vI x6), some (vI x7), none, none, none, none], [.ref 10], hp S, 0, 0)) rfl ?_
        obtain ⟨o1, no1, e3, h2, F⟩ := F
        refine mv_gfV rfl rfl (sh_10) (by decide) rfl e3 ?_
        refine ev_bk 2 (S' := (109, [some (.ref 10), some (vI x1), some (.ref a2), some (vI x3), some (vI x4), some (vI x5), some (vI x6), some (vI x7), none, none, none, none], [vI x5, vI x6, .ref o1], hp S, 0, 0)) rfl ?_
        refine mv_iadd rfl ?_
        obtain ⟨b4, F⟩ := F
        refine mv_ial rfl (h2) b4 ?_
        refine ev_bk 1 (S' := (112, [some (.ref 10), some (vI x1), some (.ref a2), some (vI x3), some (vI x4), some (vI x5), some (vI x6), some (vI x7), none, none, none, none], [.ref 10, vI (S.1 o1 (w32 (x6 + x5)))], hp S, 0, 0)) rfl ?_
        obtain ⟨o5, no5, e7, h6, F⟩ := F
        refine mv_gfV rfl rfl (sh_10) (by decide) rfl e7 ?_
        refine ev_bk 2 (S' := (118, [some (.ref 10), some (vI x1), some (.ref a2), some (vI x3), some (vI x4), some (vI x5), some (vI x6), some (vI x7), none, none, none, none], [vI x5, vI x1, .ref o5, vI (S.1 o1 (w32 (x6 + x5)))], hp S, 0, 0)) rfl ?_
        refine mv_iadd rfl ?_
        obtain ⟨b8, F⟩ := F
        refine mv_ial rfl (h6) b8 ?_
        refine mv_icmp 135 rfl rfl (fun c => ?_) (fun c => ?_)
        · have F := F.1 c
          refine ev_bk 1 (S' := (136, [some (.ref 10), some (vI x1), some (.ref a2), some (vI x3), some (vI x4), some (vI x5), some (vI x6), some (vI x7), none, none, none, none], [vI 0], hp S, 0, 0)) rfl ?_
          exact F
        · have F := F.2 c
          refine ev_bk 4 (S' := (129, [some (.ref 10), some (vI x1), some (.ref a2), some (vI x3), some (vI x4), some (vI x5), some (vI x6), some (vI x7), none, none, none, none], [vI x4, vI x1, vI x6, .ref 10], hp S, 0, 0)) rfl ?_
          obtain ⟨z11, S9, e10, F⟩ := F
          refine mv_calv (as := [vI x6, vI x1, vI x4]) (rest := []) e10 (sh_10) rfl rfl rfl ⟨rfl, rfl⟩ rfl rfl rfl rfl rfl ?_
          refine mv_goto 136 rfl rfl ?_
          exact F
theorem vc_Finder_cheapest_136 {q : Nat × (Nat → Int32)} {S S' : ms} {r : Option Value} (x1 x3 x4 x5 x6 x7 y0 : Int) (a2 na2 : Nat) (ha2 : SH a2 = (0, na2, []))
    (F : ((w32 y0 ≤ w32 x5) → EV q 80 156 [some (.ref 10), some (vI x1), some (.ref a2), some (vI x3), some (vI x4), some (vI x5), some (vI x6), some (vI x7), some (vI y0), none, none, none] [vI 0] S r S') ∧ ((¬ w32 y0 ≤ w32 x5) → ∃ (z3 : Int) (S1 : ms), EV q 81 0 [some (vI (x1 - x6))] [] S (some (vI z3)) S1 ∧ EV q 80 156 [some (.ref 10), some (vI x1), some (.ref a2), some (vI x3), some (vI x4), some (vI x5), some (vI x6), some (vI x7), some (vI y0), none, none, none] [vI z3] S1 r S')) : EV q 80 136 [some (.ref 10), some (vI x1), some (.ref a2), some (vI x3), some (vI x4), some (vI x5), some (vI x6), some (vI x7), none, none, none, none] [vI y0] S r S' := by
  unfold EV
  refine ev_bk 3 (S' := (142, [some (.ref 10), some (vI x1), some (.ref a2), some (vI x3), some (vI x4), some (vI x5), some (vI x6), some (vI x7), some (vI y0), none, none, none], [vI x5, vI y0], hp S, 0, 0)) rfl ?_
  refine mv_icmp 155 rfl rfl (fun c => ?_) (fun c => ?_)
  · have F := F.1 c
    refine ev_bk 1 (S' := (156, [some (.ref 10), some (vI x1), some (.ref a2), some (vI x3), some (vI x4), some (vI x5), some (vI x6), some (vI x7), some (vI y0), none, none, none], [vI 0], hp S, 0, 0)) rfl ?_
    exact F
  · have F := F.2 c
    refine ev_bk 2 (S' := (148, [some (.ref 10), some (vI x1), some (.ref a2), some (vI x3), some (vI x4), some (vI x5), some (vI x6), some (vI x7), some (vI y0), none, none, none], [vI x6, vI x1], hp S, 0, 0)) rfl ?_
    refine mv_isub rfl ?_
    obtain ⟨z3, S1, e2, F⟩ := F
    refine mv_cals (as := [vI (x1 - x6)]) (rest := []) e2 rfl rfl rfl ⟨rfl, rfl, rfl⟩ rfl rfl rfl rfl ?_
    refine mv_goto 156 rfl rfl ?_
    exact F
theorem vc_Finder_cheapest_156 {q : Nat × (Nat → Int32)} {S S' : ms} {r : Option Value} (x1 x3 x4 x5 x6 x7 x8 y0 : Int) (a2 na2 : Nat) (ha2 : SH a2 = (0, na2, []))
    (F : EV q 80 164 [some (.ref 10), some (vI x1), some (.ref a2), some (vI x3), some (vI x4), some (vI x5), some (vI x6), some (vI x7), some (vI x8), some (vI y0), some (vI (x5 + 1)), none] [] S r S') : EV q 80 156 [some (.ref 10), some (vI x1), some (.ref a2), some (vI x3), some (vI x4), some (vI x5), some (vI x6), some (vI x7), some (vI x8), none, none, none] [vI y0] S r S' := by
  unfold EV
  refine ev_bk 3 (S' := (161, [some (.ref 10), some (vI x1), some (.ref a2), some (vI x3), some (vI x4), some (vI x5), some (vI x6), some (vI x7), some (vI x8), some (vI y0), none, none], [vI 1, vI x5], hp S, 0, 0)) rfl ?_
  refine mv_iadd rfl ?_
  refine ev_bk 1 (S' := (164, [some (.ref 10), some (vI x1), some (.ref a2), some (vI x3), some (vI x4), some (vI x5), some (vI x6), some (vI x7), some (vI x8), some (vI y0), some (vI (x5 + 1)), none], [], hp S, 0, 0)) rfl ?_
  exact F
theorem vc_Finder_cheapest_164 {q : Nat × (Nat → Int32)} {S S' : ms} {r : Option Value} (x1 x3 x4 x5 x6 x7 x8 x9 x10 : Int) (a2 na2 : Nat) (ha2 : SH a2 = (0, na2, []))
    (F : ((w32 x8 < w32 x10) → (0 ≤ w32 x6 ∧ w32 x6 < (12000 : Nat)) ∧ EV q 80 80 [some (.ref 10), some (vI x1), some (.ref a2), some (vI x3), some (vI x4), some (vI (max (w32 x5) (w32 x8))), some (vI (S.1 12 (w32 x6))), some (vI (x7 + 1)), none, none, none, none] [] S r S') ∧ ((¬ w32 x8 < w32 x10) → (0 ≤ w32 x10 ∧ w32 x10 < (na2 : Nat)) ∧ (0 ≤ w32 (x1 + x10) ∧ w32 (x1 + x10) < (6001 : Nat)) ∧ (0 ≤ w32 x1 ∧ w32 x1 < (6001 : Nat)) ∧ ((w32 (S.1 19 (w32 x1)) ≤ w32 ((x9 + (S.1 a2 (w32 x10))) + (S.1 19 (w32 (x1 + x10))))) → EV q 80 227 [some (.ref 10), some (vI x1), some (.ref a2), some (vI x3), some (vI x4), some (vI x5), some (vI x6), some (vI x7), some (vI x8), some (vI x9), some (vI x10), some (vI ((x9 + (S.1 a2 (w32 x10))) + (S.1 19 (w32 (x1 + x10)))))] [] S r S') ∧ ((¬ w32 (S.1 19 (w32 x1)) ≤ w32 ((x9 + (S.1 a2 (w32 x10))) + (S.1 19 (w32 (x1 + x10))))) → (0 ≤ w32 x1 ∧ w32 x1 < (6001 : Nat)) ∧ ∀ S6 : ms, S6 = wI S 19 (w32 x1) ((x9 + (S.1 a2 (w32 x10))) + (S.1 19 (w32 (x1 + x10)))) → (0 ≤ w32 x1 ∧ w32 x1 < (6000 : Nat)) ∧ ∀ S8 : ms, S8 = wI S6 20 (w32 x1) x10 → (0 ≤ w32 x1 ∧ w32 x1 < (6000 : Nat)) ∧ ∀ S10 : ms, S10 = wI S8 21 (w32 x1) (x1 - x6) → EV q 80 227 [some (.ref 10), some (vI x1), some (.ref a2), some (vI x3), some (vI x4), some (vI x5), some (vI x6), some (vI x7), some (vI x8), some (vI x9), some (vI x10), some (vI ((x9 + (S.1 a2 (w32 x10))) + (S.1 19 (w32 (x1 + x10)))))] [] S10 r S'))) : EV q 80 164 [some (.ref 10), some (vI x1), some (.ref a2), some (vI x3), some (vI x4), some (vI x5), some (vI x6), some (vI x7), some (vI x8), some (vI x9), some (vI x10), none] [] S r S' := by
  unfold EV
  refine ev_bk 2 (S' := (168, [some (.ref 10), some (vI x1), some (.ref a2), some (vI x3), some (vI x4), some (vI x5), some (vI x6), some (vI x7), some (vI x8), some (vI x9), some (vI x10), none], [vI x8, vI x10], hp S, 0, 0)) rfl ?_
  refine mv_icmp 233 rfl rfl (fun c => ?_) (fun c => ?_)
  · have F := F.1 c
    refine ev_bk 2 (S' := (237, [some (.ref 10), some (vI x1), some (.ref a2), some (vI x3), some (vI x4), some (vI x5), some (vI x6), some (vI x7), some (vI x8), some (vI x9), some (vI x10), none], [vI x8, vI x5], hp S, 0, 0)) rfl ?_
    refine mv_max rfl rfl rfl ?_
    refine ev_bk 2 (S' := (243, [some (.ref 10), some (vI x1), some (.ref a2), some (vI x3), some (vI x4), some (vI (max (w32 x5) (w32 x8))), some (vI x6), some (vI x7), some (vI x8), some (vI x9), some (vI x10), none], [.ref 10], hp S, 0, 0)) rfl ?_
    refine mv_gfR rfl rfl (sh_10) (by decide) rfl ?_
    refine ev_bk 1 (S' := (248, [some (.ref 10), some (vI x1), some (.ref a2), some (vI x3), some (vI x4), some (vI (max (w32 x5) (w32 x8))), some (vI x6), some (vI x7), some (vI x8), some (vI x9), some (vI x10), none], [vI x6, .ref 12], hp S, 0, 0)) rfl ?_
    obtain ⟨b1, F⟩ := F
    refine mv_ial rfl (sh_12) b1 ?_
    refine ev_bk 1 (S' := (251, [some (.ref 10), some (vI x1), some (.ref a2), some (vI x3), some (vI x4), some (vI (max (w32 x5) (w32 x8))), some (vI (S.1 12 (w32 x6))), some (vI x7), some (vI x8), some (vI x9), some (vI x10), none], [], hp S, 0, 0)) rfl ?_
    refine mv_inc (lv' := [some (.ref 10), some (vI x1), some (.ref a2), some (vI x3), some (vI x4), some (vI (max (w32 x5) (w32 x8))), some (vI (S.1 12 (w32 x6))), some (vI (x7 + 1)), some (vI x8), some (vI x9), some (vI x10), none]) 7 1 rfl rfl rfl rfl ?_
    refine mv_goto 80 rfl rfl ?_
    exact ev_wk (le_s (le_s (le_s (le_s (le_s (le_s (le_s (le_s (le_n (le_n (le_n (le_s le_0)))))))))))) F
  · have F := F.2 c
    refine ev_bk 3 (S' := (176, [some (.ref 10), some (vI x1), some (.ref a2), some (vI x3), some (vI x4), some (vI x5), some (vI x6), some (vI x7), some (vI x8), some (vI x9), some (vI x10), none], [vI x10, .ref a2, vI x9], hp S, 0, 0)) rfl ?_
    obtain ⟨b2, F⟩ := F
    refine mv_ial rfl (ha2) b2 ?_
    refine mv_iadd rfl ?_
    refine ev_bk 1 (S' := (179, [some (.ref 10), some (vI x1), some (.ref a2), some (vI x3), some (vI x4), some (vI x5), some (vI x6), some (vI x7), some (vI x8), some (vI x9), some (vI x10), none], [.ref 10, vI (x9 + (S.1 a2 (w32 x10)))], hp S, 0, 0)) rfl ?_
    refine mv_gfR rfl rfl (sh_10) (by decide) rfl ?_
    refine ev_bk 2 (S' := (185, [some (.ref 10), some (vI x1), some (.ref a2), some (vI x3), some (vI x4), some (vI x5), some (vI x6), some (vI x7), some (vI x8), some (vI x9), some (vI x10), none], [vI x10, vI x1, .ref 19, vI (x9 + (S.1 a2 (w32 x10)))], hp S, 0, 0)) rfl ?_
    refine mv_iadd rfl ?_
    obtain ⟨b3, F⟩ := F
    refine mv_ial rfl (sh_19) b3 ?_
    refine mv_iadd rfl ?_
    refine ev_bk 3 (S' := (193, [some (.ref 10), some (vI x1), some (.ref a2), some (vI x3), some (vI x4), some (vI x5), some (vI x6), some (vI x7), some (vI x8), some (vI x9), some (vI x10), some (vI ((x9 + (S.1 a2 (w32 x10))) + (S.1 19 (w32 (x1 + x10)))))], [.ref 10, vI ((x9 + (S.1 a2 (w32 x10))) + (S.1 19 (w32 (x1 + x10))))], hp S, 0, 0)) rfl ?_
    refine mv_gfR rfl rfl (sh_10) (by decide) rfl ?_
    refine ev_bk 1 (S' := (197, [some (.ref 10), some (vI x1), some (.ref a2), some (vI x3), some (vI x4), some (vI x5), some (vI x6), some (vI x7), some (vI x8), some (vI x9), some (vI x10), some (vI ((x9 + (S.1 a2 (w32 x10))) + (S.1 19 (w32 (x1 + x10)))))], [vI x1, .ref 19, vI ((x9 + (S.1 a2 (w32 x10))) + (S.1 19 (w32 (x1 + x10))))], hp S, 0, 0)) rfl ?_
    obtain ⟨b4, F⟩ := F
    refine mv_ial rfl (sh_19) b4 ?_
    refine mv_icmp 227 rfl rfl (fun c => ?_) (fun c => ?_)
    · have F := F.1 c
      exact F
    · have F := F.2 c
      refine ev_bk 1 (S' := (202, [some (.ref 10), some (vI x1), some (.ref a2), some (vI x3), some (vI x4), some (vI x5), some (vI x6), some (vI x7), some (vI x8), some (vI x9), some (vI x10), some (vI ((x9 + (S.1 a2 (w32 x10))) + (S.1 19 (w32 (x1 + x10)))))], [.ref 10], hp S, 0, 0)) rfl ?_
      refine mv_gfR rfl rfl (sh_10) (by decide) rfl ?_
      refine ev_bk 2 (S' := (208, [some (.ref 10), some (vI x1), some (.ref a2), some (vI x3), some (vI x4), some (vI x5), some (vI x6), some (vI x7), some (vI x8), some (vI x9), some (vI x10), some (vI ((x9 + (S.1 a2 (w32 x10))) + (S.1 19 (w32 (x1 + x10)))))], [vI ((x9 + (S.1 a2 (w32 x10))) + (S.1 19 (w32 (x1 + x10)))), vI x1, .ref 19], hp S, 0, 0)) rfl ?_
      obtain ⟨b5, F⟩ := F
      refine mv_ias rfl (sh_19) b5 ?_
      have F := F _ rfl
      refine ev_bk 1 (S' := (210, [some (.ref 10), some (vI x1), some (.ref a2), some (vI x3), some (vI x4), some (vI x5), some (vI x6), some (vI x7), some (vI x8), some (vI x9), some (vI x10), some (vI ((x9 + (S.1 a2 (w32 x10))) + (S.1 19 (w32 (x1 + x10)))))], [.ref 10], hp (wI S 19 (w32 x1) ((x9 + (S.1 a2 (w32 x10))) + (S.1 19 (w32 (x1 + x10))))), 0, 0)) rfl ?_
      refine mv_gfR rfl rfl (sh_10) (by decide) rfl ?_
      refine ev_bk 2 (S' := (216, [some (.ref 10), some (vI x1), some (.ref a2), some (vI x3), some (vI x4), some (vI x5), some (vI x6), some (vI x7), some (vI x8), some (vI x9), some (vI x10), some (vI ((x9 + (S.1 a2 (w32 x10))) + (S.1 19 (w32 (x1 + x10)))))], [vI x10, vI x1, .ref 20], hp (wI S 19 (w32 x1) ((x9 + (S.1 a2 (w32 x10))) + (S.1 19 (w32 (x1 + x10))))), 0, 0)) rfl ?_
      obtain ⟨b7, F⟩ := F
      refine mv_ias rfl (sh_20) b7 ?_
      have F := F _ rfl
      refine ev_bk 1 (S' := (218, [some (.ref 10), some (vI x1), some (.ref a2), some (vI x3), some (vI x4), some (vI x5), some (vI x6), some (vI x7), some (vI x8), some (vI x9), some (vI x10), some (vI ((x9 + (S.1 a2 (w32 x10))) + (S.1 19 (w32 (x1 + x10)))))], [.ref 10], hp (wI (wI S 19 (w32 x1) ((x9 + (S.1 a2 (w32 x10))) + (S.1 19 (w32 (x1 + x10))))) 20 (w32 x1) x10), 0, 0)) rfl ?_
      refine mv_gfR rfl rfl (sh_10) (by decide) rfl ?_
      refine ev_bk 3 (S' := (225, [some (.ref 10), some (vI x1), some (.ref a2), some (vI x3), some (vI x4), some (vI x5), some (vI x6), some (vI x7), some (vI x8), some (vI x9), some (vI x10), some (vI ((x9 + (S.1 a2 (w32 x10))) + (S.1 19 (w32 (x1 + x10)))))], [vI x6, vI x1, vI x1, .ref 21], hp (wI (wI S 19 (w32 x1) ((x9 + (S.1 a2 (w32 x10))) + (S.1 19 (w32 (x1 + x10))))) 20 (w32 x1) x10), 0, 0)) rfl ?_
      refine mv_isub rfl ?_
      obtain ⟨b9, F⟩ := F
      refine mv_ias rfl (sh_21) b9 ?_
      have F := F _ rfl
      exact F
theorem vc_Finder_cheapest_227 {q : Nat × (Nat → Int32)} {S S' : ms} {r : Option Value} (x1 x3 x4 x5 x6 x7 x8 x9 x10 x11 : Int) (a2 na2 : Nat) (ha2 : SH a2 = (0, na2, []))
    (F : EV q 80 164 [some (.ref 10), some (vI x1), some (.ref a2), some (vI x3), some (vI x4), some (vI x5), some (vI x6), some (vI x7), some (vI x8), some (vI x9), some (vI (x10 + 1)), none] [] S r S') : EV q 80 227 [some (.ref 10), some (vI x1), some (.ref a2), some (vI x3), some (vI x4), some (vI x5), some (vI x6), some (vI x7), some (vI x8), some (vI x9), some (vI x10), some (vI x11)] [] S r S' := by
  unfold EV
  refine mv_inc (lv' := [some (.ref 10), some (vI x1), some (.ref a2), some (vI x3), some (vI x4), some (vI x5), some (vI x6), some (vI x7), some (vI x8), some (vI x9), some (vI (x10 + 1)), some (vI x11)]) 10 1 rfl rfl rfl rfl ?_
  refine mv_goto 164 rfl rfl ?_
  exact ev_wk (le_s (le_s (le_s (le_s (le_s (le_s (le_s (le_s (le_s (le_s (le_s (le_n le_0)))))))))))) F
theorem vc_Plain_packOdds {q : Nat × (Nat → Int32)} {S S' : ms} {r : Option Value} (a1 na1 : Nat) (ha1 : isRow a1 na1) (a2 na2 : Nat) (ha2 : isRow a2 na2)
    (F : ∃ (S1 : ms), EV q 18 0 [some (.ref a2), some (vL (w32 (S.1 a1 1))), none, some (vI 2), none] [] S none S1 ∧ ∃ (S3 : ms), EV q 11 0 [some (.ref 28), some (vI 1024), none, none] [] S1 none S3 ∧ ∀ S5 : ms, S5 = wJ S3 22 6 0 → ∀ S6 : ms, S6 = wJ S5 22 7 4294967295 → EV q 108 37 [some (.ref 22), some (.ref a1), some (.ref a2), some (vI 0), some (vI 0), none, none, none, none] [] S6 r S') : EV q 108 0 [some (.ref 22), some (.ref a1), some (.ref a2), none, none, none, none, none, none] [] S r S' := by
  unfold EV
  refine ev_bk 2 (S' := (2, [some (.ref 22), some (.ref a1), some (.ref a2), none, none, none, none, none, none], [.ref a1, .ref a2], hp S, 0, 0)) rfl ?_
  refine mv_gfI rfl rfl (ha1.1) (by decide) rfl ?_
  refine mv_i2l rfl ?_
  refine ev_bk 1 (S' := (7, [some (.ref 22), some (.ref a1), some (.ref a2), none, none, none, none, none, none], [vI 2, vL (w32 (S.1 a1 1)), .ref a2], hp S, 0, 0)) rfl ?_
  obtain ⟨S1, e2, F⟩ := F
  refine mv_calv (as := [vL (w32 (S.1 a1 1)), vI 2]) (rest := []) e2 (ha2.1) rfl rfl rfl ⟨rfl, rfl⟩ rfl rfl rfl rfl rfl ?_
  refine ev_bk 1 (S' := (11, [some (.ref 22), some (.ref a1), some (.ref a2), none, none, none, none, none, none], [.ref 22], hp S1, 0, 0)) rfl ?_
  refine mv_gfR rfl rfl (sh_22) (by decide) rfl ?_
  refine ev_bk 1 (S' := (17, [some (.ref 22), some (.ref a1), some (.ref a2), none, none, none, none, none, none], [vI 1024, .ref 28], hp S1, 0, 0)) rfl ?_
  obtain ⟨S3, e4, F⟩ := F
  refine mv_cals (as := [.ref 28, vI 1024]) (rest := []) e4 rfl rfl rfl ⟨rfl, rfl, rfl⟩ rfl rfl rfl rfl ?_
  refine ev_bk 2 (S' := (22, [some (.ref 22), some (.ref a1), some (.ref a2), none, none, none, none, none, none], [vL 0, .ref 22], hp S3, 0, 0)) rfl ?_
  refine mv_pfJ rfl rfl (sh_22) (by decide) rfl rfl ?_
  have F := F _ rfl
  refine ev_bk 2 (S' := (29, [some (.ref 22), some (.ref a1), some (.ref a2), none, none, none, none, none, none], [vL 4294967295, .ref 22], hp (wJ S3 22 6 0), 0, 0)) rfl ?_
  refine mv_pfJ rfl rfl (sh_22) (by decide) rfl rfl ?_
  have F := F _ rfl
  refine ev_bk 4 (S' := (37, [some (.ref 22), some (.ref a1), some (.ref a2), some (vI 0), some (vI 0), none, none, none, none], [], hp (wJ (wJ S3 22 6 0) 22 7 4294967295), 0, 0)) rfl ?_
  exact F
theorem vc_Plain_packOdds_37 {q : Nat × (Nat → Int32)} {S S' : ms} {r : Option Value} (x3 x4 : Int) (a1 na1 : Nat) (ha1 : isRow a1 na1) (a2 na2 : Nat) (ha2 : isRow a2 na2)
    (F : ((w32 (S.1 a1 1) ≤ w32 x4) → ∃ (S1 : ms), EV q 18 0 [some (.ref a2), some (vL (S.2.1 22 6)), none, some (vI 4), none] [] S none S1 ∧ r = none ∧ S' = S1) ∧ ((¬ w32 (S.1 a1 1) ≤ w32 x4) → (0 ≤ w32 x4 ∧ w32 x4 < (na1 : Nat)) ∧ EV q 108 62 [some (.ref 22), some (.ref a1), some (.ref a2), some (vI x3), some (vI x4), some (vI (S.1 (a1 + 1) (w32 x4))), some (vI 1), some (vI 7), none] [] S r S')) : EV q 108 37 [some (.ref 22), some (.ref a1), some (.ref a2), some (vI x3), some (vI x4), none, none, none, none] [] S r S' := by
  unfold EV
  refine ev_bk 2 (S' := (40, [some (.ref 22), some (.ref a1), some (.ref a2), some (vI x3), some (vI x4), none, none, none, none], [.ref a1, vI x4], hp S, 0, 0)) rfl ?_
  refine mv_gfI rfl rfl (ha1.1) (by decide) rfl ?_
  refine mv_icmp 115 rfl rfl (fun c => ?_) (fun c => ?_)
  · have F := F.1 c
    refine ev_bk 2 (S' := (117, [some (.ref 22), some (.ref a1), some (.ref a2), some (vI x3), some (vI x4), none, none, none, none], [.ref 22, .ref a2], hp S, 0, 0)) rfl ?_
    refine mv_gfJ rfl rfl (sh_22) (by decide) rfl ?_
    refine ev_bk 1 (S' := (121, [some (.ref 22), some (.ref a1), some (.ref a2), some (vI x3), some (vI x4), none, none, none, none], [vI 4, vL (S.2.1 22 6), .ref a2], hp S, 0, 0)) rfl ?_
    obtain ⟨S1, e2, F⟩ := F
    refine mv_calv (as := [vL (S.2.1 22 6), vI 4]) (rest := []) e2 (ha2.1) rfl rfl rfl ⟨rfl, rfl⟩ rfl rfl rfl rfl rfl ?_
    obtain ⟨rfl, rfl⟩ := F
    exact ev_ret rfl rfl
  · have F := F.2 c
    refine ev_bk 1 (S' := (47, [some (.ref 22), some (.ref a1), some (.ref a2), some (vI x3), some (vI x4), none, none, none, none], [.ref a1], hp S, 0, 0)) rfl ?_
    refine mv_gfR rfl rfl (ha1.1) (by decide) rfl ?_
    refine ev_bk 1 (S' := (52, [some (.ref 22), some (.ref a1), some (.ref a2), some (vI x3), some (vI x4), none, none, none, none], [vI x4, .ref (a1 + 1)], hp S, 0, 0)) rfl ?_
    obtain ⟨b3, F⟩ := F
    refine mv_ial rfl (ha1.2) b3 ?_
    refine ev_bk 5 (S' := (62, [some (.ref 22), some (.ref a1), some (.ref a2), some (vI x3), some (vI x4), some (vI (S.1 (a1 + 1) (w32 x4))), some (vI 1), some (vI 7), none], [], hp S, 0, 0)) rfl ?_
    exact F
theorem vc_Plain_packOdds_62 {q : Nat × (Nat → Int32)} {S S' : ms} {r : Option Value} (x3 x4 x5 x6 x7 : Int) (a1 na1 : Nat) (ha1 : isRow a1 na1) (a2 na2 : Nat) (ha2 : isRow a2 na2)
    (F : ((w32 x7 < 0) → EV q 108 37 [some (.ref 22), some (.ref a1), some (.ref a2), some (vI x5), some (vI (x4 + 1)), none, none, none, none] [] S r S') ∧ ((¬ w32 x7 < 0) → ∃ (S1 : ms), EV q 109 0 [some (.ref 22), some (vI ((x3 * 256) + x6)), some (vI ((w32 x5 / ((2 : Int) ^ (x7 % 32).toNat)) % 2)), some (.ref a2), none, none, none] [] S none S1 ∧ EV q 108 62 [some (.ref 22), some (.ref a1), some (.ref a2), some (vI x3), some (vI x4), some (vI x5), some (vI ((x6 * 2) + ((w32 x5 / ((2 : Int) ^ (x7 % 32).toNat)) % 2))), some (vI (x7 - 1)), none] [] S1 r S')) : EV q 108 62 [some (.ref 22), some (.ref a1), some (.ref a2), some (vI x3), some (vI x4), some (vI x5), some (vI x6), some (vI x7), none] [] S r S' := by
  unfold EV
  refine ev_bk 1 (S' := (64, [some (.ref 22), some (.ref a1), some (.ref a2), some (vI x3), some (vI x4), some (vI x5), some (vI x6), some (vI x7), none], [vI x7], hp S, 0, 0)) rfl ?_
  refine mv_if 106 rfl rfl (fun c => ?_) (fun c => ?_)
  · have F := F.1 c
    refine ev_bk 2 (S' := (109, [some (.ref 22), some (.ref a1), some (.ref a2), some (vI x5), some (vI x4), some (vI x5), some (vI x6), some (vI x7), none], [], hp S, 0, 0)) rfl ?_
    refine mv_inc (lv' := [some (.ref 22), some (.ref a1), some (.ref a2), some (vI x5), some (vI (x4 + 1)), some (vI x5), some (vI x6), some (vI x7), none]) 4 1 rfl rfl rfl rfl ?_
    refine mv_goto 37 rfl rfl ?_
    exact ev_wk (le_s (le_s (le_s (le_s (le_s (le_n (le_n (le_n (le_s le_0))))))))) F
  · have F := F.2 c
    refine ev_bk 2 (S' := (71, [some (.ref 22), some (.ref a1), some (.ref a2), some (vI x3), some (vI x4), some (vI x5), some (vI x6), some (vI x7), none], [vI x7, vI x5], hp S, 0, 0)) rfl ?_
    refine mv_ishr ((2 : Int) ^ (x7 % 32).toNat) rfl rfl ?_
    refine ev_bk 1 (S' := (73, [some (.ref 22), some (.ref a1), some (.ref a2), some (vI x3), some (vI x4), some (vI x5), some (vI x6), some (vI x7), none], [vI 1, vI (w32 x5 / ((2 : Int) ^ (x7 % 32).toNat))], hp S, 0, 0)) rfl ?_
    refine mv_iandm 2 1 (by decide) rfl rfl rfl ?_
    refine ev_bk 4 (S' := (81, [some (.ref 22), some (.ref a1), some (.ref a2), some (vI x3), some (vI x4), some (vI x5), some (vI x6), some (vI x7), some (vI ((w32 x5 / ((2 : Int) ^ (x7 % 32).toNat)) % 2))], [vI 256, vI x3, .ref 22], hp S, 0, 0)) rfl ?_
    refine mv_imul rfl ?_
    refine ev_bk 1 (S' := (84, [some (.ref 22), some (.ref a1), some (.ref a2), some (vI x3), some (vI x4), some (vI x5), some (vI x6), some (vI x7), some (vI ((w32 x5 / ((2 : Int) ^ (x7 % 32).toNat)) % 2))], [vI x6, vI (x3 * 256), .ref 22], hp S, 0, 0)) rfl ?_
    refine mv_iadd rfl ?_
    refine ev_bk 2 (S' := (88, [some (.ref 22), some (.ref a1), some (.ref a2), some (vI x3), some (vI x4), some (vI x5), some (vI x6), some (vI x7), some (vI ((w32 x5 / ((2 : Int) ^ (x7 % 32).toNat)) % 2))], [.ref a2, vI ((w32 x5 / ((2 : Int) ^ (x7 % 32).toNat)) % 2), vI ((x3 * 256) + x6), .ref 22], hp S, 0, 0)) rfl ?_
    obtain ⟨S1, e2, F⟩ := F
    refine mv_calv (as := [vI ((x3 * 256) + x6), vI ((w32 x5 / ((2 : Int) ^ (x7 % 32).toNat)) % 2), .ref a2]) (rest := []) e2 (sh_22) rfl rfl rfl ⟨rfl, rfl⟩ rfl rfl rfl rfl rfl ?_
    refine ev_bk 2 (S' := (94, [some (.ref 22), some (.ref a1), some (.ref a2), some (vI x3), some (vI x4), some (vI x5), some (vI x6), some (vI x7), some (vI ((w32 x5 / ((2 : Int) ^ (x7 % 32).toNat)) % 2))], [vI 2, vI x6], hp S1, 0, 0)) rfl ?_
    refine mv_imul rfl ?_
    refine ev_bk 1 (S' := (97, [some (.ref 22), some (.ref a1), some (.ref a2), some (vI x3), some (vI x4), some (vI x5), some (vI x6), some (vI x7), some (vI ((w32 x5 / ((2 : Int) ^ (x7 % 32).toNat)) % 2))], [vI ((w32 x5 / ((2 : Int) ^ (x7 % 32).toNat)) % 2), vI (x6 * 2)], hp S1, 0, 0)) rfl ?_
    refine mv_iadd rfl ?_
    refine ev_bk 1 (S' := (100, [some (.ref 22), some (.ref a1), some (.ref a2), some (vI x3), some (vI x4), some (vI x5), some (vI ((x6 * 2) + ((w32 x5 / ((2 : Int) ^ (x7 % 32).toNat)) % 2))), some (vI x7), some (vI ((w32 x5 / ((2 : Int) ^ (x7 % 32).toNat)) % 2))], [], hp S1, 0, 0)) rfl ?_
    refine mv_inc (lv' := [some (.ref 22), some (.ref a1), some (.ref a2), some (vI x3), some (vI x4), some (vI x5), some (vI ((x6 * 2) + ((w32 x5 / ((2 : Int) ^ (x7 % 32).toNat)) % 2))), some (vI (x7 - 1)), some (vI ((w32 x5 / ((2 : Int) ^ (x7 % 32).toNat)) % 2))]) 7 (-1) rfl rfl rfl (by omega) ?_
    refine mv_goto 62 rfl rfl ?_
    exact ev_wk (le_s (le_s (le_s (le_s (le_s (le_s (le_s (le_s (le_n le_0))))))))) F
theorem vc_Plain_packBit {q : Nat × (Nat → Int32)} {S S' : ms} {r : Option Value} (x1 x2 : Int) (a3 na3 : Nat) (ha3 : isRow a3 na3)
    (F : (0 ≤ w32 x1 ∧ w32 x1 < (65536 : Nat)) ∧ ((¬ w32 x2 = 0) → ∀ S2 : ms, S2 = wJ S 22 6 (S.2.1 22 6 + (((S.2.1 22 7) % 18446744073709551616 / 2048) * (w32 (S.1 28 (w32 x1))))) → ∀ S3 : ms, S3 = wJ S2 22 7 ((S2.2.1 22 7) - (((S.2.1 22 7) % 18446744073709551616 / 2048) * (w32 (S.1 28 (w32 x1))))) → EV q 109 52 [some (.ref 22), some (vI x1), some (vI x2), some (.ref a3), some (vL (((S.2.1 22 7) % 18446744073709551616 / 2048) * (w32 (S.1 28 (w32 x1))))), none, none] [] S3 r S') ∧ ((¬ (¬ w32 x2 = 0)) → ∀ S4 : ms, S4 = wJ S 22 7 (((S.2.1 22 7) % 18446744073709551616 / 2048) * (w32 (S.1 28 (w32 x1)))) → EV q 109 52 [some (.ref 22), some (vI x1), some (vI x2), some (.ref a3), some (vL (((S.2.1 22 7) % 18446744073709551616 / 2048) * (w32 (S.1 28 (w32 x1))))), none, none] [] S4 r S')) : EV q 109 0 [some (.ref 22), some (vI x1), some (vI x2), some (.ref a3), none, none, none] [] S r S' := by
  unfold EV
  refine ev_bk 1 (S' := (1, [some (.ref 22), some (vI x1), some (vI x2), some (.ref a3), none, none, none], [.ref 22], hp S, 0, 0)) rfl ?_
  refine mv_gfJ rfl rfl (sh_22) (by decide) rfl ?_
  refine ev_bk 1 (S' := (6, [some (.ref 22), some (vI x1), some (vI x2), some (.ref a3), none, none, none], [vI 11, vL (S.2.1 22 7)], hp S, 0, 0)) rfl ?_
  refine mv_lushr 2048 rfl rfl ?_
  refine ev_bk 1 (S' := (8, [some (.ref 22), some (vI x1), some (vI x2), some (.ref a3), none, none, none], [.ref 22, vL ((S.2.1 22 7) % 18446744073709551616 / 2048)], hp S, 0, 0)) rfl ?_
  refine mv_gfR rfl rfl (sh_22) (by decide) rfl ?_
  refine ev_bk 1 (S' := (12, [some (.ref 22), some (vI x1), some (vI x2), some (.ref a3), none, none, none], [vI x1, .ref 28, vL ((S.2.1 22 7) % 18446744073709551616 / 2048)], hp S, 0, 0)) rfl ?_
  obtain ⟨b1, F⟩ := F
  refine mv_ial rfl (sh_28) b1 ?_
  refine mv_i2l rfl ?_
  refine mv_lmul rfl ?_
  refine ev_bk 2 (S' := (18, [some (.ref 22), some (vI x1), some (vI x2), some (.ref a3), some (vL (((S.2.1 22 7) % 18446744073709551616 / 2048) * (w32 (S.1 28 (w32 x1))))), none, none], [vI x2], hp S, 0, 0)) rfl ?_
  refine mv_if 30 rfl rfl (fun c => ?_) (fun c => ?_)
  · have F := F.1 c
    refine ev_bk 2 (S' := (32, [some (.ref 22), some (vI x1), some (vI x2), some (.ref a3), some (vL (((S.2.1 22 7) % 18446744073709551616 / 2048) * (w32 (S.1 28 (w32 x1))))), none, none], [.ref 22, .ref 22], hp S, 0, 0)) rfl ?_
    refine mv_gfJ rfl rfl (sh_22) (by decide) rfl ?_
    refine ev_bk 1 (S' := (37, [some (.ref 22), some (vI x1), some (vI x2), some (.ref a3), some (vL (((S.2.1 22 7) % 18446744073709551616 / 2048) * (w32 (S.1 28 (w32 x1))))), none, none], [vL (((S.2.1 22 7) % 18446744073709551616 / 2048) * (w32 (S.1 28 (w32 x1)))), vL (S.2.1 22 6), .ref 22], hp S, 0, 0)) rfl ?_
    refine mv_ladd rfl ?_
    refine mv_pfJ rfl rfl (sh_22) (by decide) rfl rfl ?_
    have F := F _ rfl
    refine ev_bk 2 (S' := (43, [some (.ref 22), some (vI x1), some (vI x2), some (.ref a3), some (vL (((S.2.1 22 7) % 18446744073709551616 / 2048) * (w32 (S.1 28 (w32 x1))))), none, none], [.ref 22, .ref 22], hp (wJ S 22 6 (S.2.1 22 6 + (((S.2.1 22 7) % 18446744073709551616 / 2048) * (w32 (S.1 28 (w32 x1)))))), 0, 0)) rfl ?_
    refine mv_gfJ rfl rfl (sh_22) (by decide) rfl ?_
    refine ev_bk 1 (S' := (48, [some (.ref 22), some (vI x1), some (vI x2), some (.ref a3), some (vL (((S.2.1 22 7) % 18446744073709551616 / 2048) * (w32 (S.1 28 (w32 x1))))), none, none], [vL (((S.2.1 22 7) % 18446744073709551616 / 2048) * (w32 (S.1 28 (w32 x1)))), vL ((wJ S 22 6 (S.2.1 22 6 + (((S.2.1 22 7) % 18446744073709551616 / 2048) * (w32 (S.1 28 (w32 x1)))))).2.1 22 7), .ref 22], hp (wJ S 22 6 (S.2.1 22 6 + (((S.2.1 22 7) % 18446744073709551616 / 2048) * (w32 (S.1 28 (w32 x1)))))), 0, 0)) rfl ?_
    refine mv_lsub rfl ?_
    refine mv_pfJ rfl rfl (sh_22) (by decide) rfl rfl ?_
    have F := F _ rfl
    exact F
  · have F := F.2 c
    refine ev_bk 2 (S' := (24, [some (.ref 22), some (vI x1), some (vI x2), some (.ref a3), some (vL (((S.2.1 22 7) % 18446744073709551616 / 2048) * (w32 (S.1 28 (w32 x1))))), none, none], [vL (((S.2.1 22 7) % 18446744073709551616 / 2048) * (w32 (S.1 28 (w32 x1)))), .ref 22], hp S, 0, 0)) rfl ?_
    refine mv_pfJ rfl rfl (sh_22) (by decide) rfl rfl ?_
    have F := F _ rfl
    refine mv_goto 52 rfl rfl ?_
    exact F
theorem vc_Plain_packBit_52 {q : Nat × (Nat → Int32)} {S S' : ms} {r : Option Value} (x1 x2 x4 : Int) (a3 na3 : Nat) (ha3 : isRow a3 na3)
    (F : ∃ (S1 : ms), EV q 110 0 [some (.ref 22), some (vI x1), some (vI x2)] [] S none S1 ∧ ((w64 (S1.2.1 22 6) ≤ w64 4294967295) → EV q 109 85 [some (.ref 22), some (vI x1), some (vI x2), some (.ref a3), some (vL x4), none, none] [] S1 r S') ∧ ((¬ w64 (S1.2.1 22 6) ≤ w64 4294967295) → ∀ S3 : ms, S3 = wJ S1 22 6 ((S1.2.1 22 6) % 4294967296) → ∃ (S4 : ms), EV q 111 0 [some (.ref a3), none] [] S3 none S4 ∧ EV q 109 85 [some (.ref 22), some (vI x1), some (vI x2), some (.ref a3), some (vL x4), none, none] [] S4 r S')) : EV q 109 52 [some (.ref 22), some (vI x1), some (vI x2), some (.ref a3), some (vL x4), none, none] [] S r S' := by
  unfold EV
  refine ev_bk 3 (S' := (55, [some (.ref 22), some (vI x1), some (vI x2), some (.ref a3), some (vL x4), none, none], [vI x2, vI x1, .ref 22], hp S, 0, 0)) rfl ?_
  obtain ⟨S1, e2, F⟩ := F
  refine mv_calv (as := [vI x1, vI x2]) (rest := []) e2 (sh_22) rfl rfl rfl ⟨rfl, rfl⟩ rfl rfl rfl rfl rfl ?_
  refine ev_bk 1 (S' := (59, [some (.ref 22), some (vI x1), some (vI x2), some (.ref a3), some (vL x4), none, none], [.ref 22], hp S1, 0, 0)) rfl ?_
  refine mv_gfJ rfl rfl (sh_22) (by decide) rfl ?_
  refine ev_bk 1 (S' := (65, [some (.ref 22), some (vI x1), some (vI x2), some (.ref a3), some (vL x4), none, none], [vL 4294967295, vL (S1.2.1 22 6)], hp S1, 0, 0)) rfl ?_
  refine mv_lif 85 rfl rfl rfl (fun c => ?_) (fun c => ?_)
  · have F := F.1 c
    exact F
  · have F := F.2 c
    refine ev_bk 2 (S' := (71, [some (.ref 22), some (vI x1), some (vI x2), some (.ref a3), some (vL x4), none, none], [.ref 22, .ref 22], hp S1, 0, 0)) rfl ?_
    refine mv_gfJ rfl rfl (sh_22) (by decide) rfl ?_
    refine ev_bk 1 (S' := (77, [some (.ref 22), some (vI x1), some (vI x2), some (.ref a3), some (vL x4), none, none], [vL 4294967295, vL (S1.2.1 22 6), .ref 22], hp S1, 0, 0)) rfl ?_
    refine mv_landm 4294967296 32 (by decide) rfl rfl rfl ?_
    refine mv_pfJ rfl rfl (sh_22) (by decide) rfl rfl ?_
    have F := F _ rfl
    refine ev_bk 1 (S' := (82, [some (.ref 22), some (vI x1), some (vI x2), some (.ref a3), some (vL x4), none, none], [.ref a3], hp (wJ S1 22 6 ((S1.2.1 22 6) % 4294967296)), 0, 0)) rfl ?_
    obtain ⟨S4, e5, F⟩ := F
    refine mv_cals (as := [.ref a3]) (rest := []) e5 rfl rfl rfl ⟨rfl, rfl, rfl⟩ rfl rfl rfl rfl ?_
    exact F
theorem vc_Plain_packBit_85 {q : Nat × (Nat → Int32)} {S S' : ms} {r : Option Value} (x1 x2 x4 : Int) (a3 na3 : Nat) (ha3 : isRow a3 na3)
    (F : EV q 109 88 [some (.ref 22), some (vI x1), some (vI x2), some (.ref a3), some (vL x4), none, some (vI 0)] [] S r S') : EV q 109 85 [some (.ref 22), some (vI x1), some (vI x2), some (.ref a3), some (vL x4), none, none] [] S r S' := by
  unfold EV
  refine ev_bk 2 (S' := (88, [some (.ref 22), some (vI x1), some (vI x2), some (.ref a3), some (vL x4), none, some (vI 0)], [], hp S, 0, 0)) rfl ?_
  exact F
theorem vc_Plain_packBit_88 {q : Nat × (Nat → Int32)} {S S' : ms} {r : Option Value} (x1 x2 x4 x6 : Int) (a3 na3 : Nat) (ha3 : isRow a3 na3)
    (F : ((4 ≤ w32 x6) → r = none ∧ S' = S) ∧ ((¬ 4 ≤ w32 x6) → ((w64 16777216 ≤ w64 (S.2.1 22 7)) → r = none ∧ S' = S) ∧ ((¬ w64 16777216 ≤ w64 (S.2.1 22 7)) → ∃ (S1 : ms), EV q 19 0 [some (.ref a3), some (vI ((S.2.1 22 6) % 18446744073709551616 / 16777216))] [] S none S1 ∧ ∀ S3 : ms, S3 = wJ S1 22 6 (((S1.2.1 22 6) * 256) % 4294967296) → ∀ S4 : ms, S4 = wJ S3 22 7 ((S3.2.1 22 7) * 256) → EV q 109 88 [some (.ref 22), some (vI x1), some (vI x2), some (.ref a3), some (vL x4), none, some (vI (x6 + 1))] [] S4 r S'))) : EV q 109 88 [some (.ref 22), some (vI x1), some (vI x2), some (.ref a3), some (vL x4), none, some (vI x6)] [] S r S' := by
  unfold EV
  refine ev_bk 2 (S' := (91, [some (.ref 22), some (vI x1), some (vI x2), some (.ref a3), some (vL x4), none, some (vI x6)], [vI 4, vI x6], hp S, 0, 0)) rfl ?_
  refine mv_icmp 149 rfl rfl (fun c => ?_) (fun c => ?_)
  · have F := F.1 c
    obtain ⟨rfl, rfl⟩ := F
    exact ev_ret rfl rfl
  · have F := F.2 c
    refine ev_bk 1 (S' := (95, [some (.ref 22), some (vI x1), some (vI x2), some (.ref a3), some (vL x4), none, some (vI x6)], [.ref 22], hp S, 0, 0)) rfl ?_
    refine mv_gfJ rfl rfl (sh_22) (by decide) rfl ?_
    refine ev_bk 1 (S' := (101, [some (.ref 22), some (vI x1), some (vI x2), some (.ref a3), some (vL x4), none, some (vI x6)], [vL 16777216, vL (S.2.1 22 7)], hp S, 0, 0)) rfl ?_
    refine mv_lif 149 rfl rfl rfl (fun c => ?_) (fun c => ?_)
    · have F := F.1 c
      obtain ⟨rfl, rfl⟩ := F
      exact ev_ret rfl rfl
    · have F := F.2 c
      refine ev_bk 2 (S' := (107, [some (.ref 22), some (vI x1), some (vI x2), some (.ref a3), some (vL x4), none, some (vI x6)], [.ref 22, .ref a3], hp S, 0, 0)) rfl ?_
      refine mv_gfJ rfl rfl (sh_22) (by decide) rfl ?_
      refine ev_bk 1 (S' := (112, [some (.ref 22), some (vI x1), some (vI x2), some (.ref a3), some (vL x4), none, some (vI x6)], [vI 24, vL (S.2.1 22 6), .ref a3], hp S, 0, 0)) rfl ?_
      refine mv_lushr 16777216 rfl rfl ?_
      refine mv_l2i rfl ?_
      obtain ⟨S1, e2, F⟩ := F
      refine mv_calv (as := [vI ((S.2.1 22 6) % 18446744073709551616 / 16777216)]) (rest := []) e2 (ha3.1) rfl rfl rfl ⟨rfl, rfl⟩ rfl rfl rfl rfl rfl ?_
      refine ev_bk 2 (S' := (119, [some (.ref 22), some (vI x1), some (vI x2), some (.ref a3), some (vL x4), none, some (vI x6)], [.ref 22, .ref 22], hp S1, 0, 0)) rfl ?_
      refine mv_gfJ rfl rfl (sh_22) (by decide) rfl ?_
      refine ev_bk 1 (S' := (124, [some (.ref 22), some (vI x1), some (vI x2), some (.ref a3), some (vL x4), none, some (vI x6)], [vI 8, vL (S1.2.1 22 6), .ref 22], hp S1, 0, 0)) rfl ?_
      refine mv_lshl 256 rfl rfl ?_
      refine ev_bk 1 (S' := (128, [some (.ref 22), some (vI x1), some (vI x2), some (.ref a3), some (vL x4), none, some (vI x6)], [vL 4294967295, vL ((S1.2.1 22 6) * 256), .ref 22], hp S1, 0, 0)) rfl ?_
      refine mv_landm 4294967296 32 (by decide) rfl rfl rfl ?_
      refine mv_pfJ rfl rfl (sh_22) (by decide) rfl rfl ?_
      have F := F _ rfl
      refine ev_bk 2 (S' := (134, [some (.ref 22), some (vI x1), some (vI x2), some (.ref a3), some (vL x4), none, some (vI x6)], [.ref 22, .ref 22], hp (wJ S1 22 6 (((S1.2.1 22 6) * 256) % 4294967296)), 0, 0)) rfl ?_
      refine mv_gfJ rfl rfl (sh_22) (by decide) rfl ?_
      refine ev_bk 1 (S' := (139, [some (.ref 22), some (vI x1), some (vI x2), some (.ref a3), some (vL x4), none, some (vI x6)], [vI 8, vL ((wJ S1 22 6 (((S1.2.1 22 6) * 256) % 4294967296)).2.1 22 7), .ref 22], hp (wJ S1 22 6 (((S1.2.1 22 6) * 256) % 4294967296)), 0, 0)) rfl ?_
      refine mv_lshl 256 rfl rfl ?_
      refine mv_pfJ rfl rfl (sh_22) (by decide) rfl rfl ?_
      have F := F _ rfl
      refine mv_inc (lv' := [some (.ref 22), some (vI x1), some (vI x2), some (.ref a3), some (vL x4), none, some (vI (x6 + 1))]) 6 1 rfl rfl rfl rfl ?_
      refine mv_goto 88 rfl rfl ?_
      exact F
theorem vc_Plain_moveOdds {q : Nat × (Nat → Int32)} {S S' : ms} {r : Option Value} (x1 x2 : Int)
    (F : ((¬ w32 x2 = 0) → (0 ≤ w32 x1 ∧ w32 x1 < (65536 : Nat)) ∧ (0 ≤ w32 x1 ∧ w32 x1 < (65536 : Nat)) ∧ (0 ≤ w32 x1 ∧ w32 x1 < (65536 : Nat)) ∧ ∀ S4 : ms, S4 = wI S 28 (w32 x1) ((S.1 28 (w32 x1)) - (Int.tdiv (w32 (S.1 28 (w32 x1))) (w32 32))) → r = none ∧ S' = S4) ∧ ((¬ (¬ w32 x2 = 0)) → (0 ≤ w32 x1 ∧ w32 x1 < (65536 : Nat)) ∧ (0 ≤ w32 x1 ∧ w32 x1 < (65536 : Nat)) ∧ (0 ≤ w32 x1 ∧ w32 x1 < (65536 : Nat)) ∧ ∀ S8 : ms, S8 = wI S 28 (w32 x1) ((S.1 28 (w32 x1)) + (Int.tdiv (w32 (2048 - (S.1 28 (w32 x1)))) (w32 32))) → r = none ∧ S' = S8)) : EV q 110 0 [some (.ref 22), some (vI x1), some (vI x2)] [] S r S' := by
  unfold EV
  refine ev_bk 1 (S' := (1, [some (.ref 22), some (vI x1), some (vI x2)], [vI x2], hp S, 0, 0)) rfl ?_
  refine mv_if 29 rfl rfl (fun c => ?_) (fun c => ?_)
  · have F := F.1 c
    refine ev_bk 1 (S' := (30, [some (.ref 22), some (vI x1), some (vI x2)], [.ref 22], hp S, 0, 0)) rfl ?_
    refine mv_gfR rfl rfl (sh_22) (by decide) rfl ?_
    refine ev_bk 2 (S' := (35, [some (.ref 22), some (vI x1), some (vI x2)], [vI x1, .ref 28, vI x1, .ref 28], hp S, 0, 0)) rfl ?_
    obtain ⟨b1, F⟩ := F
    refine mv_ial rfl (sh_28) b1 ?_
    refine ev_bk 1 (S' := (37, [some (.ref 22), some (vI x1), some (vI x2)], [.ref 22, vI (S.1 28 (w32 x1)), vI x1, .ref 28], hp S, 0, 0)) rfl ?_
    refine mv_gfR rfl rfl (sh_22) (by decide) rfl ?_
    refine ev_bk 1 (S' := (41, [some (.ref 22), some (vI x1), some (vI x2)], [vI x1, .ref 28, vI (S.1 28 (w32 x1)), vI x1, .ref 28], hp S, 0, 0)) rfl ?_
    obtain ⟨b2, F⟩ := F
    refine mv_ial rfl (sh_28) b2 ?_
    refine ev_bk 1 (S' := (44, [some (.ref 22), some (vI x1), some (vI x2)], [vI 32, vI (S.1 28 (w32 x1)), vI (S.1 28 (w32 x1)), vI x1, .ref 28], hp S, 0, 0)) rfl ?_
    refine mv_idiv (by decide) rfl ?_
    refine mv_isub rfl ?_
    obtain ⟨b3, F⟩ := F
    refine mv_ias rfl (sh_28) b3 ?_
    have F := F _ rfl
    obtain ⟨rfl, rfl⟩ := F
    exact ev_ret rfl rfl
  · have F := F.2 c
    refine ev_bk 1 (S' := (5, [some (.ref 22), some (vI x1), some (vI x2)], [.ref 22], hp S, 0, 0)) rfl ?_
    refine mv_gfR rfl rfl (sh_22) (by decide) rfl ?_
    refine ev_bk 2 (S' := (10, [some (.ref 22), some (vI x1), some (vI x2)], [vI x1, .ref 28, vI x1, .ref 28], hp S, 0, 0)) rfl ?_
    obtain ⟨b5, F⟩ := F
    refine mv_ial rfl (sh_28) b5 ?_
    refine ev_bk 2 (S' := (15, [some (.ref 22), some (vI x1), some (vI x2)], [.ref 22, vI 2048, vI (S.1 28 (w32 x1)), vI x1, .ref 28], hp S, 0, 0)) rfl ?_
    refine mv_gfR rfl rfl (sh_22) (by decide) rfl ?_
    refine ev_bk 1 (S' := (19, [some (.ref 22), some (vI x1), some (vI x2)], [vI x1, .ref 28, vI 2048, vI (S.1 28 (w32 x1)), vI x1, .ref 28], hp S, 0, 0)) rfl ?_
    obtain ⟨b6, F⟩ := F
    refine mv_ial rfl (sh_28) b6 ?_
    refine mv_isub rfl ?_
    refine ev_bk 1 (S' := (23, [some (.ref 22), some (vI x1), some (vI x2)], [vI 32, vI (2048 - (S.1 28 (w32 x1))), vI (S.1 28 (w32 x1)), vI x1, .ref 28], hp S, 0, 0)) rfl ?_
    refine mv_idiv (by decide) rfl ?_
    refine mv_iadd rfl ?_
    obtain ⟨b7, F⟩ := F
    refine mv_ias rfl (sh_28) b7 ?_
    have F := F _ rfl
    refine mv_goto 47 rfl rfl ?_
    obtain ⟨rfl, rfl⟩ := F
    exact ev_ret rfl rfl
theorem vc_Plain_carry {q : Nat × (Nat → Int32)} {S S' : ms} {r : Option Value} (a0 na0 : Nat) (ha0 : isRow a0 na0)
    (F : EV q 111 7 [some (.ref a0), some (vI ((S.1 a0 1) - 1))] [] S r S') : EV q 111 0 [some (.ref a0), none] [] S r S' := by
  unfold EV
  refine ev_bk 1 (S' := (1, [some (.ref a0), none], [.ref a0], hp S, 0, 0)) rfl ?_
  refine mv_gfI rfl rfl (ha0.1) (by decide) rfl ?_
  refine ev_bk 1 (S' := (5, [some (.ref a0), none], [vI 1, vI (S.1 a0 1)], hp S, 0, 0)) rfl ?_
  refine mv_isub rfl ?_
  refine ev_bk 1 (S' := (7, [some (.ref a0), some (vI ((S.1 a0 1) - 1))], [], hp S, 0, 0)) rfl ?_
  exact F
theorem vc_Plain_carry_7 {q : Nat × (Nat → Int32)} {S S' : ms} {r : Option Value} (x1 : Int) (a0 na0 : Nat) (ha0 : isRow a0 na0)
    (F : ((w32 x1 ≤ 2) → EV q 111 37 [some (.ref a0), some (vI x1)] [] S r S') ∧ ((¬ w32 x1 ≤ 2) → (0 ≤ w32 x1 ∧ w32 x1 < (na0 : Nat)) ∧ ((¬ w32 (S.1 (a0 + 1) (w32 x1)) = 255) → EV q 111 37 [some (.ref a0), some (vI x1)] [] S r S') ∧ ((¬ (¬ w32 (S.1 (a0 + 1) (w32 x1)) = 255)) → (0 ≤ w32 x1 ∧ w32 x1 < (na0 : Nat)) ∧ ∀ S3 : ms, S3 = wI S (a0 + 1) (w32 x1) 0 → EV q 111 7 [some (.ref a0), some (vI (x1 - 1))] [] S3 r S'))) : EV q 111 7 [some (.ref a0), some (vI x1)] [] S r S' := by
  unfold EV
  refine ev_bk 2 (S' := (9, [some (.ref a0), some (vI x1)], [vI 2, vI x1], hp S, 0, 0)) rfl ?_
  refine mv_icmp 37 rfl rfl (fun c => ?_) (fun c => ?_)
  · have F := F.1 c
    exact F
  · have F := F.2 c
    refine ev_bk 1 (S' := (13, [some (.ref a0), some (vI x1)], [.ref a0], hp S, 0, 0)) rfl ?_
    refine mv_gfR rfl rfl (ha0.1) (by decide) rfl ?_
    refine ev_bk 1 (S' := (17, [some (.ref a0), some (vI x1)], [vI x1, .ref (a0 + 1)], hp S, 0, 0)) rfl ?_
    obtain ⟨b1, F⟩ := F
    refine mv_ial rfl (ha0.2) b1 ?_
    refine ev_bk 1 (S' := (21, [some (.ref a0), some (vI x1)], [vI 255, vI (S.1 (a0 + 1) (w32 x1))], hp S, 0, 0)) rfl ?_
    refine mv_icmp 37 rfl rfl (fun c => ?_) (fun c => ?_)
    · have F := F.1 c
      exact F
    · have F := F.2 c
      refine ev_bk 1 (S' := (25, [some (.ref a0), some (vI x1)], [.ref a0], hp S, 0, 0)) rfl ?_
      refine mv_gfR rfl rfl (ha0.1) (by decide) rfl ?_
      refine ev_bk 2 (S' := (30, [some (.ref a0), some (vI x1)], [vI 0, vI x1, .ref (a0 + 1)], hp S, 0, 0)) rfl ?_
      obtain ⟨b2, F⟩ := F
      refine mv_ias rfl (ha0.2) b2 ?_
      have F := F _ rfl
      refine mv_inc (lv' := [some (.ref a0), some (vI (x1 - 1))]) 1 (-1) rfl rfl rfl (by omega) ?_
      refine mv_goto 7 rfl rfl ?_
      exact F
theorem vc_Plain_carry_37 {q : Nat × (Nat → Int32)} {S S' : ms} {r : Option Value} (x1 : Int) (a0 na0 : Nat) (ha0 : isRow a0 na0)
    (F : ((w32 x1 < 2) → r = none ∧ S' = S) ∧ ((¬ w32 x1 < 2) → (0 ≤ w32 x1 ∧ w32 x1 < (na0 : Nat)) ∧ (0 ≤ w32 x1 ∧ w32 x1 < (na0 : Nat)) ∧ ∀ S3 : ms, S3 = wI S (a0 + 1) (w32 x1) (((S.1 (a0 + 1) (w32 x1)) + 1) % 256) → r = none ∧ S' = S3)) : EV q 111 37 [some (.ref a0), some (vI x1)] [] S r S' := by
  unfold EV
  refine ev_bk 2 (S' := (39, [some (.ref a0), some (vI x1)], [vI 2, vI x1], hp S, 0, 0)) rfl ?_
  refine mv_icmp 60 rfl rfl (fun c => ?_) (fun c => ?_)
  · have F := F.1 c
    obtain ⟨rfl, rfl⟩ := F
    exact ev_ret rfl rfl
  · have F := F.2 c
    refine ev_bk 1 (S' := (43, [some (.ref a0), some (vI x1)], [.ref a0], hp S, 0, 0)) rfl ?_
    refine mv_gfR rfl rfl (ha0.1) (by decide) rfl ?_
    refine ev_bk 2 (S' := (48, [some (.ref a0), some (vI x1)], [.ref a0, vI x1, .ref (a0 + 1)], hp S, 0, 0)) rfl ?_
    refine mv_gfR rfl rfl (ha0.1) (by decide) rfl ?_
    refine ev_bk 1 (S' := (52, [some (.ref a0), some (vI x1)], [vI x1, .ref (a0 + 1), vI x1, .ref (a0 + 1)], hp S, 0, 0)) rfl ?_
    obtain ⟨b1, F⟩ := F
    refine mv_ial rfl (ha0.2) b1 ?_
    refine ev_bk 1 (S' := (54, [some (.ref a0), some (vI x1)], [vI 1, vI (S.1 (a0 + 1) (w32 x1)), vI x1, .ref (a0 + 1)], hp S, 0, 0)) rfl ?_
    refine mv_iadd rfl ?_
    refine ev_bk 1 (S' := (58, [some (.ref a0), some (vI x1)], [vI 255, vI ((S.1 (a0 + 1) (w32 x1)) + 1), vI x1, .ref (a0 + 1)], hp S, 0, 0)) rfl ?_
    refine mv_iandm 256 8 (by decide) rfl rfl rfl ?_
    obtain ⟨b2, F⟩ := F
    refine mv_ias rfl (ha0.2) b2 ?_
    have F := F _ rfl
    obtain ⟨rfl, rfl⟩ := F
    exact ev_ret rfl rfl
theorem vc_Finder_keepTokens {q : Nat × (Nat → Int32)} {S S' : ms} {r : Option Value}
    (F : ∀ S1 : ms, S1 = wI S 10 12 (S.1 10 8) → (0 ≤ w32 0 ∧ 0 ≤ w32 0 ∧ 0 ≤ w32 (S1.1 10 8) ∧ w32 0 + w32 (S1.1 10 8) ≤ (6000 : Nat) ∧ w32 0 + w32 (S1.1 10 8) ≤ (6000 : Nat)) ∧ ∀ S3 : ms, S3 = wC S1 16 (w32 0) (w32 (S1.1 10 8)) (fun k => S1.1 13 (w32 0 + k)) → (0 ≤ w32 0 ∧ 0 ≤ w32 0 ∧ 0 ≤ w32 (S3.1 10 8) ∧ w32 0 + w32 (S3.1 10 8) ≤ (6000 : Nat) ∧ w32 0 + w32 (S3.1 10 8) ≤ (6000 : Nat)) ∧ ∀ S5 : ms, S5 = wC S3 17 (w32 0) (w32 (S3.1 10 8)) (fun k => S3.1 14 (w32 0 + k)) → (0 ≤ w32 0 ∧ 0 ≤ w32 0 ∧ 0 ≤ w32 (S5.1 10 8) ∧ w32 0 + w32 (S5.1 10 8) ≤ (6000 : Nat) ∧ w32 0 + w32 (S5.1 10 8) ≤ (6000 : Nat)) ∧ ∀ S7 : ms, S7 = wC S5 18 (w32 0) (w32 (S5.1 10 8)) (fun k => S5.1 15 (w32 0 + k)) → r = none ∧ S' = S7) : EV q 113 0 [some (.ref 10)] [] S r S' := by
  unfold EV
  refine ev_bk 2 (S' := (2, [some (.ref 10)], [.ref 10, .ref 10], hp S, 0, 0)) rfl ?_
  refine mv_gfI rfl rfl (sh_10) (by decide) rfl ?_
  refine mv_pfI rfl rfl (sh_10) (by decide) rfl rfl ?_
  have F := F _ rfl
  refine ev_bk 1 (S' := (9, [some (.ref 10)], [.ref 10], hp (wI S 10 12 (S.1 10 8)), 0, 0)) rfl ?_
  refine mv_gfR rfl rfl (sh_10) (by decide) rfl ?_
  refine ev_bk 2 (S' := (14, [some (.ref 10)], [.ref 10, vI 0, .ref 13], hp (wI S 10 12 (S.1 10 8)), 0, 0)) rfl ?_
  refine mv_gfR rfl rfl (sh_10) (by decide) rfl ?_
  refine ev_bk 2 (S' := (19, [some (.ref 10)], [.ref 10, vI 0, .ref 16, vI 0, .ref 13], hp (wI S 10 12 (S.1 10 8)), 0, 0)) rfl ?_
  refine mv_gfI rfl rfl (sh_10) (by decide) rfl ?_
  obtain ⟨b2, F⟩ := F
  refine mv_cpy rfl rfl ⟨by decide, by decide⟩ (sh_16) (sh_13) b2 ?_
  have F := F _ rfl
  refine ev_bk 1 (S' := (26, [some (.ref 10)], [.ref 10], hp (wC (wI S 10 12 (S.1 10 8)) 16 (w32 0) (w32 ((wI S 10 12 (S.1 10 8)).1 10 8)) (fun k => (wI S 10 12 (S.1 10 8)).1 13 (w32 0 + k))), 0, 0)) rfl ?_
  refine mv_gfR rfl rfl (sh_10) (by decide) rfl ?_
  refine ev_bk 2 (S' := (31, [some (.ref 10)], [.ref 10, vI 0, .ref 14], hp (wC (wI S 10 12 (S.1 10 8)) 16 (w32 0) (w32 ((wI S 10 12 (S.1 10 8)).1 10 8)) (fun k => (wI S 10 12 (S.1 10 8)).1 13 (w32 0 + k))), 0, 0)) rfl ?_
  refine mv_gfR rfl rfl (sh_10) (by decide) rfl ?_
  refine ev_bk 2 (S' := (36, [some (.ref 10)], [.ref 10, vI 0, .ref 17, vI 0, .ref 14], hp (wC (wI S 10 12 (S.1 10 8)) 16 (w32 0) (w32 ((wI S 10 12 (S.1 10 8)).1 10 8)) (fun k => (wI S 10 12 (S.1 10 8)).1 13 (w32 0 + k))), 0, 0)) rfl ?_
  refine mv_gfI rfl rfl (sh_10) (by decide) rfl ?_
  obtain ⟨b4, F⟩ := F
  refine mv_cpy rfl rfl ⟨by decide, by decide⟩ (sh_17) (sh_14) b4 ?_
  have F := F _ rfl
  refine ev_bk 1 (S' := (43, [some (.ref 10)], [.ref 10], hp (wC (wC (wI S 10 12 (S.1 10 8)) 16 (w32 0) (w32 ((wI S 10 12 (S.1 10 8)).1 10 8)) (fun k => (wI S 10 12 (S.1 10 8)).1 13 (w32 0 + k))) 17 (w32 0) (w32 ((wC (wI S 10 12 (S.1 10 8)) 16 (w32 0) (w32 ((wI S 10 12 (S.1 10 8)).1 10 8)) (fun k => (wI S 10 12 (S.1 10 8)).1 13 (w32 0 + k))).1 10 8)) (fun k => (wC (wI S 10 12 (S.1 10 8)) 16 (w32 0) (w32 ((wI S 10 12 (S.1 10 8)).1 10 8)) (fun k => (wI S 10 12 (S.1 10 8)).1 13 (w32 0 + k))).1 14 (w32 0 + k))), 0, 0)) rfl ?_
  refine mv_gfR rfl rfl (sh_10) (by decide) rfl ?_
  refine ev_bk 2 (S' := (48, [some (.ref 10)], [.ref 10, vI 0, .ref 15], hp (wC (wC (wI S 10 12 (S.1 10 8)) 16 (w32 0) (w32 ((wI S 10 12 (S.1 10 8)).1 10 8)) (fun k => (wI S 10 12 (S.1 10 8)).1 13 (w32 0 + k))) 17 (w32 0) (w32 ((wC (wI S 10 12 (S.1 10 8)) 16 (w32 0) (w32 ((wI S 10 12 (S.1 10 8)).1 10 8)) (fun k => (wI S 10 12 (S.1 10 8)).1 13 (w32 0 + k))).1 10 8)) (fun k => (wC (wI S 10 12 (S.1 10 8)) 16 (w32 0) (w32 ((wI S 10 12 (S.1 10 8)).1 10 8)) (fun k => (wI S 10 12 (S.1 10 8)).1 13 (w32 0 + k))).1 14 (w32 0 + k))), 0, 0)) rfl ?_
  refine mv_gfR rfl rfl (sh_10) (by decide) rfl ?_
  refine ev_bk 2 (S' := (53, [some (.ref 10)], [.ref 10, vI 0, .ref 18, vI 0, .ref 15], hp (wC (wC (wI S 10 12 (S.1 10 8)) 16 (w32 0) (w32 ((wI S 10 12 (S.1 10 8)).1 10 8)) (fun k => (wI S 10 12 (S.1 10 8)).1 13 (w32 0 + k))) 17 (w32 0) (w32 ((wC (wI S 10 12 (S.1 10 8)) 16 (w32 0) (w32 ((wI S 10 12 (S.1 10 8)).1 10 8)) (fun k => (wI S 10 12 (S.1 10 8)).1 13 (w32 0 + k))).1 10 8)) (fun k => (wC (wI S 10 12 (S.1 10 8)) 16 (w32 0) (w32 ((wI S 10 12 (S.1 10 8)).1 10 8)) (fun k => (wI S 10 12 (S.1 10 8)).1 13 (w32 0 + k))).1 14 (w32 0 + k))), 0, 0)) rfl ?_
  refine mv_gfI rfl rfl (sh_10) (by decide) rfl ?_
  obtain ⟨b6, F⟩ := F
  refine mv_cpy rfl rfl ⟨by decide, by decide⟩ (sh_18) (sh_15) b6 ?_
  have F := F _ rfl
  obtain ⟨rfl, rfl⟩ := F
  exact ev_ret rfl rfl
theorem vc_Plain_openRuns {q : Nat × (Nat → Int32)} {S S' : ms} {r : Option Value}
    (F : EV q 117 2 [some (.ref 22), some (.ref 9), some (vI 0), none] [] S r S') : EV q 117 0 [some (.ref 22), some (.ref 9), none, none] [] S r S' := by
  unfold EV
  refine ev_bk 2 (S' := (2, [some (.ref 22), some (.ref 9), some (vI 0), none], [], hp S, 0, 0)) rfl ?_
  exact F
theorem vc_Plain_openRuns_2 {q : Nat × (Nat → Int32)} {S S' : ms} {r : Option Value} (x2 : Int)
    (F : ((1000000 ≤ w32 x2) → r = none ∧ S' = S) ∧ ((¬ 1000000 ≤ w32 x2) → ((¬ w32 (S.1 9 5) = 0) → r = none ∧ S' = S) ∧ ((¬ (¬ w32 (S.1 9 5) = 0)) → ((w32 (S.1 9 2) ≤ w32 (S.1 9 3)) → r = none ∧ S' = S) ∧ ((¬ w32 (S.1 9 2) ≤ w32 (S.1 9 3)) → ∃ (z3 : Int) (S1 : ms), EV q 118 0 [some (.ref 9)] [] S (some (vI z3)) S1 ∧ ((128 ≤ w32 z3) → ((w32 z3 ≤ 128) → EV q 117 69 [some (.ref 22), some (.ref 9), some (vI x2), some (vI z3)] [] S1 r S') ∧ ((¬ w32 z3 ≤ 128) → ∃ (z6 : Int) (S4 : ms), EV q 118 0 [some (.ref 9)] [] S1 (some (vI z6)) S4 ∧ ∃ (S7 : ms), EV q 121 0 [some (.ref 9), some (vI z6), some (vI (257 - z3)), none] [] S4 none S7 ∧ EV q 117 69 [some (.ref 22), some (.ref 9), some (vI x2), some (vI z3)] [] S7 r S')) ∧ ((¬ 128 ≤ w32 z3) → ∃ (S9 : ms), EV q 119 0 [some (.ref 9), some (vL (w32 (z3 + 1))), none, none, none] [] S1 none S9 ∧ EV q 117 69 [some (.ref 22), some (.ref 9), some (vI x2), some (vI z3)] [] S9 r S'))))) : EV q 117 2 [some (.ref 22), some (.ref 9), some (vI x2), none] [] S r S' := by
  unfold EV
  refine ev_bk 2 (S' := (5, [some (.ref 22), some (.ref 9), some (vI x2), none], [vI 1000000, vI x2], hp S, 0, 0)) rfl ?_
  refine mv_icmp 75 rfl rfl (fun c => ?_) (fun c => ?_)
  · have F := F.1 c
    obtain ⟨rfl, rfl⟩ := F
    exact ev_ret rfl rfl
  · have F := F.2 c
    refine ev_bk 1 (S' := (9, [some (.ref 22), some (.ref 9), some (vI x2), none], [.ref 9], hp S, 0, 0)) rfl ?_
    refine mv_gfI rfl rfl (sh_9) (by decide) rfl ?_
    refine mv_if 75 rfl rfl (fun c => ?_) (fun c => ?_)
    · have F := F.1 c
      obtain ⟨rfl, rfl⟩ := F
      exact ev_ret rfl rfl
    · have F := F.2 c
      refine ev_bk 1 (S' := (16, [some (.ref 22), some (.ref 9), some (vI x2), none], [.ref 9], hp S, 0, 0)) rfl ?_
      refine mv_gfI rfl rfl (sh_9) (by decide) rfl ?_
      refine ev_bk 1 (S' := (20, [some (.ref 22), some (.ref 9), some (vI x2), none], [.ref 9, vI (S.1 9 3)], hp S, 0, 0)) rfl ?_
      refine mv_gfI rfl rfl (sh_9) (by decide) rfl ?_
      refine mv_icmp 75 rfl rfl (fun c => ?_) (fun c => ?_)
      · have F := F.1 c
        obtain ⟨rfl, rfl⟩ := F
        exact ev_ret rfl rfl
      · have F := F.2 c
        refine ev_bk 1 (S' := (27, [some (.ref 22), some (.ref 9), some (vI x2), none], [.ref 9], hp S, 0, 0)) rfl ?_
        obtain ⟨z3, S1, e2, F⟩ := F
        refine mv_calv (as := []) (rest := []) e2 (sh_9) rfl rfl rfl ⟨rfl, rfl⟩ rfl rfl rfl rfl rfl ?_
        refine ev_bk 3 (S' := (35, [some (.ref 22), some (.ref 9), some (vI x2), some (vI z3)], [vI 128, vI z3], hp S1, 0, 0)) rfl ?_
        refine mv_icmp 49 rfl rfl (fun c => ?_) (fun c => ?_)
        · have F := F.1 c
          refine ev_bk 2 (S' := (53, [some (.ref 22), some (.ref 9), some (vI x2), some (vI z3)], [vI 128, vI z3], hp S1, 0, 0)) rfl ?_
          refine mv_icmp 69 rfl rfl (fun c => ?_) (fun c => ?_)
          · have F := F.1 c
            exact F
          · have F := F.2 c
            refine ev_bk 2 (S' := (58, [some (.ref 22), some (.ref 9), some (vI x2), some (vI z3)], [.ref 9, .ref 9], hp S1, 0, 0)) rfl ?_
            obtain ⟨z6, S4, e5, F⟩ := F
            refine mv_calv (as := []) (rest := [.ref 9]) e5 (sh_9) rfl rfl rfl ⟨rfl, rfl⟩ rfl rfl rfl rfl rfl ?_
            refine ev_bk 2 (S' := (65, [some (.ref 22), some (.ref 9), some (vI x2), some (vI z3)], [vI z3, vI 257, vI z6, .ref 9], hp S4, 0, 0)) rfl ?_
            refine mv_isub rfl ?_
            obtain ⟨S7, e8, F⟩ := F
            refine mv_calv (as := [vI z6, vI (257 - z3)]) (rest := []) e8 (sh_9) rfl rfl rfl ⟨rfl, rfl⟩ rfl rfl rfl rfl rfl ?_
            exact F
        · have F := F.2 c
          refine ev_bk 3 (S' := (41, [some (.ref 22), some (.ref 9), some (vI x2), some (vI z3)], [vI 1, vI z3, .ref 9], hp S1, 0, 0)) rfl ?_
          refine mv_iadd rfl ?_
          refine mv_i2l rfl ?_
          obtain ⟨S9, e10, F⟩ := F
          refine mv_calv (as := [vL (w32 (z3 + 1))]) (rest := []) e10 (sh_9) rfl rfl rfl ⟨rfl, rfl⟩ rfl rfl rfl rfl rfl ?_
          refine mv_goto 69 rfl rfl ?_
          exact F
theorem vc_Plain_openRuns_69 {q : Nat × (Nat → Int32)} {S S' : ms} {r : Option Value} (x2 x3 : Int)
    (F : EV q 117 2 [some (.ref 22), some (.ref 9), some (vI (x2 + 1)), none] [] S r S') : EV q 117 69 [some (.ref 22), some (.ref 9), some (vI x2), some (vI x3)] [] S r S' := by
  unfold EV
  refine mv_inc (lv' := [some (.ref 22), some (.ref 9), some (vI (x2 + 1)), some (vI x3)]) 2 1 rfl rfl rfl rfl ?_
  refine mv_goto 2 rfl rfl ?_
  exact ev_wk (le_s (le_s (le_s (le_n le_0)))) F
theorem vc_Plain_openWords {q : Nat × (Nat → Int32)} {S S' : ms} {r : Option Value}
    (F : EV q 122 7 [some (.ref 22), some (.ref 9), some (vI ((-1))), some (vI 0), some (vI 0), none, none] [] S r S') : EV q 122 0 [some (.ref 22), some (.ref 9), none, none, none, none, none] [] S r S' := by
  unfold EV
  refine ev_bk 6 (S' := (7, [some (.ref 22), some (.ref 9), some (vI ((-1))), some (vI 0), some (vI 0), none, none], [], hp S, 0, 0)) rfl ?_
  exact F
theorem vc_Plain_openWords_7 {q : Nat × (Nat → Int32)} {S S' : ms} {r : Option Value} (x2 x3 x4 : Int)
    (F : ((1000000 ≤ w32 x4) → r = none ∧ S' = S) ∧ ((¬ 1000000 ≤ w32 x4) → ((¬ w32 (S.1 9 5) = 0) → r = none ∧ S' = S) ∧ ((¬ (¬ w32 (S.1 9 5) = 0)) → ((0 ≤ w32 x2) → ∃ (z3 : Int) (S1 : ms), EV q 52 0 [some (vI x2), none] [] S (some (vI z3)) S1 ∧ EV q 122 35 [some (.ref 22), some (.ref 9), some (vI x2), some (vI x3), some (vI x4), none, none] [vI z3, .ref 9] S1 r S') ∧ ((¬ 0 ≤ w32 x2) → EV q 122 35 [some (.ref 22), some (.ref 9), some (vI x2), some (vI x3), some (vI x4), none, none] [vI 9, .ref 9] S r S')))) : EV q 122 7 [some (.ref 22), some (.ref 9), some (vI x2), some (vI x3), some (vI x4), none, none] [] S r S' := by
  unfold EV
  refine ev_bk 2 (S' := (11, [some (.ref 22), some (.ref 9), some (vI x2), some (vI x3), some (vI x4), none, none], [vI 1000000, vI x4], hp S, 0, 0)) rfl ?_
  refine mv_icmp 134 rfl rfl (fun c => ?_) (fun c => ?_)
  · have F := F.1 c
    obtain ⟨rfl, rfl⟩ := F
    exact ev_ret rfl rfl
  · have F := F.2 c
    refine ev_bk 1 (S' := (15, [some (.ref 22), some (.ref 9), some (vI x2), some (vI x3), some (vI x4), none, none], [.ref 9], hp S, 0, 0)) rfl ?_
    refine mv_gfI rfl rfl (sh_9) (by decide) rfl ?_
    refine mv_if 134 rfl rfl (fun c => ?_) (fun c => ?_)
    · have F := F.1 c
      obtain ⟨rfl, rfl⟩ := F
      exact ev_ret rfl rfl
    · have F := F.2 c
      refine ev_bk 2 (S' := (23, [some (.ref 22), some (.ref 9), some (vI x2), some (vI x3), some (vI x4), none, none], [vI x2, .ref 9], hp S, 0, 0)) rfl ?_
      refine mv_if 31 rfl rfl (fun c => ?_) (fun c => ?_)
      · have F := F.1 c
        refine ev_bk 1 (S' := (32, [some (.ref 22), some (.ref 9), some (vI x2), some (vI x3), some (vI x4), none, none], [vI x2, .ref 9], hp S, 0, 0)) rfl ?_
        obtain ⟨z3, S1, e2, F⟩ := F
        refine mv_cals (as := [vI x2]) (rest := [.ref 9]) e2 rfl rfl rfl ⟨rfl, rfl, rfl⟩ rfl rfl rfl rfl ?_
        exact F
      · have F := F.2 c
        refine ev_bk 1 (S' := (28, [some (.ref 22), some (.ref 9), some (vI x2), some (vI x3), some (vI x4), none, none], [vI 9, .ref 9], hp S, 0, 0)) rfl ?_
        refine mv_goto 35 rfl rfl ?_
        exact F
theorem vc_Plain_openWords_35 {q : Nat × (Nat → Int32)} {S S' : ms} {r : Option Value} (x2 x3 x4 y0 : Int)
    (F : ∃ (z3 : Int) (S1 : ms), EV q 123 0 [some (.ref 9), some (vI y0), none, none, none] [] S (some (vL z3)) S1 ∧ ∃ (o4 no4 : Nat), S1.2.2 9 1 = o4 ∧ isRow o4 no4 ∧ ((w32 (S1.1 9 5) = 0) → ((¬ w32 z3 = 256) → ((0 ≤ w32 x2) → ((¬ w32 z3 = 257) → ((w32 x2 ≤ 3838) → ∃ (S7 : ms), EV q 127 0 [some (.ref 22), some (.ref 9), some (vI z3), some (vI x2), some (vI x3)] [] S1 none S7 ∧ EV q 122 128 [some (.ref 22), some (.ref 9), some (vI (x2 + 1)), some (vI (S1.1 o4 1)), some (vI x4), some (vI z3), some (vI (S1.1 o4 1))] [] S7 r S') ∧ ((¬ w32 x2 ≤ 3838) → ∃ (S9 : ms), EV q 124 0 [some (.ref 9), some (vI 62)] [] S1 none S9 ∧ EV q 122 128 [some (.ref 22), some (.ref 9), some (vI x2), some (vI x3), some (vI x4), some (vI z3), some (vI (S1.1 o4 1))] [] S9 r S')) ∧ ((¬ (¬ w32 z3 = 257)) → ∃ (S11 : ms), EV q 125 0 [some (.ref 9)] [] S1 none S11 ∧ r = none ∧ S' = S11)) ∧ ((¬ 0 ≤ w32 x2) → ∃ (S13 : ms), EV q 124 0 [some (.ref 9), some (vI 60)] [] S1 none S13 ∧ EV q 122 128 [some (.ref 22), some (.ref 9), some (vI x2), some (vI x3), some (vI x4), some (vI z3), some (vI (S1.1 o4 1))] [] S13 r S')) ∧ ((¬ (¬ w32 z3 = 256)) → EV q 122 128 [some (.ref 22), some (.ref 9), some (vI 0), some (vI x3), some (vI x4), some (vI z3), some (vI (S1.1 o4 1))] [] S1 r S')) ∧ ((¬ w32 (S1.1 9 5) = 0) → r = none ∧ S' = S1)) : EV q 122 35 [some (.ref 22), some (.ref 9), some (vI x2), some (vI x3), some (vI x4), none, none] [vI y0, .ref 9] S r S' := by
  unfold EV
  obtain ⟨z3, S1, e2, F⟩ := F
  refine mv_calv (as := [vI y0]) (rest := []) e2 (sh_9) rfl rfl rfl ⟨rfl, rfl⟩ rfl rfl rfl rfl rfl ?_
  refine mv_l2i rfl ?_
  refine ev_bk 2 (S' := (42, [some (.ref 22), some (.ref 9), some (vI x2), some (vI x3), some (vI x4), some (vI z3), none], [.ref 9], hp S1, 0, 0)) rfl ?_
  obtain ⟨o4, no4, e6, h5, F⟩ := F
  refine mv_gfV rfl rfl (sh_9) (by decide) rfl e6 ?_
  refine mv_gfI rfl rfl (h5.1) (by decide) rfl ?_
  refine ev_bk 2 (S' := (51, [some (.ref 22), some (.ref 9), some (vI x2), some (vI x3), some (vI x4), some (vI z3), some (vI (S1.1 o4 1))], [.ref 9], hp S1, 0, 0)) rfl ?_
  refine mv_gfI rfl rfl (sh_9) (by decide) rfl ?_
  refine mv_if 58 rfl rfl (fun c => ?_) (fun c => ?_)
  · have F := F.1 c
    refine ev_bk 2 (S' := (63, [some (.ref 22), some (.ref 9), some (vI x2), some (vI x3), some (vI x4), some (vI z3), some (vI (S1.1 o4 1))], [vI 256, vI z3], hp S1, 0, 0)) rfl ?_
    refine mv_icmp 71 rfl rfl (fun c => ?_) (fun c => ?_)
    · have F := F.1 c
      refine ev_bk 1 (S' := (72, [some (.ref 22), some (.ref 9), some (vI x2), some (vI x3), some (vI x4), some (vI z3), some (vI (S1.1 o4 1))], [vI x2], hp S1, 0, 0)) rfl ?_
      refine mv_if 84 rfl rfl (fun c => ?_) (fun c => ?_)
      · have F := F.1 c
        refine ev_bk 2 (S' := (89, [some (.ref 22), some (.ref 9), some (vI x2), some (vI x3), some (vI x4), some (vI z3), some (vI (S1.1 o4 1))], [vI 257, vI z3], hp S1, 0, 0)) rfl ?_
        refine mv_icmp 97 rfl rfl (fun c => ?_) (fun c => ?_)
        · have F := F.1 c
          refine ev_bk 2 (S' := (101, [some (.ref 22), some (.ref 9), some (vI x2), some (vI x3), some (vI x4), some (vI z3), some (vI (S1.1 o4 1))], [vI 3838, vI x2], hp S1, 0, 0)) rfl ?_
          refine mv_icmp 113 rfl rfl (fun c => ?_) (fun c => ?_)
          · have F := F.1 c
            refine ev_bk 5 (S' := (119, [some (.ref 22), some (.ref 9), some (vI x2), some (vI x3), some (vI x4), some (vI z3), some (vI (S1.1 o4 1))], [vI x3, vI x2, vI z3, .ref 9, .ref 22], hp S1, 0, 0)) rfl ?_
            obtain ⟨S7, e8, F⟩ := F
            refine mv_calv (as := [.ref 9, vI z3, vI x2, vI x3]) (rest := []) e8 (sh_22) rfl rfl rfl ⟨rfl, rfl⟩ rfl rfl rfl rfl rfl ?_
            refine ev_bk 2 (S' := (125, [some (.ref 22), some (.ref 9), some (vI x2), some (vI (S1.1 o4 1)), some (vI x4), some (vI z3), some (vI (S1.1 o4 1))], [], hp S7, 0, 0)) rfl ?_
            refine mv_inc (lv' := [some (.ref 22), some (.ref 9), some (vI (x2 + 1)), some (vI (S1.1 o4 1)), some (vI x4), some (vI z3), some (vI (S1.1 o4 1))]) 2 1 rfl rfl rfl rfl ?_
            exact F
          · have F := F.2 c
            refine ev_bk 2 (S' := (107, [some (.ref 22), some (.ref 9), some (vI x2), some (vI x3), some (vI x4), some (vI z3), some (vI (S1.1 o4 1))], [vI 62, .ref 9], hp S1, 0, 0)) rfl ?_
            obtain ⟨S9, e10, F⟩ := F
            refine mv_calv (as := [vI 62]) (rest := []) e10 (sh_9) rfl rfl rfl ⟨rfl, rfl⟩ rfl rfl rfl rfl rfl ?_
            refine mv_goto 128 rfl rfl ?_
            exact F
        · have F := F.2 c
          refine ev_bk 1 (S' := (93, [some (.ref 22), some (.ref 9), some (vI x2), some (vI x3), some (vI x4), some (vI z3), some (vI (S1.1 o4 1))], [.ref 9], hp S1, 0, 0)) rfl ?_
          obtain ⟨S11, e12, F⟩ := F
          refine mv_calv (as := []) (rest := []) e12 (sh_9) rfl rfl rfl ⟨rfl, rfl⟩ rfl rfl rfl rfl rfl ?_
          obtain ⟨rfl, rfl⟩ := F
          exact ev_ret rfl rfl
      · have F := F.2 c
        refine ev_bk 2 (S' := (78, [some (.ref 22), some (.ref 9), some (vI x2), some (vI x3), some (vI x4), some (vI z3), some (vI (S1.1 o4 1))], [vI 60, .ref 9], hp S1, 0, 0)) rfl ?_
        obtain ⟨S13, e14, F⟩ := F
        refine mv_calv (as := [vI 60]) (rest := []) e14 (sh_9) rfl rfl rfl ⟨rfl, rfl⟩ rfl rfl rfl rfl rfl ?_
        refine mv_goto 128 rfl rfl ?_
        exact F
    · have F := F.2 c
      refine ev_bk 2 (S' := (68, [some (.ref 22), some (.ref 9), some (vI 0), some (vI x3), some (vI x4), some (vI z3), some (vI (S1.1 o4 1))], [], hp S1, 0, 0)) rfl ?_
      refine mv_goto 128 rfl rfl ?_
      exact F
  · have F := F.2 c
    obtain ⟨rfl, rfl⟩ := F
    exact ev_ret rfl rfl
theorem vc_Plain_openWords_128 {q : Nat × (Nat → Int32)} {S S' : ms} {r : Option Value} (x2 x3 x4 x5 x6 : Int)
    (F : EV q 122 7 [some (.ref 22), some (.ref 9), some (vI x2), some (vI x3), some (vI (x4 + 1)), none, none] [] S r S') : EV q 122 128 [some (.ref 22), some (.ref 9), some (vI x2), some (vI x3), some (vI x4), some (vI x5), some (vI x6)] [] S r S' := by
  unfold EV
  refine mv_inc (lv' := [some (.ref 22), some (.ref 9), some (vI x2), some (vI x3), some (vI (x4 + 1)), some (vI x5), some (vI x6)]) 4 1 rfl rfl rfl rfl ?_
  refine mv_goto 7 rfl rfl ?_
  exact ev_wk (le_s (le_s (le_s (le_s (le_s (le_n (le_n le_0))))))) F
theorem vc_Plain_openWord {q : Nat × (Nat → Int32)} {S S' : ms} {r : Option Value} (x2 x3 x4 : Int)
    (F : ((w32 x3 ≤ 0) → EV q 127 49 [some (.ref 22), some (.ref 9), some (vI x2), some (vI x3), some (vI x4)] [] S r S') ∧ ((¬ w32 x3 ≤ 0) → ((4096 ≤ w32 (257 + x3)) → EV q 127 49 [some (.ref 22), some (.ref 9), some (vI x2), some (vI x3), some (vI x4)] [] S r S') ∧ ((¬ 4096 ≤ w32 (257 + x3)) → (0 ≤ w32 (257 + x3) ∧ w32 (257 + x3) < (4096 : Nat)) ∧ ∀ S2 : ms, S2 = wI S 26 (w32 (257 + x3)) x4 → ∃ (o3 no3 : Nat), S2.2.2 9 1 = o3 ∧ isRow o3 no3 ∧ (0 ≤ w32 (257 + x3) ∧ w32 (257 + x3) < (4096 : Nat)) ∧ ∀ S7 : ms, S7 = wI S2 27 (w32 (257 + x3)) (((S2.1 o3 1) - x4) + 1) → EV q 127 49 [some (.ref 22), some (.ref 9), some (vI x2), some (vI x3), some (vI x4)] [] S7 r S'))) : EV q 127 0 [some (.ref 22), some (.ref 9), some (vI x2), some (vI x3), some (vI x4)] [] S r S' := by
  unfold EV
  refine ev_bk 1 (S' := (1, [some (.ref 22), some (.ref 9), some (vI x2), some (vI x3), some (vI x4)], [vI x3], hp S, 0, 0)) rfl ?_
  refine mv_if 49 rfl rfl (fun c => ?_) (fun c => ?_)
  · have F := F.1 c
    exact F
  · have F := F.2 c
    refine ev_bk 2 (S' := (8, [some (.ref 22), some (.ref 9), some (vI x2), some (vI x3), some (vI x4)], [vI x3, vI 257], hp S, 0, 0)) rfl ?_
    refine mv_iadd rfl ?_
    refine ev_bk 1 (S' := (12, [some (.ref 22), some (.ref 9), some (vI x2), some (vI x3), some (vI x4)], [vI 4096, vI (257 + x3)], hp S, 0, 0)) rfl ?_
    refine mv_icmp 49 rfl rfl (fun c => ?_) (fun c => ?_)
    · have F := F.1 c
      exact F
    · have F := F.2 c
      refine ev_bk 1 (S' := (16, [some (.ref 22), some (.ref 9), some (vI x2), some (vI x3), some (vI x4)], [.ref 22], hp S, 0, 0)) rfl ?_
      refine mv_gfR rfl rfl (sh_22) (by decide) rfl ?_
      refine ev_bk 2 (S' := (23, [some (.ref 22), some (.ref 9), some (vI x2), some (vI x3), some (vI x4)], [vI x3, vI 257, .ref 26], hp S, 0, 0)) rfl ?_
      refine mv_iadd rfl ?_
      refine ev_bk 1 (S' := (26, [some (.ref 22), some (.ref 9), some (vI x2), some (vI x3), some (vI x4)], [vI x4, vI (257 + x3), .ref 26], hp S, 0, 0)) rfl ?_
      obtain ⟨b1, F⟩ := F
      refine mv_ias rfl (sh_26) b1 ?_
      have F := F _ rfl
      refine ev_bk 1 (S' := (28, [some (.ref 22), some (.ref 9), some (vI x2), some (vI x3), some (vI x4)], [.ref 22], hp (wI S 26 (w32 (257 + x3)) x4), 0, 0)) rfl ?_
      refine mv_gfR rfl rfl (sh_22) (by decide) rfl ?_
      refine ev_bk 2 (S' := (35, [some (.ref 22), some (.ref 9), some (vI x2), some (vI x3), some (vI x4)], [vI x3, vI 257, .ref 27], hp (wI S 26 (w32 (257 + x3)) x4), 0, 0)) rfl ?_
      refine mv_iadd rfl ?_
      refine ev_bk 1 (S' := (37, [some (.ref 22), some (.ref 9), some (vI x2), some (vI x3), some (vI x4)], [.ref 9, vI (257 + x3), .ref 27], hp (wI S 26 (w32 (257 + x3)) x4), 0, 0)) rfl ?_
      obtain ⟨o3, no3, e5, h4, F⟩ := F
      refine mv_gfV rfl rfl (sh_9) (by decide) rfl e5 ?_
      refine mv_gfI rfl rfl (h4.1) (by decide) rfl ?_
      refine ev_bk 1 (S' := (45, [some (.ref 22), some (.ref 9), some (vI x2), some (vI x3), some (vI x4)], [vI x4, vI ((wI S 26 (w32 (257 + x3)) x4).1 o3 1), vI (257 + x3), .ref 27], hp (wI S 26 (w32 (257 + x3)) x4), 0, 0)) rfl ?_
      refine mv_isub rfl ?_
      refine ev_bk 1 (S' := (47, [some (.ref 22), some (.ref 9), some (vI x2), some (vI x3), some (vI x4)], [vI 1, vI (((wI S 26 (w32 (257 + x3)) x4).1 o3 1) - x4), vI (257 + x3), .ref 27], hp (wI S 26 (w32 (257 + x3)) x4), 0, 0)) rfl ?_
      refine mv_iadd rfl ?_
      obtain ⟨b6, F⟩ := F
      refine mv_ias rfl (sh_27) b6 ?_
      have F := F _ rfl
      exact F
theorem vc_Plain_openWord_49 {q : Nat × (Nat → Int32)} {S S' : ms} {r : Option Value} (x2 x3 x4 : Int)
    (F : ((256 ≤ w32 x2) → ((w32 x3 = 0) → EV q 127 77 [some (.ref 22), some (.ref 9), some (vI x2), some (vI x3), some (vI x4)] [] S r S') ∧ ((¬ w32 x3 = 0) → ((w32 x2 ≤ w32 (257 + x3)) → ∃ (o1 no1 : Nat), S.2.2 9 1 = o1 ∧ isRow o1 no1 ∧ (0 ≤ w32 x2 ∧ w32 x2 < (4096 : Nat)) ∧ (0 ≤ w32 x2 ∧ w32 x2 < (4096 : Nat)) ∧ ∃ (S6 : ms), EV q 128 0 [some (.ref 9), some (vL (w32 ((S.1 o1 1) - (S.1 26 (w32 x2))))), none, some (vL (w32 (S.1 27 (w32 x2)))), none, none, none] [] S none S6 ∧ r = none ∧ S' = S6) ∧ ((¬ w32 x2 ≤ w32 (257 + x3)) → EV q 127 77 [some (.ref 22), some (.ref 9), some (vI x2), some (vI x3), some (vI x4)] [] S r S'))) ∧ ((¬ 256 ≤ w32 x2) → ∃ (S8 : ms), EV q 120 0 [some (.ref 9), some (vI x2)] [] S none S8 ∧ r = none ∧ S' = S8)) : EV q 127 49 [some (.ref 22), some (.ref 9), some (vI x2), some (vI x3), some (vI x4)] [] S r S' := by
  unfold EV
  refine ev_bk 2 (S' := (53, [some (.ref 22), some (.ref 9), some (vI x2), some (vI x3), some (vI x4)], [vI 256, vI x2], hp S, 0, 0)) rfl ?_
  refine mv_icmp 64 rfl rfl (fun c => ?_) (fun c => ?_)
  · have F := F.1 c
    refine ev_bk 1 (S' := (65, [some (.ref 22), some (.ref 9), some (vI x2), some (vI x3), some (vI x4)], [vI x3], hp S, 0, 0)) rfl ?_
    refine mv_if 77 rfl rfl (fun c => ?_) (fun c => ?_)
    · have F := F.1 c
      exact F
    · have F := F.2 c
      refine ev_bk 3 (S' := (73, [some (.ref 22), some (.ref 9), some (vI x2), some (vI x3), some (vI x4)], [vI x3, vI 257, vI x2], hp S, 0, 0)) rfl ?_
      refine mv_iadd rfl ?_
      refine mv_icmp 86 rfl rfl (fun c => ?_) (fun c => ?_)
      · have F := F.1 c
        refine ev_bk 2 (S' := (88, [some (.ref 22), some (.ref 9), some (vI x2), some (vI x3), some (vI x4)], [.ref 9, .ref 9], hp S, 0, 0)) rfl ?_
        obtain ⟨o1, no1, e3, h2, F⟩ := F
        refine mv_gfV rfl rfl (sh_9) (by decide) rfl e3 ?_
        refine mv_gfI rfl rfl (h2.1) (by decide) rfl ?_
        refine ev_bk 1 (S' := (95, [some (.ref 22), some (.ref 9), some (vI x2), some (vI x3), some (vI x4)], [.ref 22, vI (S.1 o1 1), .ref 9], hp S, 0, 0)) rfl ?_
        refine mv_gfR rfl rfl (sh_22) (by decide) rfl ?_
        refine ev_bk 1 (S' := (99, [some (.ref 22), some (.ref 9), some (vI x2), some (vI x3), some (vI x4)], [vI x2, .ref 26, vI (S.1 o1 1), .ref 9], hp S, 0, 0)) rfl ?_
        obtain ⟨b4, F⟩ := F
        refine mv_ial rfl (sh_26) b4 ?_
        refine mv_isub rfl ?_
        refine mv_i2l rfl ?_
        refine ev_bk 1 (S' := (103, [some (.ref 22), some (.ref 9), some (vI x2), some (vI x3), some (vI x4)], [.ref 22, vL (w32 ((S.1 o1 1) - (S.1 26 (w32 x2)))), .ref 9], hp S, 0, 0)) rfl ?_
        refine mv_gfR rfl rfl (sh_22) (by decide) rfl ?_
        refine ev_bk 1 (S' := (107, [some (.ref 22), some (.ref 9), some (vI x2), some (vI x3), some (vI x4)], [vI x2, .ref 27, vL (w32 ((S.1 o1 1) - (S.1 26 (w32 x2)))), .ref 9], hp S, 0, 0)) rfl ?_
        obtain ⟨b5, F⟩ := F
        refine mv_ial rfl (sh_27) b5 ?_
        refine mv_i2l rfl ?_
        obtain ⟨S6, e7, F⟩ := F
        refine mv_calv (as := [vL (w32 ((S.1 o1 1) - (S.1 26 (w32 x2)))), vL (w32 (S.1 27 (w32 x2)))]) (rest := []) e7 (sh_9) rfl rfl rfl ⟨rfl, rfl⟩ rfl rfl rfl rfl rfl ?_
        obtain ⟨rfl, rfl⟩ := F
        exact ev_ret rfl rfl
      · have F := F.2 c
        exact F
  · have F := F.2 c
    refine ev_bk 2 (S' := (58, [some (.ref 22), some (.ref 9), some (vI x2), some (vI x3), some (vI x4)], [vI x2, .ref 9], hp S, 0, 0)) rfl ?_
    obtain ⟨S8, e9, F⟩ := F
    refine mv_calv (as := [vI x2]) (rest := []) e9 (sh_9) rfl rfl rfl ⟨rfl, rfl⟩ rfl rfl rfl rfl rfl ?_
    refine mv_goto 112 rfl rfl ?_
    obtain ⟨rfl, rfl⟩ := F
    exact ev_ret rfl rfl
theorem vc_Plain_openWord_77 {q : Nat × (Nat → Int32)} {S S' : ms} {r : Option Value} (x2 x3 x4 : Int)
    (F : ∃ (S1 : ms), EV q 124 0 [some (.ref 9), some (vI 61)] [] S none S1 ∧ r = none ∧ S' = S1) : EV q 127 77 [some (.ref 22), some (.ref 9), some (vI x2), some (vI x3), some (vI x4)] [] S r S' := by
  unfold EV
  refine ev_bk 2 (S' := (80, [some (.ref 22), some (.ref 9), some (vI x2), some (vI x3), some (vI x4)], [vI 61, .ref 9], hp S, 0, 0)) rfl ?_
  obtain ⟨S1, e2, F⟩ := F
  refine mv_calv (as := [vI 61]) (rest := []) e2 (sh_9) rfl rfl rfl ⟨rfl, rfl⟩ rfl rfl rfl rfl rfl ?_
  refine mv_goto 112 rfl rfl ?_
  obtain ⟨rfl, rfl⟩ := F
  exact ev_ret rfl rfl
theorem vc_Plain_openOdds {q : Nat × (Nat → Int32)} {S S' : ms} {r : Option Value}
    (F : ∃ (z3 : Int) (S1 : ms), EV q 143 0 [some (.ref 9), some (vI 2), none, none, none] [] S (some (vL z3)) S1 ∧ ∃ (z6 : Int) (S4 : ms), EV q 143 0 [some (.ref 9), some (vI 4), none, none, none] [] S1 (some (vL z6)) S4 ∧ ∀ S7 : ms, S7 = wJ S4 22 8 z6 → ∀ S8 : ms, S8 = wJ S7 22 7 4294967295 → ∃ (S9 : ms), EV q 11 0 [some (.ref 28), some (vI 1024), none, none] [] S8 none S9 ∧ EV q 171 38 [some (.ref 22), some (.ref 9), some (vI z3), some (vI 0), some (vI 0), none, none] [] S9 r S') : EV q 171 0 [some (.ref 22), some (.ref 9), none, none, none, none, none] [] S r S' := by
  unfold EV
  refine ev_bk 2 (S' := (2, [some (.ref 22), some (.ref 9), none, none, none, none, none], [vI 2, .ref 9], hp S, 0, 0)) rfl ?_
  obtain ⟨z3, S1, e2, F⟩ := F
  refine mv_calv (as := [vI 2]) (rest := []) e2 (sh_9) rfl rfl rfl ⟨rfl, rfl⟩ rfl rfl rfl rfl rfl ?_
  refine mv_l2i rfl ?_
  refine ev_bk 4 (S' := (10, [some (.ref 22), some (.ref 9), some (vI z3), none, none, none, none], [vI 4, .ref 9, .ref 22], hp S1, 0, 0)) rfl ?_
  obtain ⟨z6, S4, e5, F⟩ := F
  refine mv_calv (as := [vI 4]) (rest := [.ref 22]) e5 (sh_9) rfl rfl rfl ⟨rfl, rfl⟩ rfl rfl rfl rfl rfl ?_
  refine mv_pfJ rfl rfl (sh_22) (by decide) rfl rfl ?_
  have F := F _ rfl
  refine ev_bk 2 (S' := (20, [some (.ref 22), some (.ref 9), some (vI z3), none, none, none, none], [vL 4294967295, .ref 22], hp (wJ S4 22 8 z6), 0, 0)) rfl ?_
  refine mv_pfJ rfl rfl (sh_22) (by decide) rfl rfl ?_
  have F := F _ rfl
  refine ev_bk 1 (S' := (24, [some (.ref 22), some (.ref 9), some (vI z3), none, none, none, none], [.ref 22], hp (wJ (wJ S4 22 8 z6) 22 7 4294967295), 0, 0)) rfl ?_
  refine mv_gfR rfl rfl (sh_22) (by decide) rfl ?_
  refine ev_bk 1 (S' := (30, [some (.ref 22), some (.ref 9), some (vI z3), none, none, none, none], [vI 1024, .ref 28], hp (wJ (wJ S4 22 8 z6) 22 7 4294967295), 0, 0)) rfl ?_
  obtain ⟨S9, e10, F⟩ := F
  refine mv_cals (as := [.ref 28, vI 1024]) (rest := []) e10 rfl rfl rfl ⟨rfl, rfl, rfl⟩ rfl rfl rfl rfl ?_
  refine ev_bk 4 (S' := (38, [some (.ref 22), some (.ref 9), some (vI z3), some (vI 0), some (vI 0), none, none], [], hp S9, 0, 0)) rfl ?_
  exact F
theorem vc_Plain_openOdds_38 {q : Nat × (Nat → Int32)} {S S' : ms} {r : Option Value} (x2 x3 x4 : Int)
    (F : ((w32 x2 ≤ w32 x4) → EV q 171 108 [some (.ref 22), some (.ref 9), some (vI x2), some (vI x3), some (vI x4), none, none] [] S r S') ∧ ((¬ w32 x2 ≤ w32 x4) → ((¬ w32 (S.1 9 5) = 0) → EV q 171 108 [some (.ref 22), some (.ref 9), some (vI x2), some (vI x3), some (vI x4), none, none] [] S r S') ∧ ((¬ (¬ w32 (S.1 9 5) = 0)) → EV q 171 57 [some (.ref 22), some (.ref 9), some (vI x2), some (vI x3), some (vI x4), some (vI 1), some (vI 0)] [] S r S'))) : EV q 171 38 [some (.ref 22), some (.ref 9), some (vI x2), some (vI x3), some (vI x4), none, none] [] S r S' := by
  unfold EV
  refine ev_bk 2 (S' := (41, [some (.ref 22), some (.ref 9), some (vI x2), some (vI x3), some (vI x4), none, none], [vI x2, vI x4], hp S, 0, 0)) rfl ?_
  refine mv_icmp 108 rfl rfl (fun c => ?_) (fun c => ?_)
  · have F := F.1 c
    exact F
  · have F := F.2 c
    refine ev_bk 1 (S' := (45, [some (.ref 22), some (.ref 9), some (vI x2), some (vI x3), some (vI x4), none, none], [.ref 9], hp S, 0, 0)) rfl ?_
    refine mv_gfI rfl rfl (sh_9) (by decide) rfl ?_
    refine mv_if 108 rfl rfl (fun c => ?_) (fun c => ?_)
    · have F := F.1 c
      exact F
    · have F := F.2 c
      refine ev_bk 4 (S' := (57, [some (.ref 22), some (.ref 9), some (vI x2), some (vI x3), some (vI x4), some (vI 1), some (vI 0)], [], hp S, 0, 0)) rfl ?_
      exact F
theorem vc_Plain_openOdds_57 {q : Nat × (Nat → Int32)} {S S' : ms} {r : Option Value} (x2 x3 x4 x5 x6 : Int)
    (F : ((8 ≤ w32 x6) → ∃ (S1 : ms), EV q 120 0 [some (.ref 9), some (vI (x5 % 256))] [] S none S1 ∧ EV q 171 38 [some (.ref 22), some (.ref 9), some (vI x2), some (vI (x5 % 256)), some (vI (x4 + 1)), none, none] [] S1 r S') ∧ ((¬ 8 ≤ w32 x6) → ∃ (z5 : Int) (S3 : ms), EV q 172 0 [some (.ref 22), some (vI ((x3 * 256) + x5)), some (.ref 9), none, none, none, none] [] S (some (vI z5)) S3 ∧ EV q 171 57 [some (.ref 22), some (.ref 9), some (vI x2), some (vI x3), some (vI x4), some (vI ((x5 * 2) + z5)), some (vI (x6 + 1))] [] S3 r S')) : EV q 171 57 [some (.ref 22), some (.ref 9), some (vI x2), some (vI x3), some (vI x4), some (vI x5), some (vI x6)] [] S r S' := by
  unfold EV
  refine ev_bk 2 (S' := (61, [some (.ref 22), some (.ref 9), some (vI x2), some (vI x3), some (vI x4), some (vI x5), some (vI x6)], [vI 8, vI x6], hp S, 0, 0)) rfl ?_
  refine mv_icmp 90 rfl rfl (fun c => ?_) (fun c => ?_)
  · have F := F.1 c
    refine ev_bk 2 (S' := (95, [some (.ref 22), some (.ref 9), some (vI x2), some (vI x3), some (vI x4), some (vI x5), some (vI x6)], [vI 255, vI x5], hp S, 0, 0)) rfl ?_
    refine mv_iandm 256 8 (by decide) rfl rfl rfl ?_
    refine ev_bk 3 (S' := (99, [some (.ref 22), some (.ref 9), some (vI x2), some (vI (x5 % 256)), some (vI x4), some (vI x5), some (vI x6)], [vI (x5 % 256), .ref 9], hp S, 0, 0)) rfl ?_
    obtain ⟨S1, e2, F⟩ := F
    refine mv_calv (as := [vI (x5 % 256)]) (rest := []) e2 (sh_9) rfl rfl rfl ⟨rfl, rfl⟩ rfl rfl rfl rfl rfl ?_
    refine mv_inc (lv' := [some (.ref 22), some (.ref 9), some (vI x2), some (vI (x5 % 256)), some (vI (x4 + 1)), some (vI x5), some (vI x6)]) 4 1 rfl rfl rfl rfl ?_
    refine mv_goto 38 rfl rfl ?_
    exact ev_wk (le_s (le_s (le_s (le_s (le_s (le_n (le_n le_0))))))) F
  · have F := F.2 c
    refine ev_bk 2 (S' := (67, [some (.ref 22), some (.ref 9), some (vI x2), some (vI x3), some (vI x4), some (vI x5), some (vI x6)], [vI 2, vI x5], hp S, 0, 0)) rfl ?_
    refine mv_imul rfl ?_
    refine ev_bk 3 (S' := (73, [some (.ref 22), some (.ref 9), some (vI x2), some (vI x3), some (vI x4), some (vI x5), some (vI x6)], [vI 256, vI x3, .ref 22, vI (x5 * 2)], hp S, 0, 0)) rfl ?_
    refine mv_imul rfl ?_
    refine ev_bk 1 (S' := (76, [some (.ref 22), some (.ref 9), some (vI x2), some (vI x3), some (vI x4), some (vI x5), some (vI x6)], [vI x5, vI (x3 * 256), .ref 22, vI (x5 * 2)], hp S, 0, 0)) rfl ?_
    refine mv_iadd rfl ?_
    refine ev_bk 1 (S' := (78, [some (.ref 22), some (.ref 9), some (vI x2), some (vI x3), some (vI x4), some (vI x5), some (vI x6)], [.ref 9, vI ((x3 * 256) + x5), .ref 22, vI (x5 * 2)], hp S, 0, 0)) rfl ?_
    obtain ⟨z5, S3, e4, F⟩ := F
    refine mv_calv (as := [vI ((x3 * 256) + x5), .ref 9]) (rest := [vI (x5 * 2)]) e4 (sh_22) rfl rfl rfl ⟨rfl, rfl⟩ rfl rfl rfl rfl rfl ?_
    refine mv_iadd rfl ?_
    refine ev_bk 1 (S' := (84, [some (.ref 22), some (.ref 9), some (vI x2), some (vI x3), some (vI x4), some (vI ((x5 * 2) + z5)), some (vI x6)], [], hp S3, 0, 0)) rfl ?_
    refine mv_inc (lv' := [some (.ref 22), some (.ref 9), some (vI x2), some (vI x3), some (vI x4), some (vI ((x5 * 2) + z5)), some (vI (x6 + 1))]) 6 1 rfl rfl rfl rfl ?_
    refine mv_goto 57 rfl rfl ?_
    exact F
theorem vc_Plain_openOdds_108 {q : Nat × (Nat → Int32)} {S S' : ms} {r : Option Value} (x2 x3 x4 : Int)
    (F : ∃ (S1 : ms), EV q 125 0 [some (.ref 9)] [] S none S1 ∧ r = none ∧ S' = S1) : EV q 171 108 [some (.ref 22), some (.ref 9), some (vI x2), some (vI x3), some (vI x4), none, none] [] S r S' := by
  unfold EV
  refine ev_bk 1 (S' := (109, [some (.ref 22), some (.ref 9), some (vI x2), some (vI x3), some (vI x4), none, none], [.ref 9], hp S, 0, 0)) rfl ?_
  obtain ⟨S1, e2, F⟩ := F
  refine mv_calv (as := []) (rest := []) e2 (sh_9) rfl rfl rfl ⟨rfl, rfl⟩ rfl rfl rfl rfl rfl ?_
  obtain ⟨rfl, rfl⟩ := F
  exact ev_ret rfl rfl
theorem vc_Plain_openBit {q : Nat × (Nat → Int32)} {S S' : ms} {r : Option Value} (x1 : Int)
    (F : (0 ≤ w32 x1 ∧ w32 x1 < (65536 : Nat)) ∧ ((w64 (((S.2.1 22 7) % 18446744073709551616 / 2048) * (w32 (S.1 28 (w32 x1)))) ≤ w64 (S.2.1 22 8)) → EV q 172 30 [some (.ref 22), some (vI x1), some (.ref 9), some (vL (((S.2.1 22 7) % 18446744073709551616 / 2048) * (w32 (S.1 28 (w32 x1))))), none, none, none] [vI 1] S r S') ∧ ((¬ w64 (((S.2.1 22 7) % 18446744073709551616 / 2048) * (w32 (S.1 28 (w32 x1)))) ≤ w64 (S.2.1 22 8)) → EV q 172 30 [some (.ref 22), some (vI x1), some (.ref 9), some (vL (((S.2.1 22 7) % 18446744073709551616 / 2048) * (w32 (S.1 28 (w32 x1))))), none, none, none] [vI 0] S r S')) : EV q 172 0 [some (.ref 22), some (vI x1), some (.ref 9), none, none, none, none] [] S r S' := by
  unfold EV
  refine ev_bk 1 (S' := (1, [some (.ref 22), some (vI x1), some (.ref 9), none, none, none, none], [.ref 22], hp S, 0, 0)) rfl ?_
  refine mv_gfJ rfl rfl (sh_22) (by decide) rfl ?_
  refine ev_bk 1 (S' := (6, [some (.ref 22), some (vI x1), some (.ref 9), none, none, none, none], [vI 11, vL (S.2.1 22 7)], hp S, 0, 0)) rfl ?_
  refine mv_lushr 2048 rfl rfl ?_
  refine ev_bk 1 (S' := (8, [some (.ref 22), some (vI x1), some (.ref 9), none, none, none, none], [.ref 22, vL ((S.2.1 22 7) % 18446744073709551616 / 2048)], hp S, 0, 0)) rfl ?_
  refine mv_gfR rfl rfl (sh_22) (by decide) rfl ?_
  refine ev_bk 1 (S' := (12, [some (.ref 22), some (vI x1), some (.ref 9), none, none, none, none], [vI x1, .ref 28, vL ((S.2.1 22 7) % 18446744073709551616 / 2048)], hp S, 0, 0)) rfl ?_
  obtain ⟨b1, F⟩ := F
  refine mv_ial rfl (sh_28) b1 ?_
  refine mv_i2l rfl ?_
  refine mv_lmul rfl ?_
  refine ev_bk 2 (S' := (17, [some (.ref 22), some (vI x1), some (.ref 9), some (vL (((S.2.1 22 7) % 18446744073709551616 / 2048) * (w32 (S.1 28 (w32 x1))))), none, none, none], [.ref 22], hp S, 0, 0)) rfl ?_
  refine mv_gfJ rfl rfl (sh_22) (by decide) rfl ?_
  refine ev_bk 1 (S' := (21, [some (.ref 22), some (vI x1), some (.ref 9), some (vL (((S.2.1 22 7) % 18446744073709551616 / 2048) * (w32 (S.1 28 (w32 x1))))), none, none, none], [vL (((S.2.1 22 7) % 18446744073709551616 / 2048) * (w32 (S.1 28 (w32 x1)))), vL (S.2.1 22 8)], hp S, 0, 0)) rfl ?_
  refine mv_lif 29 rfl rfl rfl (fun c => ?_) (fun c => ?_)
  · have F := F.1 c
    refine ev_bk 1 (S' := (30, [some (.ref 22), some (vI x1), some (.ref 9), some (vL (((S.2.1 22 7) % 18446744073709551616 / 2048) * (w32 (S.1 28 (w32 x1))))), none, none, none], [vI 1], hp S, 0, 0)) rfl ?_
    exact F
  · have F := F.2 c
    refine ev_bk 1 (S' := (26, [some (.ref 22), some (vI x1), some (.ref 9), some (vL (((S.2.1 22 7) % 18446744073709551616 / 2048) * (w32 (S.1 28 (w32 x1))))), none, none, none], [vI 0], hp S, 0, 0)) rfl ?_
    refine mv_goto 30 rfl rfl ?_
    exact F
theorem vc_Plain_openBit_30 {q : Nat × (Nat → Int32)} {S S' : ms} {r : Option Value} (x1 x3 y0 : Int)
    (F : ((¬ w32 y0 = 0) → ∀ S1 : ms, S1 = wJ S 22 8 ((S.2.1 22 8) - x3) → ∀ S2 : ms, S2 = wJ S1 22 7 ((S1.2.1 22 7) - x3) → EV q 172 65 [some (.ref 22), some (vI x1), some (.ref 9), some (vL x3), none, some (vI y0), none] [] S2 r S') ∧ ((¬ (¬ w32 y0 = 0)) → ∀ S3 : ms, S3 = wJ S 22 7 x3 → EV q 172 65 [some (.ref 22), some (vI x1), some (.ref 9), some (vL x3), none, some (vI y0), none] [] S3 r S')) : EV q 172 30 [some (.ref 22), some (vI x1), some (.ref 9), some (vL x3), none, none, none] [vI y0] S r S' := by
  unfold EV
  refine ev_bk 2 (S' := (34, [some (.ref 22), some (vI x1), some (.ref 9), some (vL x3), none, some (vI y0), none], [vI y0], hp S, 0, 0)) rfl ?_
  refine mv_if 45 rfl rfl (fun c => ?_) (fun c => ?_)
  · have F := F.1 c
    refine ev_bk 2 (S' := (47, [some (.ref 22), some (vI x1), some (.ref 9), some (vL x3), none, some (vI y0), none], [.ref 22, .ref 22], hp S, 0, 0)) rfl ?_
    refine mv_gfJ rfl rfl (sh_22) (by decide) rfl ?_
    refine ev_bk 1 (S' := (51, [some (.ref 22), some (vI x1), some (.ref 9), some (vL x3), none, some (vI y0), none], [vL x3, vL (S.2.1 22 8), .ref 22], hp S, 0, 0)) rfl ?_
    refine mv_lsub rfl ?_
    refine mv_pfJ rfl rfl (sh_22) (by decide) rfl rfl ?_
    have F := F _ rfl
    refine ev_bk 2 (S' := (57, [some (.ref 22), some (vI x1), some (.ref 9), some (vL x3), none, some (vI y0), none], [.ref 22, .ref 22], hp (wJ S 22 8 ((S.2.1 22 8) - x3)), 0, 0)) rfl ?_
    refine mv_gfJ rfl rfl (sh_22) (by decide) rfl ?_
    refine ev_bk 1 (S' := (61, [some (.ref 22), some (vI x1), some (.ref 9), some (vL x3), none, some (vI y0), none], [vL x3, vL ((wJ S 22 8 ((S.2.1 22 8) - x3)).2.1 22 7), .ref 22], hp (wJ S 22 8 ((S.2.1 22 8) - x3)), 0, 0)) rfl ?_
    refine mv_lsub rfl ?_
    refine mv_pfJ rfl rfl (sh_22) (by decide) rfl rfl ?_
    have F := F _ rfl
    exact F
  · have F := F.2 c
    refine ev_bk 2 (S' := (39, [some (.ref 22), some (vI x1), some (.ref 9), some (vL x3), none, some (vI y0), none], [vL x3, .ref 22], hp S, 0, 0)) rfl ?_
    refine mv_pfJ rfl rfl (sh_22) (by decide) rfl rfl ?_
    have F := F _ rfl
    refine mv_goto 65 rfl rfl ?_
    exact F
theorem vc_Plain_openBit_65 {q : Nat × (Nat → Int32)} {S S' : ms} {r : Option Value} (x1 x3 x5 : Int)
    (F : ∃ (S1 : ms), EV q 110 0 [some (.ref 22), some (vI x1), some (vI x5)] [] S none S1 ∧ EV q 172 75 [some (.ref 22), some (vI x1), some (.ref 9), some (vL x3), none, some (vI x5), some (vI 0)] [] S1 r S') : EV q 172 65 [some (.ref 22), some (vI x1), some (.ref 9), some (vL x3), none, some (vI x5), none] [] S r S' := by
  unfold EV
  refine ev_bk 3 (S' := (69, [some (.ref 22), some (vI x1), some (.ref 9), some (vL x3), none, some (vI x5), none], [vI x5, vI x1, .ref 22], hp S, 0, 0)) rfl ?_
  obtain ⟨S1, e2, F⟩ := F
  refine mv_calv (as := [vI x1, vI x5]) (rest := []) e2 (sh_22) rfl rfl rfl ⟨rfl, rfl⟩ rfl rfl rfl rfl rfl ?_
  refine ev_bk 2 (S' := (75, [some (.ref 22), some (vI x1), some (.ref 9), some (vL x3), none, some (vI x5), some (vI 0)], [], hp S1, 0, 0)) rfl ?_
  exact F
theorem vc_Plain_openBit_75 {q : Nat × (Nat → Int32)} {S S' : ms} {r : Option Value} (x1 x3 x5 x6 : Int)
    (F : ((4 ≤ w32 x6) → r = some (vI x5) ∧ S' = S) ∧ ((¬ 4 ≤ w32 x6) → ((w64 16777216 ≤ w64 (S.2.1 22 7)) → r = some (vI x5) ∧ S' = S) ∧ ((¬ w64 16777216 ≤ w64 (S.2.1 22 7)) → ∃ (z3 : Int) (S1 : ms), EV q 118 0 [some (.ref 9)] [] S (some (vI z3)) S1 ∧ ∀ S4 : ms, S4 = wJ S1 22 8 ((lO ((S.2.1 22 8) * 256) (w32 z3)) % 4294967296) → ∀ S5 : ms, S5 = wJ S4 22 7 ((S4.2.1 22 7) * 256) → EV q 172 75 [some (.ref 22), some (vI x1), some (.ref 9), some (vL x3), none, some (vI x5), some (vI (x6 + 1))] [] S5 r S'))) : EV q 172 75 [some (.ref 22), some (vI x1), some (.ref 9), some (vL x3), none, some (vI x5), some (vI x6)] [] S r S' := by
  unfold EV
  refine ev_bk 2 (S' := (78, [some (.ref 22), some (vI x1), some (.ref 9), some (vL x3), none, some (vI x5), some (vI x6)], [vI 4, vI x6], hp S, 0, 0)) rfl ?_
  refine mv_icmp 130 rfl rfl (fun c => ?_) (fun c => ?_)
  · have F := F.1 c
    refine ev_bk 1 (S' := (132, [some (.ref 22), some (vI x1), some (.ref 9), some (vL x3), none, some (vI x5), some (vI x6)], [vI x5], hp S, 0, 0)) rfl ?_
    obtain ⟨rfl, rfl⟩ := F
    exact ev_ret rfl rfl
  · have F := F.2 c
    refine ev_bk 1 (S' := (82, [some (.ref 22), some (vI x1), some (.ref 9), some (vL x3), none, some (vI x5), some (vI x6)], [.ref 22], hp S, 0, 0)) rfl ?_
    refine mv_gfJ rfl rfl (sh_22) (by decide) rfl ?_
    refine ev_bk 1 (S' := (88, [some (.ref 22), some (vI x1), some (.ref 9), some (vL x3), none, some (vI x5), some (vI x6)], [vL 16777216, vL (S.2.1 22 7)], hp S, 0, 0)) rfl ?_
    refine mv_lif 130 rfl rfl rfl (fun c => ?_) (fun c => ?_)
    · have F := F.1 c
      refine ev_bk 1 (S' := (132, [some (.ref 22), some (vI x1), some (.ref 9), some (vL x3), none, some (vI x5), some (vI x6)], [vI x5], hp S, 0, 0)) rfl ?_
      obtain ⟨rfl, rfl⟩ := F
      exact ev_ret rfl rfl
    · have F := F.2 c
      refine ev_bk 2 (S' := (94, [some (.ref 22), some (vI x1), some (.ref 9), some (vL x3), none, some (vI x5), some (vI x6)], [.ref 22, .ref 22], hp S, 0, 0)) rfl ?_
      refine mv_gfJ rfl rfl (sh_22) (by decide) rfl ?_
      refine ev_bk 1 (S' := (99, [some (.ref 22), some (vI x1), some (.ref 9), some (vL x3), none, some (vI x5), some (vI x6)], [vI 8, vL (S.2.1 22 8), .ref 22], hp S, 0, 0)) rfl ?_
      refine mv_lshl 256 rfl rfl ?_
      refine ev_bk 1 (S' := (101, [some (.ref 22), some (vI x1), some (.ref 9), some (vL x3), none, some (vI x5), some (vI x6)], [.ref 9, vL ((S.2.1 22 8) * 256), .ref 22], hp S, 0, 0)) rfl ?_
      obtain ⟨z3, S1, e2, F⟩ := F
      refine mv_calv (as := []) (rest := [vL ((S.2.1 22 8) * 256), .ref 22]) e2 (sh_9) rfl rfl rfl ⟨rfl, rfl⟩ rfl rfl rfl rfl rfl ?_
      refine mv_i2l rfl ?_
      refine mv_lor rfl ?_
      refine ev_bk 1 (S' := (109, [some (.ref 22), some (vI x1), some (.ref 9), some (vL x3), none, some (vI x5), some (vI x6)], [vL 4294967295, vL (lO ((S.2.1 22 8) * 256) (w32 z3)), .ref 22], hp S1, 0, 0)) rfl ?_
      refine mv_landm 4294967296 32 (by decide) rfl rfl rfl ?_
      refine mv_pfJ rfl rfl (sh_22) (by decide) rfl rfl ?_
      have F := F _ rfl
      refine ev_bk 2 (S' := (115, [some (.ref 22), some (vI x1), some (.ref 9), some (vL x3), none, some (vI x5), some (vI x6)], [.ref 22, .ref 22], hp (wJ S1 22 8 ((lO ((S.2.1 22 8) * 256) (w32 z3)) % 4294967296)), 0, 0)) rfl ?_
      refine mv_gfJ rfl rfl (sh_22) (by decide) rfl ?_
      refine ev_bk 1 (S' := (120, [some (.ref 22), some (vI x1), some (.ref 9), some (vL x3), none, some (vI x5), some (vI x6)], [vI 8, vL ((wJ S1 22 8 ((lO ((S.2.1 22 8) * 256) (w32 z3)) % 4294967296)).2.1 22 7), .ref 22], hp (wJ S1 22 8 ((lO ((S.2.1 22 8) * 256) (w32 z3)) % 4294967296)), 0, 0)) rfl ?_
      refine mv_lshl 256 rfl rfl ?_
      refine mv_pfJ rfl rfl (sh_22) (by decide) rfl rfl ?_
      have F := F _ rfl
      refine mv_inc (lv' := [some (.ref 22), some (vI x1), some (.ref 9), some (vL x3), none, some (vI x5), some (vI (x6 + 1))]) 6 1 rfl rfl rfl rfl ?_
      refine mv_goto 75 rfl rfl ?_
      exact F
theorem vc_Finder_chainFirst {q : Nat × (Nat → Int32)} {S S' : ms} {r : Option Value} (a1 na1 : Nat) (ha1 : isRow a1 na1)
    (F : ∀ S1 : ms, S1 = wR S 10 2 (a1 + 1) → ∀ S2 : ms, S2 = wI S1 10 3 (S1.1 a1 1) → ∃ (S3 : ms), EV q 11 0 [some (.ref 11), some (vI ((-1))), none, none] [] S2 none S3 ∧ EV q 216 32 [some (.ref 10), some (.ref a1), some (vI ((S3.1 10 3) - 8)), none] [] S3 r S') : EV q 216 0 [some (.ref 10), some (.ref a1), none, none] [] S r S' := by
  unfold EV
  refine ev_bk 2 (S' := (2, [some (.ref 10), some (.ref a1), none, none], [.ref a1, .ref 10], hp S, 0, 0)) rfl ?_
  refine mv_gfR rfl rfl (ha1.1) (by decide) rfl ?_
  refine mv_pfR rfl rfl (sh_10) (by decide) rfl rfl ?_
  have F := F _ rfl
  refine ev_bk 2 (S' := (10, [some (.ref 10), some (.ref a1), none, none], [.ref a1, .ref 10], hp (wR S 10 2 (a1 + 1)), 0, 0)) rfl ?_
  refine mv_gfI rfl rfl (ha1.1) (by decide) rfl ?_
  refine mv_pfI rfl rfl (sh_10) (by decide) rfl rfl ?_
  have F := F _ rfl
  refine ev_bk 1 (S' := (17, [some (.ref 10), some (.ref a1), none, none], [.ref 10], hp (wI (wR S 10 2 (a1 + 1)) 10 3 ((wR S 10 2 (a1 + 1)).1 a1 1)), 0, 0)) rfl ?_
  refine mv_gfR rfl rfl (sh_10) (by decide) rfl ?_
  refine ev_bk 1 (S' := (21, [some (.ref 10), some (.ref a1), none, none], [vI ((-1)), .ref 11], hp (wI (wR S 10 2 (a1 + 1)) 10 3 ((wR S 10 2 (a1 + 1)).1 a1 1)), 0, 0)) rfl ?_
  obtain ⟨S3, e4, F⟩ := F
  refine mv_cals (as := [.ref 11, vI ((-1))]) (rest := []) e4 rfl rfl rfl ⟨rfl, rfl, rfl⟩ rfl rfl rfl rfl ?_
  refine ev_bk 1 (S' := (25, [some (.ref 10), some (.ref a1), none, none], [.ref 10], hp S3, 0, 0)) rfl ?_
  refine mv_gfI rfl rfl (sh_10) (by decide) rfl ?_
  refine ev_bk 1 (S' := (30, [some (.ref 10), some (.ref a1), none, none], [vI 8, vI (S3.1 10 3)], hp S3, 0, 0)) rfl ?_
  refine mv_isub rfl ?_
  refine ev_bk 1 (S' := (32, [some (.ref 10), some (.ref a1), some (vI ((S3.1 10 3) - 8)), none], [], hp S3, 0, 0)) rfl ?_
  exact F
theorem vc_Finder_chainFirst_32 {q : Nat × (Nat → Int32)} {S S' : ms} {r : Option Value} (x2 : Int) (a1 na1 : Nat) (ha1 : isRow a1 na1)
    (F : ((w32 x2 < 0) → r = none ∧ S' = S) ∧ ((¬ w32 x2 < 0) → ∃ (o1 no1 : Nat), S.2.2 10 2 = o1 ∧ SH o1 = (0, no1, []) ∧ ∃ (z6 : Int) (S4 : ms), EV q 217 0 [some (.ref o1), some (vI x2), none, none] [] S (some (vI z6)) S4 ∧ (0 ≤ w32 z6 ∧ w32 z6 < (8192 : Nat)) ∧ (0 ≤ w32 x2 ∧ w32 x2 < (12000 : Nat)) ∧ ∀ S9 : ms, S9 = wI S4 12 (w32 x2) (S4.1 11 (w32 z6)) → (0 ≤ w32 z6 ∧ w32 z6 < (8192 : Nat)) ∧ ∀ S11 : ms, S11 = wI S9 11 (w32 z6) x2 → EV q 216 32 [some (.ref 10), some (.ref a1), some (vI (x2 - 1)), none] [] S11 r S')) : EV q 216 32 [some (.ref 10), some (.ref a1), some (vI x2), none] [] S r S' := by
  unfold EV
  refine ev_bk 1 (S' := (33, [some (.ref 10), some (.ref a1), some (vI x2), none], [vI x2], hp S, 0, 0)) rfl ?_
  refine mv_if 70 rfl rfl (fun c => ?_) (fun c => ?_)
  · have F := F.1 c
    obtain ⟨rfl, rfl⟩ := F
    exact ev_ret rfl rfl
  · have F := F.2 c
    refine ev_bk 1 (S' := (37, [some (.ref 10), some (.ref a1), some (vI x2), none], [.ref 10], hp S, 0, 0)) rfl ?_
    obtain ⟨o1, no1, e3, h2, F⟩ := F
    refine mv_gfV rfl rfl (sh_10) (by decide) rfl e3 ?_
    refine ev_bk 1 (S' := (41, [some (.ref 10), some (.ref a1), some (vI x2), none], [vI x2, .ref o1], hp S, 0, 0)) rfl ?_
    obtain ⟨z6, S4, e5, F⟩ := F
    refine mv_cals (as := [.ref o1, vI x2]) (rest := []) e5 rfl rfl rfl ⟨rfl, rfl, rfl⟩ rfl rfl rfl rfl ?_
    refine ev_bk 2 (S' := (46, [some (.ref 10), some (.ref a1), some (vI x2), some (vI z6)], [.ref 10], hp S4, 0, 0)) rfl ?_
    refine mv_gfR rfl rfl (sh_10) (by decide) rfl ?_
    refine ev_bk 2 (S' := (51, [some (.ref 10), some (.ref a1), some (vI x2), some (vI z6)], [.ref 10, vI x2, .ref 12], hp S4, 0, 0)) rfl ?_
    refine mv_gfR rfl rfl (sh_10) (by decide) rfl ?_
    refine ev_bk 1 (S' := (55, [some (.ref 10), some (.ref a1), some (vI x2), some (vI z6)], [vI z6, .ref 11, vI x2, .ref 12], hp S4, 0, 0)) rfl ?_
    obtain ⟨b7, F⟩ := F
    refine mv_ial rfl (sh_11) b7 ?_
    obtain ⟨b8, F⟩ := F
    refine mv_ias rfl (sh_12) b8 ?_
    have F := F _ rfl
    refine ev_bk 1 (S' := (58, [some (.ref 10), some (.ref a1), some (vI x2), some (vI z6)], [.ref 10], hp (wI S4 12 (w32 x2) (S4.1 11 (w32 z6))), 0, 0)) rfl ?_
    refine mv_gfR rfl rfl (sh_10) (by decide) rfl ?_
    refine ev_bk 2 (S' := (63, [some (.ref 10), some (.ref a1), some (vI x2), some (vI z6)], [vI x2, vI z6, .ref 11], hp (wI S4 12 (w32 x2) (S4.1 11 (w32 z6))), 0, 0)) rfl ?_
    obtain ⟨b10, F⟩ := F
    refine mv_ias rfl (sh_11) b10 ?_
    have F := F _ rfl
    refine mv_inc (lv' := [some (.ref 10), some (.ref a1), some (vI (x2 - 1)), some (vI z6)]) 2 (-1) rfl rfl rfl (by omega) ?_
    refine mv_goto 32 rfl rfl ?_
    exact ev_wk (le_s (le_s (le_s (le_n le_0)))) F
theorem vc_Finder_eightsHead {q : Nat × (Nat → Int32)} {S S' : ms} {r : Option Value} (x1 : Int) (a0 na0 : Nat) (ha0 : SH a0 = (0, na0, []))
    (F : EV q 217 4 [some (.ref a0), some (vI x1), some (vI 0), some (vI 0)] [] S r S') : EV q 217 0 [some (.ref a0), some (vI x1), none, none] [] S r S' := by
  unfold EV
  refine ev_bk 4 (S' := (4, [some (.ref a0), some (vI x1), some (vI 0), some (vI 0)], [], hp S, 0, 0)) rfl ?_
  exact F
theorem vc_Finder_eightsHead_4 {q : Nat × (Nat → Int32)} {S S' : ms} {r : Option Value} (x1 x2 x3 : Int) (a0 na0 : Nat) (ha0 : SH a0 = (0, na0, []))
    (F : ((8 ≤ w32 x3) → r = some (vI ((bX x2 (x2 % 4294967296 / 8192)) % 8192)) ∧ S' = S) ∧ ((¬ 8 ≤ w32 x3) → (0 ≤ w32 (x1 + x3) ∧ w32 (x1 + x3) < (na0 : Nat)) ∧ EV q 217 4 [some (.ref a0), some (vI x1), some (vI ((x2 * 31) + (S.1 a0 (w32 (x1 + x3))))), some (vI (x3 + 1))] [] S r S')) : EV q 217 4 [some (.ref a0), some (vI x1), some (vI x2), some (vI x3)] [] S r S' := by
  unfold EV
  refine ev_bk 2 (S' := (7, [some (.ref a0), some (vI x1), some (vI x2), some (vI x3)], [vI 8, vI x3], hp S, 0, 0)) rfl ?_
  refine mv_icmp 27 rfl rfl (fun c => ?_) (fun c => ?_)
  · have F := F.1 c
    refine ev_bk 3 (S' := (31, [some (.ref a0), some (vI x1), some (vI x2), some (vI x3)], [vI 13, vI x2, vI x2], hp S, 0, 0)) rfl ?_
    refine mv_iushr 8192 rfl rfl ?_
    refine mv_ixor rfl ?_
    refine ev_bk 1 (S' := (36, [some (.ref a0), some (vI x1), some (vI x2), some (vI x3)], [vI 8191, vI (bX x2 (x2 % 4294967296 / 8192))], hp S, 0, 0)) rfl ?_
    refine mv_iandm 8192 13 (by decide) rfl rfl rfl ?_
    obtain ⟨rfl, rfl⟩ := F
    exact ev_ret rfl rfl
  · have F := F.2 c
    refine ev_bk 2 (S' := (13, [some (.ref a0), some (vI x1), some (vI x2), some (vI x3)], [vI 31, vI x2], hp S, 0, 0)) rfl ?_
    refine mv_imul rfl ?_
    refine ev_bk 3 (S' := (17, [some (.ref a0), some (vI x1), some (vI x2), some (vI x3)], [vI x3, vI x1, .ref a0, vI (x2 * 31)], hp S, 0, 0)) rfl ?_
    refine mv_iadd rfl ?_
    obtain ⟨b1, F⟩ := F
    refine mv_ial rfl (ha0) b1 ?_
    refine mv_iadd rfl ?_
    refine ev_bk 1 (S' := (21, [some (.ref a0), some (vI x1), some (vI ((x2 * 31) + (S.1 a0 (w32 (x1 + x3))))), some (vI x3)], [], hp S, 0, 0)) rfl ?_
    refine mv_inc (lv' := [some (.ref a0), some (vI x1), some (vI ((x2 * 31) + (S.1 a0 (w32 (x1 + x3))))), some (vI (x3 + 1))]) 3 1 rfl rfl rfl rfl ?_
    refine mv_goto 4 rfl rfl ?_
    exact F
theorem vc_Finder_longestInFirst {q : Nat × (Nat → Int32)} {S S' : ms} {r : Option Value} (x2 : Int) (a1 na1 : Nat) (ha1 : isRow a1 na1)
    (F : ((8 ≤ w32 ((S.1 a1 1) - x2)) → ∃ (z3 : Int) (S1 : ms), EV q 217 0 [some (.ref (a1 + 1)), some (vI x2), none, none] [] S (some (vI z3)) S1 ∧ (0 ≤ w32 z3 ∧ w32 z3 < (8192 : Nat)) ∧ EV q 218 37 [some (.ref 10), some (.ref a1), some (vI x2), some (vI ((S.1 a1 1) - x2)), some (vI 7), some (vI (S1.1 11 (w32 z3))), some (vI 0), none, none] [] S1 r S') ∧ ((¬ 8 ≤ w32 ((S.1 a1 1) - x2)) → r = some (vI 0) ∧ S' = S)) : EV q 218 0 [some (.ref 10), some (.ref a1), some (vI x2), none, none, none, none, none, none] [] S r S' := by
  unfold EV
  refine ev_bk 1 (S' := (1, [some (.ref 10), some (.ref a1), some (vI x2), none, none, none, none, none, none], [.ref a1], hp S, 0, 0)) rfl ?_
  refine mv_gfI rfl rfl (ha1.1) (by decide) rfl ?_
  refine ev_bk 1 (S' := (5, [some (.ref 10), some (.ref a1), some (vI x2), none, none, none, none, none, none], [vI x2, vI (S.1 a1 1)], hp S, 0, 0)) rfl ?_
  refine mv_isub rfl ?_
  refine ev_bk 3 (S' := (10, [some (.ref 10), some (.ref a1), some (vI x2), some (vI ((S.1 a1 1) - x2)), none, none, none, none, none], [vI 8, vI ((S.1 a1 1) - x2)], hp S, 0, 0)) rfl ?_
  refine mv_icmp 15 rfl rfl (fun c => ?_) (fun c => ?_)
  · have F := F.1 c
    refine ev_bk 3 (S' := (20, [some (.ref 10), some (.ref a1), some (vI x2), some (vI ((S.1 a1 1) - x2)), some (vI 7), none, none, none, none], [.ref 10], hp S, 0, 0)) rfl ?_
    refine mv_gfR rfl rfl (sh_10) (by decide) rfl ?_
    refine ev_bk 1 (S' := (24, [some (.ref 10), some (.ref a1), some (vI x2), some (vI ((S.1 a1 1) - x2)), some (vI 7), none, none, none, none], [.ref a1, .ref 11], hp S, 0, 0)) rfl ?_
    refine mv_gfR rfl rfl (ha1.1) (by decide) rfl ?_
    refine ev_bk 1 (S' := (28, [some (.ref 10), some (.ref a1), some (vI x2), some (vI ((S.1 a1 1) - x2)), some (vI 7), none, none, none, none], [vI x2, .ref (a1 + 1), .ref 11], hp S, 0, 0)) rfl ?_
    obtain ⟨z3, S1, e2, F⟩ := F
    refine mv_cals (as := [.ref (a1 + 1), vI x2]) (rest := [.ref 11]) e2 rfl rfl rfl ⟨rfl, rfl, rfl⟩ rfl rfl rfl rfl ?_
    obtain ⟨b4, F⟩ := F
    refine mv_ial rfl (sh_11) b4 ?_
    refine ev_bk 3 (S' := (37, [some (.ref 10), some (.ref a1), some (vI x2), some (vI ((S.1 a1 1) - x2)), some (vI 7), some (vI (S1.1 11 (w32 z3))), some (vI 0), none, none], [], hp S1, 0, 0)) rfl ?_
    exact F
  · have F := F.2 c
    refine ev_bk 1 (S' := (14, [some (.ref 10), some (.ref a1), some (vI x2), some (vI ((S.1 a1 1) - x2)), none, none, none, none, none], [vI 0], hp S, 0, 0)) rfl ?_
    obtain ⟨rfl, rfl⟩ := F
    exact ev_ret rfl rfl
theorem vc_Finder_longestInFirst_37 {q : Nat × (Nat → Int32)} {S S' : ms} {r : Option Value} (x2 x3 x4 x5 x6 : Int) (a1 na1 : Nat) (ha1 : isRow a1 na1)
    (F : ((w32 (S.1 10 3) ≤ w32 x6) → EV q 218 169 [some (.ref 10), some (.ref a1), some (vI x2), some (vI x3), some (vI x4), some (vI x5), some (vI x6), none, none] [] S r S') ∧ ((¬ w32 (S.1 10 3) ≤ w32 x6) → ((w32 x5 < 0) → EV q 218 169 [some (.ref 10), some (.ref a1), some (vI x2), some (vI x3), some (vI x4), some (vI x5), some (vI x6), none, none] [] S r S') ∧ ((¬ w32 x5 < 0) → ((w32 x3 ≤ w32 x4) → EV q 218 169 [some (.ref 10), some (.ref a1), some (vI x2), some (vI x3), some (vI x4), some (vI x5), some (vI x6), none, none] [] S r S') ∧ ((¬ w32 x3 ≤ w32 x4) → ((w32 (min (w32 x3) (w32 ((S.1 10 3) - x5))) ≤ w32 x4) → EV q 218 154 [some (.ref 10), some (.ref a1), some (vI x2), some (vI x3), some (vI x4), some (vI x5), some (vI x6), some (vI (min (w32 x3) (w32 ((S.1 10 3) - x5)))), none] [] S r S') ∧ ((¬ w32 (min (w32 x3) (w32 ((S.1 10 3) - x5))) ≤ w32 x4) → ∃ (o1 no1 : Nat), S.2.2 10 2 = o1 ∧ SH o1 = (0, no1, []) ∧ (0 ≤ w32 (x5 + x4) ∧ w32 (x5 + x4) < (no1 : Nat)) ∧ (0 ≤ w32 (x2 + x4) ∧ w32 (x2 + x4) < (na1 : Nat)) ∧ ((¬ w32 (S.1 o1 (w32 (x5 + x4))) = w32 (S.1 (a1 + 1) (w32 (x2 + x4)))) → EV q 218 154 [some (.ref 10), some (.ref a1), some (vI x2), some (vI x3), some (vI x4), some (vI x5), some (vI x6), some (vI (min (w32 x3) (w32 ((S.1 10 3) - x5)))), none] [] S r S') ∧ ((¬ (¬ w32 (S.1 o1 (w32 (x5 + x4))) = w32 (S.1 (a1 + 1) (w32 (x2 + x4))))) → EV q 218 102 [some (.ref 10), some (.ref a1), some (vI x2), some (vI x3), some (vI x4), some (vI x5), some (vI x6), some (vI (min (w32 x3) (w32 ((S.1 10 3) - x5)))), some (vI 0)] [] S r S')))))) : EV q 218 37 [some (.ref 10), some (.ref a1), some (vI x2), some (vI x3), some (vI x4), some (vI x5), some (vI x6), none, none] [] S r S' := by
  unfold EV
  refine ev_bk 2 (S' := (40, [some (.ref 10), some (.ref a1), some (vI x2), some (vI x3), some (vI x4), some (vI x5), some (vI x6), none, none], [.ref 10, vI x6], hp S, 0, 0)) rfl ?_
  refine mv_gfI rfl rfl (sh_10) (by decide) rfl ?_
  refine mv_icmp 169 rfl rfl (fun c => ?_) (fun c => ?_)
  · have F := F.1 c
    exact F
  · have F := F.2 c
    refine ev_bk 1 (S' := (48, [some (.ref 10), some (.ref a1), some (vI x2), some (vI x3), some (vI x4), some (vI x5), some (vI x6), none, none], [vI x5], hp S, 0, 0)) rfl ?_
    refine mv_if 169 rfl rfl (fun c => ?_) (fun c => ?_)
    · have F := F.1 c
      exact F
    · have F := F.2 c
      refine ev_bk 2 (S' := (54, [some (.ref 10), some (.ref a1), some (vI x2), some (vI x3), some (vI x4), some (vI x5), some (vI x6), none, none], [vI x3, vI x4], hp S, 0, 0)) rfl ?_
      refine mv_icmp 169 rfl rfl (fun c => ?_) (fun c => ?_)
      · have F := F.1 c
        exact F
      · have F := F.2 c
        refine ev_bk 2 (S' := (59, [some (.ref 10), some (.ref a1), some (vI x2), some (vI x3), some (vI x4), some (vI x5), some (vI x6), none, none], [.ref 10, vI x3], hp S, 0, 0)) rfl ?_
        refine mv_gfI rfl rfl (sh_10) (by decide) rfl ?_
        refine ev_bk 1 (S' := (64, [some (.ref 10), some (.ref a1), some (vI x2), some (vI x3), some (vI x4), some (vI x5), some (vI x6), none, none], [vI x5, vI (S.1 10 3), vI x3], hp S, 0, 0)) rfl ?_
        refine mv_isub rfl ?_
        refine mv_min rfl rfl rfl ?_
        refine ev_bk 3 (S' := (74, [some (.ref 10), some (.ref a1), some (vI x2), some (vI x3), some (vI x4), some (vI x5), some (vI x6), some (vI (min (w32 x3) (w32 ((S.1 10 3) - x5)))), none], [vI (min (w32 x3) (w32 ((S.1 10 3) - x5))), vI x4], hp S, 0, 0)) rfl ?_
        refine mv_icmp 154 rfl rfl (fun c => ?_) (fun c => ?_)
        · have F := F.1 c
          exact F
        · have F := F.2 c
          refine ev_bk 1 (S' := (78, [some (.ref 10), some (.ref a1), some (vI x2), some (vI x3), some (vI x4), some (vI x5), some (vI x6), some (vI (min (w32 x3) (w32 ((S.1 10 3) - x5)))), none], [.ref 10], hp S, 0, 0)) rfl ?_
          obtain ⟨o1, no1, e3, h2, F⟩ := F
          refine mv_gfV rfl rfl (sh_10) (by decide) rfl e3 ?_
          refine ev_bk 2 (S' := (85, [some (.ref 10), some (.ref a1), some (vI x2), some (vI x3), some (vI x4), some (vI x5), some (vI x6), some (vI (min (w32 x3) (w32 ((S.1 10 3) - x5)))), none], [vI x4, vI x5, .ref o1], hp S, 0, 0)) rfl ?_
          refine mv_iadd rfl ?_
          obtain ⟨b4, F⟩ := F
          refine mv_ial rfl (h2) b4 ?_
          refine ev_bk 1 (S' := (88, [some (.ref 10), some (.ref a1), some (vI x2), some (vI x3), some (vI x4), some (vI x5), some (vI x6), some (vI (min (w32 x3) (w32 ((S.1 10 3) - x5)))), none], [.ref a1, vI (S.1 o1 (w32 (x5 + x4)))], hp S, 0, 0)) rfl ?_
          refine mv_gfR rfl rfl (ha1.1) (by decide) rfl ?_
          refine ev_bk 2 (S' := (94, [some (.ref 10), some (.ref a1), some (vI x2), some (vI x3), some (vI x4), some (vI x5), some (vI x6), some (vI (min (w32 x3) (w32 ((S.1 10 3) - x5)))), none], [vI x4, vI x2, .ref (a1 + 1), vI (S.1 o1 (w32 (x5 + x4)))], hp S, 0, 0)) rfl ?_
          refine mv_iadd rfl ?_
          obtain ⟨b5, F⟩ := F
          refine mv_ial rfl (ha1.2) b5 ?_
          refine mv_icmp 154 rfl rfl (fun c => ?_) (fun c => ?_)
          · have F := F.1 c
            exact F
          · have F := F.2 c
            refine ev_bk 2 (S' := (102, [some (.ref 10), some (.ref a1), some (vI x2), some (vI x3), some (vI x4), some (vI x5), some (vI x6), some (vI (min (w32 x3) (w32 ((S.1 10 3) - x5)))), some (vI 0)], [], hp S, 0, 0)) rfl ?_
            exact F
theorem vc_Finder_longestInFirst_102 {q : Nat × (Nat → Int32)} {S S' : ms} {r : Option Value} (x2 x3 x4 x5 x6 x7 x8 : Int) (a1 na1 : Nat) (ha1 : isRow a1 na1)
    (F : ((w32 x7 ≤ w32 x8) → EV q 218 137 [some (.ref 10), some (.ref a1), some (vI x2), some (vI x3), some (vI x4), some (vI x5), some (vI x6), some (vI x7), some (vI x8)] [] S r S') ∧ ((¬ w32 x7 ≤ w32 x8) → ∃ (o1 no1 : Nat), S.2.2 10 2 = o1 ∧ SH o1 = (0, no1, []) ∧ (0 ≤ w32 (x5 + x8) ∧ w32 (x5 + x8) < (no1 : Nat)) ∧ (0 ≤ w32 (x2 + x8) ∧ w32 (x2 + x8) < (na1 : Nat)) ∧ ((¬ w32 (S.1 o1 (w32 (x5 + x8))) = w32 (S.1 (a1 + 1) (w32 (x2 + x8)))) → EV q 218 137 [some (.ref 10), some (.ref a1), some (vI x2), some (vI x3), some (vI x4), some (vI x5), some (vI x6), some (vI x7), some (vI x8)] [] S r S') ∧ ((¬ (¬ w32 (S.1 o1 (w32 (x5 + x8))) = w32 (S.1 (a1 + 1) (w32 (x2 + x8))))) → EV q 218 102 [some (.ref 10), some (.ref a1), some (vI x2), some (vI x3), some (vI x4), some (vI x5), some (vI x6), some (vI x7), some (vI (x8 + 1))] [] S r S'))) : EV q 218 102 [some (.ref 10), some (.ref a1), some (vI x2), some (vI x3), some (vI x4), some (vI x5), some (vI x6), some (vI x7), some (vI x8)] [] S r S' := by
  unfold EV
  refine ev_bk 2 (S' := (106, [some (.ref 10), some (.ref a1), some (vI x2), some (vI x3), some (vI x4), some (vI x5), some (vI x6), some (vI x7), some (vI x8)], [vI x7, vI x8], hp S, 0, 0)) rfl ?_
  refine mv_icmp 137 rfl rfl (fun c => ?_) (fun c => ?_)
  · have F := F.1 c
    exact F
  · have F := F.2 c
    refine ev_bk 1 (S' := (110, [some (.ref 10), some (.ref a1), some (vI x2), some (vI x3), some (vI x4), some (vI x5), some (vI x6), some (vI x7), some (vI x8)], [.ref 10], hp S, 0, 0)) rfl ?_
    obtain ⟨o1, no1, e3, h2, F⟩ := F
    refine mv_gfV rfl rfl (sh_10) (by decide) rfl e3 ?_
    refine ev_bk 2 (S' := (117, [some (.ref 10), some (.ref a1), some (vI x2), some (vI x3), some (vI x4), some (vI x5), some (vI x6), some (vI x7), some (vI x8)], [vI x8, vI x5, .ref o1], hp S, 0, 0)) rfl ?_
    refine mv_iadd rfl ?_
    obtain ⟨b4, F⟩ := F
    refine mv_ial rfl (h2) b4 ?_
    refine ev_bk 1 (S' := (120, [some (.ref 10), some (.ref a1), some (vI x2), some (vI x3), some (vI x4), some (vI x5), some (vI x6), some (vI x7), some (vI x8)], [.ref a1, vI (S.1 o1 (w32 (x5 + x8)))], hp S, 0, 0)) rfl ?_
    refine mv_gfR rfl rfl (ha1.1) (by decide) rfl ?_
    refine ev_bk 2 (S' := (126, [some (.ref 10), some (.ref a1), some (vI x2), some (vI x3), some (vI x4), some (vI x5), some (vI x6), some (vI x7), some (vI x8)], [vI x8, vI x2, .ref (a1 + 1), vI (S.1 o1 (w32 (x5 + x8)))], hp S, 0, 0)) rfl ?_
    refine mv_iadd rfl ?_
    obtain ⟨b5, F⟩ := F
    refine mv_ial rfl (ha1.2) b5 ?_
    refine mv_icmp 137 rfl rfl (fun c => ?_) (fun c => ?_)
    · have F := F.1 c
      exact F
    · have F := F.2 c
      refine mv_inc (lv' := [some (.ref 10), some (.ref a1), some (vI x2), some (vI x3), some (vI x4), some (vI x5), some (vI x6), some (vI x7), some (vI (x8 + 1))]) 8 1 rfl rfl rfl rfl ?_
      refine mv_goto 102 rfl rfl ?_
      exact F
theorem vc_Finder_longestInFirst_137 {q : Nat × (Nat → Int32)} {S S' : ms} {r : Option Value} (x2 x3 x4 x5 x6 x7 x8 : Int) (a1 na1 : Nat) (ha1 : isRow a1 na1)
    (F : ((w32 x8 ≤ w32 x4) → EV q 218 154 [some (.ref 10), some (.ref a1), some (vI x2), some (vI x3), some (vI x4), some (vI x5), some (vI x6), some (vI x7), none] [] S r S') ∧ ((¬ w32 x8 ≤ w32 x4) → ∀ S1 : ms, S1 = wI S 10 4 x5 → EV q 218 154 [some (.ref 10), some (.ref a1), some (vI x2), some (vI x3), some (vI x8), some (vI x5), some (vI x6), some (vI x7), none] [] S1 r S')) : EV q 218 137 [some (.ref 10), some (.ref a1), some (vI x2), some (vI x3), some (vI x4), some (vI x5), some (vI x6), some (vI x7), some (vI x8)] [] S r S' := by
  unfold EV
  refine ev_bk 2 (S' := (141, [some (.ref 10), some (.ref a1), some (vI x2), some (vI x3), some (vI x4), some (vI x5), some (vI x6), some (vI x7), some (vI x8)], [vI x4, vI x8], hp S, 0, 0)) rfl ?_
  refine mv_icmp 154 rfl rfl (fun c => ?_) (fun c => ?_)
  · have F := F.1 c
    exact ev_wk (le_s (le_s (le_s (le_s (le_s (le_s (le_s (le_s (le_n le_0))))))))) F
  · have F := F.2 c
    refine ev_bk 4 (S' := (151, [some (.ref 10), some (.ref a1), some (vI x2), some (vI x3), some (vI x8), some (vI x5), some (vI x6), some (vI x7), some (vI x8)], [vI x5, .ref 10], hp S, 0, 0)) rfl ?_
    refine mv_pfI rfl rfl (sh_10) (by decide) rfl rfl ?_
    have F := F _ rfl
    exact ev_wk (le_s (le_s (le_s (le_s (le_s (le_s (le_s (le_s (le_n le_0))))))))) F
theorem vc_Finder_longestInFirst_154 {q : Nat × (Nat → Int32)} {S S' : ms} {r : Option Value} (x2 x3 x4 x5 x6 x7 : Int) (a1 na1 : Nat) (ha1 : isRow a1 na1)
    (F : (0 ≤ w32 x5 ∧ w32 x5 < (12000 : Nat)) ∧ EV q 218 37 [some (.ref 10), some (.ref a1), some (vI x2), some (vI x3), some (vI x4), some (vI (S.1 12 (w32 x5))), some (vI (x6 + 1)), none, none] [] S r S') : EV q 218 154 [some (.ref 10), some (.ref a1), some (vI x2), some (vI x3), some (vI x4), some (vI x5), some (vI x6), some (vI x7), none] [] S r S' := by
  unfold EV
  refine ev_bk 1 (S' := (155, [some (.ref 10), some (.ref a1), some (vI x2), some (vI x3), some (vI x4), some (vI x5), some (vI x6), some (vI x7), none], [.ref 10], hp S, 0, 0)) rfl ?_
  refine mv_gfR rfl rfl (sh_10) (by decide) rfl ?_
  refine ev_bk 1 (S' := (160, [some (.ref 10), some (.ref a1), some (vI x2), some (vI x3), some (vI x4), some (vI x5), some (vI x6), some (vI x7), none], [vI x5, .ref 12], hp S, 0, 0)) rfl ?_
  obtain ⟨b1, F⟩ := F
  refine mv_ial rfl (sh_12) b1 ?_
  refine ev_bk 1 (S' := (163, [some (.ref 10), some (.ref a1), some (vI x2), some (vI x3), some (vI x4), some (vI (S.1 12 (w32 x5))), some (vI x6), some (vI x7), none], [], hp S, 0, 0)) rfl ?_
  refine mv_inc (lv' := [some (.ref 10), some (.ref a1), some (vI x2), some (vI x3), some (vI x4), some (vI (S.1 12 (w32 x5))), some (vI (x6 + 1)), some (vI x7), none]) 6 1 rfl rfl rfl rfl ?_
  refine mv_goto 37 rfl rfl ?_
  exact ev_wk (le_s (le_s (le_s (le_s (le_s (le_s (le_s (le_n (le_s le_0))))))))) F
theorem vc_Finder_longestInFirst_169 {q : Nat × (Nat → Int32)} {S S' : ms} {r : Option Value} (x2 x3 x4 x5 x6 : Int) (a1 na1 : Nat) (ha1 : isRow a1 na1)
    (F : ((8 ≤ w32 x4) → r = some (vI x4) ∧ S' = S) ∧ ((¬ 8 ≤ w32 x4) → r = some (vI 0) ∧ S' = S)) : EV q 218 169 [some (.ref 10), some (.ref a1), some (vI x2), some (vI x3), some (vI x4), some (vI x5), some (vI x6), none, none] [] S r S' := by
  unfold EV
  refine ev_bk 2 (S' := (173, [some (.ref 10), some (.ref a1), some (vI x2), some (vI x3), some (vI x4), some (vI x5), some (vI x6), none, none], [vI 8, vI x4], hp S, 0, 0)) rfl ?_
  refine mv_icmp 180 rfl rfl (fun c => ?_) (fun c => ?_)
  · have F := F.1 c
    refine ev_bk 1 (S' := (182, [some (.ref 10), some (.ref a1), some (vI x2), some (vI x3), some (vI x4), some (vI x5), some (vI x6), none, none], [vI x4], hp S, 0, 0)) rfl ?_
    obtain ⟨rfl, rfl⟩ := F
    exact ev_ret rfl rfl
  · have F := F.2 c
    refine ev_bk 1 (S' := (177, [some (.ref 10), some (.ref a1), some (vI x2), some (vI x3), some (vI x4), some (vI x5), some (vI x6), none, none], [vI 0], hp S, 0, 0)) rfl ?_
    refine mv_goto 182 rfl rfl ?_
    obtain ⟨rfl, rfl⟩ := F
    exact ev_ret rfl rfl
