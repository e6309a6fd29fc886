/-! what is to be shown of each method, by program (wip/gen/vcall.py) -/
theorem vc_Shelf_addEntry {q : Nat × (Nat → Int32)} {S S' : ms} {r : Option Value} (x2 x3 x5 x6 : Int) (a0 : Nat) (ha0 : isShelf a0) (a1 na1 : Nat) (ha1 : isRow a1 na1) (a4 na4 : Nat) (ha4 : SH a4 = (0, na4, []))
    (F : ((w32 (S.1 a0 4) < 0) → r = none ∧ S' = S) ∧ ((¬ w32 (S.1 a0 4) < 0) → ((w32 (S.1 a0 4) < 16) → (0 ≤ w32 (S.1 a0 4) ∧ w32 (S.1 a0 4) < (16 : Nat)) ∧ ∃ (o2 no2 : Nat), sh_r (SH (a0 + 1)).2.2 (w32 (S.1 a0 4)).toNat = some o2 ∧ isRow o2 no2 ∧ ∃ (S5 : ms), EV q 37 0 [some (.ref o2)] [] S none S5 ∧ (0 ≤ w32 (S5.1 a0 4) ∧ w32 (S5.1 a0 4) < (16 : Nat)) ∧ ∃ (o8 no8 : Nat), sh_r (SH (a0 + 1)).2.2 (w32 (S5.1 a0 4)).toNat = some o8 ∧ isRow o8 no8 ∧ ∃ (S11 : ms), EV q 38 0 [some (.ref o8), some (.ref (a1 + 1)), some (vI 0), some (vI (S5.1 a1 1)), none] [] S5 none S11 ∧ (0 ≤ w32 (S11.1 a0 4) ∧ w32 (S11.1 a0 4) < (16 : Nat)) ∧ ∃ (o14 no14 : Nat), sh_r (SH (a0 + 2)).2.2 (w32 (S11.1 a0 4)).toNat = some o14 ∧ isRow o14 no14 ∧ ∃ (S17 : ms), EV q 37 0 [some (.ref o14)] [] S11 none S17 ∧ (0 ≤ w32 (S17.1 a0 4) ∧ w32 (S17.1 a0 4) < (16 : Nat)) ∧ ∃ (o20 no20 : Nat), sh_r (SH (a0 + 2)).2.2 (w32 (S17.1 a0 4)).toNat = some o20 ∧ isRow o20 no20 ∧ ∃ (S23 : ms), EV q 38 0 [some (.ref o20), some (.ref a4), some (vI x5), some (vI (x5 + x6)), none] [] S17 none S23 ∧ (0 ≤ w32 (S23.1 a0 4) ∧ w32 (S23.1 a0 4) < (16 : Nat)) ∧ ∀ S26 : ms, S26 = wI S23 (a0 + 3) (w32 (S23.1 a0 4)) x2 → (0 ≤ w32 (S26.1 a0 4) ∧ w32 (S26.1 a0 4) < (16 : Nat)) ∧ ∀ S28 : ms, S28 = wI S26 (a0 + 4) (w32 (S26.1 a0 4)) x3 → ∀ S29 : ms, S29 = wI S28 a0 4 (S28.1 a0 4 + 1) → r = none ∧ S' = S29) ∧ ((¬ w32 (S.1 a0 4) < 16) → r = none ∧ S' = S))) : EV q 180 0 [some (.ref a0), some (.ref a1), some (vI x2), some (vI x3), some (.ref a4), some (vI x5), some (vI x6)] [] S r S' := by
  unfold EV
  refine ev_bk 1 (S' := (1, [some (.ref a0), some (.ref a1), some (vI x2), some (vI x3), some (.ref a4), some (vI x5), some (vI x6)], [.ref a0], hp S, 0, 0)) rfl ?_
  refine mv_gfI rfl rfl (ha0.1) (by decide) rfl ?_
  refine mv_if 16 rfl rfl (fun c => ?_) (fun c => ?_)
  · have F := F.1 c
    obtain ⟨rfl, rfl⟩ := F
    exact ev_ret rfl rfl
  · have F := F.2 c
    refine ev_bk 1 (S' := (8, [some (.ref a0), some (.ref a1), some (vI x2), some (vI x3), some (.ref a4), some (vI x5), some (vI x6)], [.ref a0], hp S, 0, 0)) rfl ?_
    refine mv_gfI rfl rfl (ha0.1) (by decide) rfl ?_
    refine ev_bk 1 (S' := (13, [some (.ref a0), some (.ref a1), some (vI x2), some (vI x3), some (.ref a4), some (vI x5), some (vI x6)], [vI 16, vI (S.1 a0 4)], hp S, 0, 0)) rfl ?_
    refine mv_icmp 17 rfl rfl (fun c => ?_) (fun c => ?_)
    · have F := F.1 c
      refine ev_bk 1 (S' := (18, [some (.ref a0), some (.ref a1), some (vI x2), some (vI x3), some (.ref a4), some (vI x5), some (vI x6)], [.ref a0], hp S, 0, 0)) rfl ?_
      refine mv_gfR rfl rfl (ha0.1) (by decide) rfl ?_
      refine ev_bk 1 (S' := (22, [some (.ref a0), some (.ref a1), some (vI x2), some (vI x3), some (.ref a4), some (vI x5), some (vI x6)], [.ref a0, .ref (a0 + 1)], hp S, 0, 0)) rfl ?_
      refine mv_gfI rfl rfl (ha0.1) (by decide) rfl ?_
      obtain ⟨b1, o2, no2, e4, h3, F⟩ := F
      refine mv_aaV rfl (ha0.2.1) (Or.inl rfl) b1 e4 ?_
      obtain ⟨S5, e6, F⟩ := F
      refine mv_calv (as := []) (rest := []) e6 (h3.1) rfl rfl rfl ⟨rfl, rfl⟩ rfl rfl rfl rfl rfl ?_
      refine ev_bk 1 (S' := (30, [some (.ref a0), some (.ref a1), some (vI x2), some (vI x3), some (.ref a4), some (vI x5), some (vI x6)], [.ref a0], hp S5, 0, 0)) rfl ?_
      refine mv_gfR rfl rfl (ha0.1) (by decide) rfl ?_
      refine ev_bk 1 (S' := (34, [some (.ref a0), some (.ref a1), some (vI x2), some (vI x3), some (.ref a4), some (vI x5), some (vI x6)], [.ref a0, .ref (a0 + 1)], hp S5, 0, 0)) rfl ?_
      refine mv_gfI rfl rfl (ha0.1) (by decide) rfl ?_
      obtain ⟨b7, o8, no8, e10, h9, F⟩ := F
      refine mv_aaV rfl (ha0.2.1) (Or.inl rfl) b7 e10 ?_
      refine ev_bk 1 (S' := (39, [some (.ref a0), some (.ref a1), some (vI x2), some (vI x3), some (.ref a4), some (vI x5), some (vI x6)], [.ref a1, .ref o8], hp S5, 0, 0)) rfl ?_
      refine mv_gfR rfl rfl (ha1.1) (by decide) rfl ?_
      refine ev_bk 2 (S' := (44, [some (.ref a0), some (.ref a1), some (vI x2), some (vI x3), some (.ref a4), some (vI x5), some (vI x6)], [.ref a1, vI 0, .ref (a1 + 1), .ref o8], hp S5, 0, 0)) rfl ?_
      refine mv_gfI rfl rfl (ha1.1) (by decide) rfl ?_
      obtain ⟨S11, e12, F⟩ := F
      refine mv_calv (as := [.ref (a1 + 1), vI 0, vI (S5.1 a1 1)]) (rest := []) e12 (h9.1) rfl rfl rfl ⟨rfl, rfl⟩ rfl rfl rfl rfl rfl ?_
      refine ev_bk 1 (S' := (51, [some (.ref a0), some (.ref a1), some (vI x2), some (vI x3), some (.ref a4), some (vI x5), some (vI x6)], [.ref a0], hp S11, 0, 0)) rfl ?_
      refine mv_gfR rfl rfl (ha0.1) (by decide) rfl ?_
      refine ev_bk 1 (S' := (55, [some (.ref a0), some (.ref a1), some (vI x2), some (vI x3), some (.ref a4), some (vI x5), some (vI x6)], [.ref a0, .ref (a0 + 2)], hp S11, 0, 0)) rfl ?_
      refine mv_gfI rfl rfl (ha0.1) (by decide) rfl ?_
      obtain ⟨b13, o14, no14, e16, h15, F⟩ := F
      refine mv_aaV rfl (ha0.2.2.1) (Or.inl rfl) b13 e16 ?_
      obtain ⟨S17, e18, F⟩ := F
      refine mv_calv (as := []) (rest := []) e18 (h15.1) rfl rfl rfl ⟨rfl, rfl⟩ rfl rfl rfl rfl rfl ?_
      refine ev_bk 1 (S' := (63, [some (.ref a0), some (.ref a1), some (vI x2), some (vI x3), some (.ref a4), some (vI x5), some (vI x6)], [.ref a0], hp S17, 0, 0)) rfl ?_
      refine mv_gfR rfl rfl (ha0.1) (by decide) rfl ?_
      refine ev_bk 1 (S' := (67, [some (.ref a0), some (.ref a1), some (vI x2), some (vI x3), some (.ref a4), some (vI x5), some (vI x6)], [.ref a0, .ref (a0 + 2)], hp S17, 0, 0)) rfl ?_
      refine mv_gfI rfl rfl (ha0.1) (by decide) rfl ?_
      obtain ⟨b19, o20, no20, e22, h21, F⟩ := F
      refine mv_aaV rfl (ha0.2.2.1) (Or.inl rfl) b19 e22 ?_
      refine ev_bk 4 (S' := (79, [some (.ref a0), some (.ref a1), some (vI x2), some (vI x3), some (.ref a4), some (vI x5), some (vI x6)], [vI x6, vI x5, vI x5, .ref a4, .ref o20], hp S17, 0, 0)) rfl ?_
      refine mv_iadd rfl ?_
      obtain ⟨S23, e24, F⟩ := F
      refine mv_calv (as := [.ref a4, vI x5, vI (x5 + x6)]) (rest := []) e24 (h21.1) rfl rfl rfl ⟨rfl, rfl⟩ rfl rfl rfl rfl rfl ?_
      refine ev_bk 1 (S' := (84, [some (.ref a0), some (.ref a1), some (vI x2), some (vI x3), some (.ref a4), some (vI x5), some (vI x6)], [.ref a0], hp S23, 0, 0)) rfl ?_
      refine mv_gfR rfl rfl (ha0.1) (by decide) rfl ?_
      refine ev_bk 1 (S' := (88, [some (.ref a0), some (.ref a1), some (vI x2), some (vI x3), some (.ref a4), some (vI x5), some (vI x6)], [.ref a0, .ref (a0 + 3)], hp S23, 0, 0)) rfl ?_
      refine mv_gfI rfl rfl (ha0.1) (by decide) rfl ?_
      refine ev_bk 1 (S' := (92, [some (.ref a0), some (.ref a1), some (vI x2), some (vI x3), some (.ref a4), some (vI x5), some (vI x6)], [vI x2, vI (S23.1 a0 4), .ref (a0 + 3)], hp S23, 0, 0)) rfl ?_
      obtain ⟨b25, F⟩ := F
      refine mv_ias rfl (ha0.2.2.2.1) b25 ?_
      have F := F _ rfl
      refine ev_bk 1 (S' := (94, [some (.ref a0), some (.ref a1), some (vI x2), some (vI x3), some (.ref a4), some (vI x5), some (vI x6)], [.ref a0], hp (wI S23 (a0 + 3) (w32 (S23.1 a0 4)) x2), 0, 0)) rfl ?_
      refine mv_gfR rfl rfl (ha0.1) (by decide) rfl ?_
      refine ev_bk 1 (S' := (98, [some (.ref a0), some (.ref a1), some (vI x2), some (vI x3), some (.ref a4), some (vI x5), some (vI x6)], [.ref a0, .ref (a0 + 4)], hp (wI S23 (a0 + 3) (w32 (S23.1 a0 4)) x2), 0, 0)) rfl ?_
      refine mv_gfI rfl rfl (ha0.1) (by decide) rfl ?_
      refine ev_bk 1 (S' := (102, [some (.ref a0), some (.ref a1), some (vI x2), some (vI x3), some (.ref a4), some (vI x5), some (vI x6)], [vI x3, vI ((wI S23 (a0 + 3) (w32 (S23.1 a0 4)) x2).1 a0 4), .ref (a0 + 4)], hp (wI S23 (a0 + 3) (w32 (S23.1 a0 4)) x2), 0, 0)) rfl ?_
      obtain ⟨b27, F⟩ := F
      refine mv_ias rfl (ha0.2.2.2.2.1) b27 ?_
      have F := F _ rfl
      refine ev_bk 2 (S' := (105, [some (.ref a0), some (.ref a1), some (vI x2), some (vI x3), some (.ref a4), some (vI x5), some (vI x6)], [.ref a0, .ref a0], hp (wI (wI S23 (a0 + 3) (w32 (S23.1 a0 4)) x2) (a0 + 4) (w32 ((wI S23 (a0 + 3) (w32 (S23.1 a0 4)) x2).1 a0 4)) x3), 0, 0)) rfl ?_
      refine mv_gfI rfl rfl (ha0.1) (by decide) rfl ?_
      refine ev_bk 1 (S' := (109, [some (.ref a0), some (.ref a1), some (vI x2), some (vI x3), some (.ref a4), some (vI x5), some (vI x6)], [vI 1, vI ((wI (wI S23 (a0 + 3) (w32 (S23.1 a0 4)) x2) (a0 + 4) (w32 ((wI S23 (a0 + 3) (w32 (S23.1 a0 4)) x2).1 a0 4)) x3).1 a0 4), .ref a0], hp (wI (wI S23 (a0 + 3) (w32 (S23.1 a0 4)) x2) (a0 + 4) (w32 ((wI S23 (a0 + 3) (w32 (S23.1 a0 4)) x2).1 a0 4)) x3), 0, 0)) rfl ?_
      refine mv_iadd rfl ?_
      refine mv_pfI rfl rfl (ha0.1) (by decide) rfl rfl ?_
      have F := F _ rfl
      obtain ⟨rfl, rfl⟩ := F
      exact ev_ret rfl rfl
    · have F := F.2 c
      obtain ⟨rfl, rfl⟩ := F
      exact ev_ret rfl rfl
theorem vc_Shelf_fitsBench {q : Nat × (Nat → Int32)} {S S' : ms} {r : Option Value} (a0 : Nat) (ha0 : isShelf a0)
    (F : EV q 182 2 [some (.ref a0), some (vI 0), none, none] [] S r S') : EV q 182 0 [some (.ref a0), none, none, none] [] S r S' := by
  unfold EV
  refine ev_bk 2 (S' := (2, [some (.ref a0), some (vI 0), none, none], [], hp S, 0, 0)) rfl ?_
  exact F
theorem vc_Shelf_fitsBench_2 {q : Nat × (Nat → Int32)} {S S' : ms} {r : Option Value} (x1 : Int) (a0 : Nat) (ha0 : isShelf a0)
    (F : ((w32 (S.1 a0 4) ≤ w32 x1) → r = some (vI 1) ∧ S' = S) ∧ ((¬ w32 (S.1 a0 4) ≤ w32 x1) → (0 ≤ w32 x1 ∧ w32 x1 < (16 : Nat)) ∧ ∃ (o2 no2 : Nat), sh_r (SH (a0 + 1)).2.2 (w32 x1).toNat = some o2 ∧ isRow o2 no2 ∧ ((16 ≤ w32 (S.1 o2 1)) → EV q 182 29 [some (.ref a0), some (vI x1), none, none] [vI 0] S r S') ∧ ((¬ 16 ≤ w32 (S.1 o2 1)) → EV q 182 29 [some (.ref a0), some (vI x1), none, none] [vI 1] S r S'))) : EV q 182 2 [some (.ref a0), some (vI x1), none, none] [] S r S' := by
  unfold EV
  refine ev_bk 2 (S' := (4, [some (.ref a0), some (vI x1), none, none], [.ref a0, vI x1], hp S, 0, 0)) rfl ?_
  refine mv_gfI rfl rfl (ha0.1) (by decide) rfl ?_
  refine mv_icmp 103 rfl rfl (fun c => ?_) (fun c => ?_)
  · have F := F.1 c
    refine ev_bk 1 (S' := (104, [some (.ref a0), some (vI x1), none, none], [vI 1], hp S, 0, 0)) rfl ?_
    obtain ⟨rfl, rfl⟩ := F
    exact ev_ret rfl rfl
  · have F := F.2 c
    refine ev_bk 1 (S' := (11, [some (.ref a0), some (vI x1), none, none], [.ref a0], hp S, 0, 0)) rfl ?_
    refine mv_gfR rfl rfl (ha0.1) (by decide) rfl ?_
    refine ev_bk 1 (S' := (15, [some (.ref a0), some (vI x1), none, none], [vI x1, .ref (a0 + 1)], hp S, 0, 0)) rfl ?_
    obtain ⟨b1, o2, no2, e4, h3, F⟩ := F
    refine mv_aaV rfl (ha0.2.1) (Or.inl rfl) b1 e4 ?_
    refine mv_gfI rfl rfl (h3.1) (by decide) rfl ?_
    refine ev_bk 1 (S' := (21, [some (.ref a0), some (vI x1), none, none], [vI 16, vI (S.1 o2 1)], hp S, 0, 0)) rfl ?_
    refine mv_icmp 28 rfl rfl (fun c => ?_) (fun c => ?_)
    · have F := F.1 c
      refine ev_bk 1 (S' := (29, [some (.ref a0), some (vI x1), none, none], [vI 0], hp S, 0, 0)) rfl ?_
      exact F
    · have F := F.2 c
      refine ev_bk 1 (S' := (25, [some (.ref a0), some (vI x1), none, none], [vI 1], hp S, 0, 0)) rfl ?_
      refine mv_goto 29 rfl rfl ?_
      exact F
theorem vc_Shelf_fitsBench_29 {q : Nat × (Nat → Int32)} {S S' : ms} {r : Option Value} (x1 y0 : Int) (a0 : Nat) (ha0 : isShelf a0)
    (F : EV q 182 32 [some (.ref a0), some (vI x1), some (vI y0), some (vI 0)] [] S r S') : EV q 182 29 [some (.ref a0), some (vI x1), none, none] [vI y0] S r S' := by
  unfold EV
  refine ev_bk 3 (S' := (32, [some (.ref a0), some (vI x1), some (vI y0), some (vI 0)], [], hp S, 0, 0)) rfl ?_
  exact F
theorem vc_Shelf_fitsBench_32 {q : Nat × (Nat → Int32)} {S S' : ms} {r : Option Value} (x1 x2 x3 : Int) (a0 : Nat) (ha0 : isShelf a0)
    (F : (0 ≤ w32 x1 ∧ w32 x1 < (16 : Nat)) ∧ ∃ (o2 no2 : Nat), sh_r (SH (a0 + 1)).2.2 (w32 x1).toNat = some o2 ∧ isRow o2 no2 ∧ ((w32 (S.1 o2 1) ≤ w32 x3) → ((¬ w32 x2 = 0) → EV q 182 2 [some (.ref a0), some (vI (x1 + 1)), none, none] [] S r S') ∧ ((¬ (¬ w32 x2 = 0)) → r = some (vI 0) ∧ S' = S)) ∧ ((¬ w32 (S.1 o2 1) ≤ w32 x3) → (0 ≤ w32 x1 ∧ w32 x1 < (16 : Nat)) ∧ ∃ (o6 no6 : Nat), sh_r (SH (a0 + 1)).2.2 (w32 x1).toNat = some o6 ∧ isRow o6 no6 ∧ (0 ≤ w32 x3 ∧ w32 x3 < (no6 : Nat)) ∧ ((w32 (S.1 (o6 + 1) (w32 x3)) = 47) → EV q 182 82 [some (.ref a0), some (vI x1), some (vI x2), some (vI x3)] [vI x2] S r S') ∧ ((¬ w32 (S.1 (o6 + 1) (w32 x3)) = 47) → (0 ≤ w32 x1 ∧ w32 x1 < (16 : Nat)) ∧ ∃ (o11 no11 : Nat), sh_r (SH (a0 + 1)).2.2 (w32 x1).toNat = some o11 ∧ isRow o11 no11 ∧ (0 ≤ w32 x3 ∧ w32 x3 < (no11 : Nat)) ∧ ((w32 (S.1 (o11 + 1) (w32 x3)) = 32) → EV q 182 82 [some (.ref a0), some (vI x1), some (vI x2), some (vI x3)] [vI x2] S r S') ∧ ((¬ w32 (S.1 (o11 + 1) (w32 x3)) = 32) → EV q 182 83 [some (.ref a0), some (vI x1), some (vI x2), some (vI x3)] [vI 1, vI x2] S r S')))) : EV q 182 32 [some (.ref a0), some (vI x1), some (vI x2), some (vI x3)] [] S r S' := by
  unfold EV
  refine ev_bk 2 (S' := (34, [some (.ref a0), some (vI x1), some (vI x2), some (vI x3)], [.ref a0, vI x3], hp S, 0, 0)) rfl ?_
  refine mv_gfR rfl rfl (ha0.1) (by decide) rfl ?_
  refine ev_bk 1 (S' := (38, [some (.ref a0), some (vI x1), some (vI x2), some (vI x3)], [vI x1, .ref (a0 + 1), vI x3], hp S, 0, 0)) rfl ?_
  obtain ⟨b1, o2, no2, e4, h3, F⟩ := F
  refine mv_aaV rfl (ha0.2.1) (Or.inl rfl) b1 e4 ?_
  refine mv_gfI rfl rfl (h3.1) (by decide) rfl ?_
  refine mv_icmp 91 rfl rfl (fun c => ?_) (fun c => ?_)
  · have F := F.1 c
    refine ev_bk 1 (S' := (92, [some (.ref a0), some (vI x1), some (vI x2), some (vI x3)], [vI x2], hp S, 0, 0)) rfl ?_
    refine mv_if 97 rfl rfl (fun c => ?_) (fun c => ?_)
    · have F := F.1 c
      refine mv_inc (lv' := [some (.ref a0), some (vI (x1 + 1)), some (vI x2), some (vI x3)]) 1 1 rfl rfl rfl rfl ?_
      refine mv_goto 2 rfl rfl ?_
      exact ev_wk (le_s (le_s (le_n (le_n le_0)))) F
    · have F := F.2 c
      refine ev_bk 1 (S' := (96, [some (.ref a0), some (vI x1), some (vI x2), some (vI x3)], [vI 0], hp S, 0, 0)) rfl ?_
      obtain ⟨rfl, rfl⟩ := F
      exact ev_ret rfl rfl
  · have F := F.2 c
    refine ev_bk 2 (S' := (47, [some (.ref a0), some (vI x1), some (vI x2), some (vI x3)], [.ref a0, vI x2], hp S, 0, 0)) rfl ?_
    refine mv_gfR rfl rfl (ha0.1) (by decide) rfl ?_
    refine ev_bk 1 (S' := (51, [some (.ref a0), some (vI x1), some (vI x2), some (vI x3)], [vI x1, .ref (a0 + 1), vI x2], hp S, 0, 0)) rfl ?_
    obtain ⟨b5, o6, no6, e8, h7, F⟩ := F
    refine mv_aaV rfl (ha0.2.1) (Or.inl rfl) b5 e8 ?_
    refine mv_gfR rfl rfl (h7.1) (by decide) rfl ?_
    refine ev_bk 1 (S' := (56, [some (.ref a0), some (vI x1), some (vI x2), some (vI x3)], [vI x3, .ref (o6 + 1), vI x2], hp S, 0, 0)) rfl ?_
    obtain ⟨b9, F⟩ := F
    refine mv_ial rfl (h7.2) b9 ?_
    refine ev_bk 1 (S' := (59, [some (.ref a0), some (vI x1), some (vI x2), some (vI x3)], [vI 47, vI (S.1 (o6 + 1) (w32 x3)), vI x2], hp S, 0, 0)) rfl ?_
    refine mv_icmp 82 rfl rfl (fun c => ?_) (fun c => ?_)
    · have F := F.1 c
      exact F
    · have F := F.2 c
      refine ev_bk 1 (S' := (63, [some (.ref a0), some (vI x1), some (vI x2), some (vI x3)], [.ref a0, vI x2], hp S, 0, 0)) rfl ?_
      refine mv_gfR rfl rfl (ha0.1) (by decide) rfl ?_
      refine ev_bk 1 (S' := (67, [some (.ref a0), some (vI x1), some (vI x2), some (vI x3)], [vI x1, .ref (a0 + 1), vI x2], hp S, 0, 0)) rfl ?_
      obtain ⟨b10, o11, no11, e13, h12, F⟩ := F
      refine mv_aaV rfl (ha0.2.1) (Or.inl rfl) b10 e13 ?_
      refine mv_gfR rfl rfl (h12.1) (by decide) rfl ?_
      refine ev_bk 1 (S' := (72, [some (.ref a0), some (vI x1), some (vI x2), some (vI x3)], [vI x3, .ref (o11 + 1), vI x2], hp S, 0, 0)) rfl ?_
      obtain ⟨b14, F⟩ := F
      refine mv_ial rfl (h12.2) b14 ?_
      refine ev_bk 1 (S' := (75, [some (.ref a0), some (vI x1), some (vI x2), some (vI x3)], [vI 32, vI (S.1 (o11 + 1) (w32 x3)), vI x2], hp S, 0, 0)) rfl ?_
      refine mv_icmp 82 rfl rfl (fun c => ?_) (fun c => ?_)
      · have F := F.1 c
        exact F
      · have F := F.2 c
        refine ev_bk 1 (S' := (79, [some (.ref a0), some (vI x1), some (vI x2), some (vI x3)], [vI 1, vI x2], hp S, 0, 0)) rfl ?_
        refine mv_goto 83 rfl rfl ?_
        exact F
theorem vc_Shelf_fitsBench_82 {q : Nat × (Nat → Int32)} {S S' : ms} {r : Option Value} (x1 x2 x3 y0 : Int) (a0 : Nat) (ha0 : isShelf a0)
    (F : EV q 182 83 [some (.ref a0), some (vI x1), some (vI x2), some (vI x3)] [vI 0, vI y0] S r S') : EV q 182 82 [some (.ref a0), some (vI x1), some (vI x2), some (vI x3)] [vI y0] S r S' := by
  unfold EV
  refine ev_bk 1 (S' := (83, [some (.ref a0), some (vI x1), some (vI x2), some (vI x3)], [vI 0, vI y0], hp S, 0, 0)) rfl ?_
  exact F
theorem vc_Shelf_fitsBench_83 {q : Nat × (Nat → Int32)} {S S' : ms} {r : Option Value} (x1 x2 x3 y0 y1 : Int) (a0 : Nat) (ha0 : isShelf a0)
    (F : EV q 182 32 [some (.ref a0), some (vI x1), some (vI (bA y1 y0)), some (vI (x3 + 1))] [] S r S') : EV q 182 83 [some (.ref a0), some (vI x1), some (vI x2), some (vI x3)] [vI y0, vI y1] S r S' := by
  unfold EV
  refine mv_iand rfl ?_
  refine ev_bk 1 (S' := (85, [some (.ref a0), some (vI x1), some (vI (bA y1 y0)), some (vI x3)], [], hp S, 0, 0)) rfl ?_
  refine mv_inc (lv' := [some (.ref a0), some (vI x1), some (vI (bA y1 y0)), some (vI (x3 + 1))]) 3 1 rfl rfl rfl rfl ?_
  refine mv_goto 32 rfl rfl ?_
  exact F
theorem vc_Shelf_writeTape {q : Nat × (Nat → Int32)} {S S' : ms} {r : Option Value} (a0 : Nat) (ha0 : isShelf a0) (a1 na1 : Nat) (ha1 : isRow a1 na1)
    (F : EV q 183 2 [some (.ref a0), some (.ref a1), some (vI 0)] [] S r S') : EV q 183 0 [some (.ref a0), some (.ref a1), none] [] S r S' := by
  unfold EV
  refine ev_bk 2 (S' := (2, [some (.ref a0), some (.ref a1), some (vI 0)], [], hp S, 0, 0)) rfl ?_
  exact F
theorem vc_Shelf_writeTape_2 {q : Nat × (Nat → Int32)} {S S' : ms} {r : Option Value} (x2 : Int) (a0 : Nat) (ha0 : isShelf a0) (a1 na1 : Nat) (ha1 : isRow a1 na1)
    (F : ((w32 (S.1 a0 4) ≤ w32 x2) → ∃ (S1 : ms), EV q 187 0 [some (.ref a1), some (vI 1024), none] [] S none S1 ∧ r = none ∧ S' = S1) ∧ ((¬ w32 (S.1 a0 4) ≤ w32 x2) → ∃ (S3 : ms), EV q 184 0 [some (.ref a0), some (vI x2), none] [] S none S3 ∧ ∃ (S5 : ms), EV q 38 0 [some (.ref a1), some (.ref (a0 + 7)), some (vI 0), some (vI 512), none] [] S3 none S5 ∧ (0 ≤ w32 x2 ∧ w32 x2 < (16 : Nat)) ∧ ∃ (o8 no8 : Nat), sh_r (SH (a0 + 2)).2.2 (w32 x2).toNat = some o8 ∧ isRow o8 no8 ∧ (0 ≤ w32 x2 ∧ w32 x2 < (16 : Nat)) ∧ ∃ (o12 no12 : Nat), sh_r (SH (a0 + 2)).2.2 (w32 x2).toNat = some o12 ∧ isRow o12 no12 ∧ ∃ (S15 : ms), EV q 38 0 [some (.ref a1), some (.ref (o8 + 1)), some (vI 0), some (vI (S5.1 o12 1)), none] [] S5 none S15 ∧ (0 ≤ w32 x2 ∧ w32 x2 < (16 : Nat)) ∧ ∃ (o18 no18 : Nat), sh_r (SH (a0 + 2)).2.2 (w32 x2).toNat = some o18 ∧ isRow o18 no18 ∧ ∃ (S21 : ms), EV q 187 0 [some (.ref a1), some (vI (Int.tmod (w32 (512 - (Int.tmod (w32 (S15.1 o18 1)) (w32 512)))) (w32 512))), none] [] S15 none S21 ∧ EV q 183 2 [some (.ref a0), some (.ref a1), some (vI (x2 + 1))] [] S21 r S')) : EV q 183 2 [some (.ref a0), some (.ref a1), some (vI x2)] [] S r S' := by
  unfold EV
  refine ev_bk 2 (S' := (4, [some (.ref a0), some (.ref a1), some (vI x2)], [.ref a0, vI x2], hp S, 0, 0)) rfl ?_
  refine mv_gfI rfl rfl (ha0.1) (by decide) rfl ?_
  refine mv_icmp 81 rfl rfl (fun c => ?_) (fun c => ?_)
  · have F := F.1 c
    refine ev_bk 2 (S' := (85, [some (.ref a0), some (.ref a1), some (vI x2)], [vI 1024, .ref a1], hp S, 0, 0)) rfl ?_
    obtain ⟨S1, e2, F⟩ := F
    refine mv_cals (as := [.ref a1, vI 1024]) (rest := []) e2 rfl rfl rfl ⟨rfl, rfl, rfl⟩ rfl rfl rfl rfl ?_
    obtain ⟨rfl, rfl⟩ := F
    exact ev_ret rfl rfl
  · have F := F.2 c
    refine ev_bk 2 (S' := (12, [some (.ref a0), some (.ref a1), some (vI x2)], [vI x2, .ref a0], hp S, 0, 0)) rfl ?_
    obtain ⟨S3, e4, F⟩ := F
    refine mv_calv (as := [vI x2]) (rest := []) e4 (ha0.1) rfl rfl rfl ⟨rfl, rfl⟩ rfl rfl rfl rfl rfl ?_
    refine ev_bk 2 (S' := (17, [some (.ref a0), some (.ref a1), some (vI x2)], [.ref a0, .ref a1], hp S3, 0, 0)) rfl ?_
    refine mv_gfR rfl rfl (ha0.1) (by decide) rfl ?_
    refine ev_bk 2 (S' := (24, [some (.ref a0), some (.ref a1), some (vI x2)], [vI 512, vI 0, .ref (a0 + 7), .ref a1], hp S3, 0, 0)) rfl ?_
    obtain ⟨S5, e6, F⟩ := F
    refine mv_calv (as := [.ref (a0 + 7), vI 0, vI 512]) (rest := []) e6 (ha1.1) rfl rfl rfl ⟨rfl, rfl⟩ rfl rfl rfl rfl rfl ?_
    refine ev_bk 2 (S' := (29, [some (.ref a0), some (.ref a1), some (vI x2)], [.ref a0, .ref a1], hp S5, 0, 0)) rfl ?_
    refine mv_gfR rfl rfl (ha0.1) (by decide) rfl ?_
    refine ev_bk 1 (S' := (33, [some (.ref a0), some (.ref a1), some (vI x2)], [vI x2, .ref (a0 + 2), .ref a1], hp S5, 0, 0)) rfl ?_
    obtain ⟨b7, o8, no8, e10, h9, F⟩ := F
    refine mv_aaV rfl (ha0.2.2.1) (Or.inl rfl) b7 e10 ?_
    refine mv_gfR rfl rfl (h9.1) (by decide) rfl ?_
    refine ev_bk 2 (S' := (39, [some (.ref a0), some (.ref a1), some (vI x2)], [.ref a0, vI 0, .ref (o8 + 1), .ref a1], hp S5, 0, 0)) rfl ?_
    refine mv_gfR rfl rfl (ha0.1) (by decide) rfl ?_
    refine ev_bk 1 (S' := (43, [some (.ref a0), some (.ref a1), some (vI x2)], [vI x2, .ref (a0 + 2), vI 0, .ref (o8 + 1), .ref a1], hp S5, 0, 0)) rfl ?_
    obtain ⟨b11, o12, no12, e14, h13, F⟩ := F
    refine mv_aaV rfl (ha0.2.2.1) (Or.inl rfl) b11 e14 ?_
    refine mv_gfI rfl rfl (h13.1) (by decide) rfl ?_
    obtain ⟨S15, e16, F⟩ := F
    refine mv_calv (as := [.ref (o8 + 1), vI 0, vI (S5.1 o12 1)]) (rest := []) e16 (ha1.1) rfl rfl rfl ⟨rfl, rfl⟩ rfl rfl rfl rfl rfl ?_
    refine ev_bk 3 (S' := (55, [some (.ref a0), some (.ref a1), some (vI x2)], [.ref a0, vI 512, .ref a1], hp S15, 0, 0)) rfl ?_
    refine mv_gfR rfl rfl (ha0.1) (by decide) rfl ?_
    refine ev_bk 1 (S' := (59, [some (.ref a0), some (.ref a1), some (vI x2)], [vI x2, .ref (a0 + 2), vI 512, .ref a1], hp S15, 0, 0)) rfl ?_
    obtain ⟨b17, o18, no18, e20, h19, F⟩ := F
    refine mv_aaV rfl (ha0.2.2.1) (Or.inl rfl) b17 e20 ?_
    refine mv_gfI rfl rfl (h19.1) (by decide) rfl ?_
    refine ev_bk 1 (S' := (66, [some (.ref a0), some (.ref a1), some (vI x2)], [vI 512, vI (S15.1 o18 1), vI 512, .ref a1], hp S15, 0, 0)) rfl ?_
    refine mv_irem (by decide) rfl ?_
    refine mv_isub rfl ?_
    refine ev_bk 1 (S' := (71, [some (.ref a0), some (.ref a1), some (vI x2)], [vI 512, vI (512 - (Int.tmod (w32 (S15.1 o18 1)) (w32 512))), .ref a1], hp S15, 0, 0)) rfl ?_
    refine mv_irem (by decide) rfl ?_
    obtain ⟨S21, e22, F⟩ := F
    refine mv_cals (as := [.ref a1, vI (Int.tmod (w32 (512 - (Int.tmod (w32 (S15.1 o18 1)) (w32 512)))) (w32 512))]) (rest := []) e22 rfl rfl rfl ⟨rfl, rfl, rfl⟩ rfl rfl rfl rfl ?_
    refine mv_inc (lv' := [some (.ref a0), some (.ref a1), some (vI (x2 + 1))]) 2 1 rfl rfl rfl rfl ?_
    refine mv_goto 2 rfl rfl ?_
    exact F
theorem vc_Shelf_tapeCard {q : Nat × (Nat → Int32)} {S S' : ms} {r : Option Value} (x1 : Int) (a0 : Nat) (ha0 : isShelf a0)
    (F : ∃ (S1 : ms), EV q 11 0 [some (.ref (a0 + 7)), some (vI 0), none, none] [] S none S1 ∧ EV q 184 10 [some (.ref a0), some (vI x1), some (vI 0)] [] S1 r S') : EV q 184 0 [some (.ref a0), some (vI x1), none] [] S r S' := by
  unfold EV
  refine ev_bk 1 (S' := (1, [some (.ref a0), some (vI x1), none], [.ref a0], hp S, 0, 0)) rfl ?_
  refine mv_gfR rfl rfl (ha0.1) (by decide) rfl ?_
  refine ev_bk 1 (S' := (5, [some (.ref a0), some (vI x1), none], [vI 0, .ref (a0 + 7)], hp S, 0, 0)) rfl ?_
  obtain ⟨S1, e2, F⟩ := F
  refine mv_cals (as := [.ref (a0 + 7), vI 0]) (rest := []) e2 rfl rfl rfl ⟨rfl, rfl, rfl⟩ rfl rfl rfl rfl ?_
  refine ev_bk 2 (S' := (10, [some (.ref a0), some (vI x1), some (vI 0)], [], hp S1, 0, 0)) rfl ?_
  exact F
theorem vc_Shelf_tapeCard_10 {q : Nat × (Nat → Int32)} {S S' : ms} {r : Option Value} (x1 x2 : Int) (a0 : Nat) (ha0 : isShelf a0)
    (F : (0 ≤ w32 x1 ∧ w32 x1 < (16 : Nat)) ∧ ∃ (o2 no2 : Nat), sh_r (SH (a0 + 1)).2.2 (w32 x1).toNat = some o2 ∧ isRow o2 no2 ∧ ((w32 (S.1 o2 1) ≤ w32 x2) → (0 ≤ w32 x1 ∧ w32 x1 < (16 : Nat)) ∧ ∃ (S6 : ms), EV q 185 0 [some (.ref a0), some (vI 100), some (vI 7), some (vI (S.1 (a0 + 3) (w32 x1))), none, none] [] S none S6 ∧ ∃ (S8 : ms), EV q 185 0 [some (.ref a0), some (vI 108), some (vI 7), some (vI 0), none, none] [] S6 none S8 ∧ ∃ (S10 : ms), EV q 185 0 [some (.ref a0), some (vI 116), some (vI 7), some (vI 0), none, none] [] S8 none S10 ∧ (0 ≤ w32 x1 ∧ w32 x1 < (16 : Nat)) ∧ ∃ (o13 no13 : Nat), sh_r (SH (a0 + 2)).2.2 (w32 x1).toNat = some o13 ∧ isRow o13 no13 ∧ ∃ (S16 : ms), EV q 185 0 [some (.ref a0), some (vI 124), some (vI 11), some (vI (S10.1 o13 1)), none, none] [] S10 none S16 ∧ (0 ≤ w32 x1 ∧ w32 x1 < (16 : Nat)) ∧ ∃ (S19 : ms), EV q 185 0 [some (.ref a0), some (vI 136), some (vI 11), some (vI (S16.1 (a0 + 4) (w32 x1))), none, none] [] S16 none S19 ∧ (0 ≤ w32 156 ∧ w32 156 < (512 : Nat)) ∧ ∀ S22 : ms, S22 = wI S19 (a0 + 7) (w32 156) 48 → EV q 184 122 [some (.ref a0), some (vI x1), some (vI 0)] [] S22 r S') ∧ ((¬ w32 (S.1 o2 1) ≤ w32 x2) → (0 ≤ w32 x1 ∧ w32 x1 < (16 : Nat)) ∧ ∃ (o24 no24 : Nat), sh_r (SH (a0 + 1)).2.2 (w32 x1).toNat = some o24 ∧ isRow o24 no24 ∧ (0 ≤ w32 x2 ∧ w32 x2 < (no24 : Nat)) ∧ (0 ≤ w32 x2 ∧ w32 x2 < (512 : Nat)) ∧ ∀ S29 : ms, S29 = wI S (a0 + 7) (w32 x2) (S.1 (o24 + 1) (w32 x2)) → EV q 184 10 [some (.ref a0), some (vI x1), some (vI (x2 + 1))] [] S29 r S')) : EV q 184 10 [some (.ref a0), some (vI x1), some (vI x2)] [] S r S' := by
  unfold EV
  refine ev_bk 2 (S' := (12, [some (.ref a0), some (vI x1), some (vI x2)], [.ref a0, vI x2], hp S, 0, 0)) rfl ?_
  refine mv_gfR rfl rfl (ha0.1) (by decide) rfl ?_
  refine ev_bk 1 (S' := (16, [some (.ref a0), some (vI x1), some (vI x2)], [vI x1, .ref (a0 + 1), vI x2], hp S, 0, 0)) rfl ?_
  obtain ⟨b1, o2, no2, e4, h3, F⟩ := F
  refine mv_aaV rfl (ha0.2.1) (Or.inl rfl) b1 e4 ?_
  refine mv_gfI rfl rfl (h3.1) (by decide) rfl ?_
  refine mv_icmp 46 rfl rfl (fun c => ?_) (fun c => ?_)
  · have F := F.1 c
    refine ev_bk 4 (S' := (52, [some (.ref a0), some (vI x1), some (vI x2)], [.ref a0, vI 7, vI 100, .ref a0], hp S, 0, 0)) rfl ?_
    refine mv_gfR rfl rfl (ha0.1) (by decide) rfl ?_
    refine ev_bk 1 (S' := (56, [some (.ref a0), some (vI x1), some (vI x2)], [vI x1, .ref (a0 + 3), vI 7, vI 100, .ref a0], hp S, 0, 0)) rfl ?_
    obtain ⟨b5, F⟩ := F
    refine mv_ial rfl (ha0.2.2.2.1) b5 ?_
    obtain ⟨S6, e7, F⟩ := F
    refine mv_calv (as := [vI 100, vI 7, vI (S.1 (a0 + 3) (w32 x1))]) (rest := []) e7 (ha0.1) rfl rfl rfl ⟨rfl, rfl⟩ rfl rfl rfl rfl rfl ?_
    refine ev_bk 4 (S' := (66, [some (.ref a0), some (vI x1), some (vI x2)], [vI 0, vI 7, vI 108, .ref a0], hp S6, 0, 0)) rfl ?_
    obtain ⟨S8, e9, F⟩ := F
    refine mv_calv (as := [vI 108, vI 7, vI 0]) (rest := []) e9 (ha0.1) rfl rfl rfl ⟨rfl, rfl⟩ rfl rfl rfl rfl rfl ?_
    refine ev_bk 4 (S' := (75, [some (.ref a0), some (vI x1), some (vI x2)], [vI 0, vI 7, vI 116, .ref a0], hp S8, 0, 0)) rfl ?_
    obtain ⟨S10, e11, F⟩ := F
    refine mv_calv (as := [vI 116, vI 7, vI 0]) (rest := []) e11 (ha0.1) rfl rfl rfl ⟨rfl, rfl⟩ rfl rfl rfl rfl rfl ?_
    refine ev_bk 4 (S' := (84, [some (.ref a0), some (vI x1), some (vI x2)], [.ref a0, vI 11, vI 124, .ref a0], hp S10, 0, 0)) rfl ?_
    refine mv_gfR rfl rfl (ha0.1) (by decide) rfl ?_
    refine ev_bk 1 (S' := (88, [some (.ref a0), some (vI x1), some (vI x2)], [vI x1, .ref (a0 + 2), vI 11, vI 124, .ref a0], hp S10, 0, 0)) rfl ?_
    obtain ⟨b12, o13, no13, e15, h14, F⟩ := F
    refine mv_aaV rfl (ha0.2.2.1) (Or.inl rfl) b12 e15 ?_
    refine mv_gfI rfl rfl (h14.1) (by decide) rfl ?_
    obtain ⟨S16, e17, F⟩ := F
    refine mv_calv (as := [vI 124, vI 11, vI (S10.1 o13 1)]) (rest := []) e17 (ha0.1) rfl rfl rfl ⟨rfl, rfl⟩ rfl rfl rfl rfl rfl ?_
    refine ev_bk 4 (S' := (102, [some (.ref a0), some (vI x1), some (vI x2)], [.ref a0, vI 11, vI 136, .ref a0], hp S16, 0, 0)) rfl ?_
    refine mv_gfR rfl rfl (ha0.1) (by decide) rfl ?_
    refine ev_bk 1 (S' := (106, [some (.ref a0), some (vI x1), some (vI x2)], [vI x1, .ref (a0 + 4), vI 11, vI 136, .ref a0], hp S16, 0, 0)) rfl ?_
    obtain ⟨b18, F⟩ := F
    refine mv_ial rfl (ha0.2.2.2.2.1) b18 ?_
    obtain ⟨S19, e20, F⟩ := F
    refine mv_calv (as := [vI 136, vI 11, vI (S16.1 (a0 + 4) (w32 x1))]) (rest := []) e20 (ha0.1) rfl rfl rfl ⟨rfl, rfl⟩ rfl rfl rfl rfl rfl ?_
    refine ev_bk 1 (S' := (111, [some (.ref a0), some (vI x1), some (vI x2)], [.ref a0], hp S19, 0, 0)) rfl ?_
    refine mv_gfR rfl rfl (ha0.1) (by decide) rfl ?_
    refine ev_bk 2 (S' := (119, [some (.ref a0), some (vI x1), some (vI x2)], [vI 48, vI 156, .ref (a0 + 7)], hp S19, 0, 0)) rfl ?_
    obtain ⟨b21, F⟩ := F
    refine mv_ias rfl (ha0.2.2.2.2.2.2.2.1) b21 ?_
    have F := F _ rfl
    refine ev_bk 2 (S' := (122, [some (.ref a0), some (vI x1), some (vI 0)], [], hp (wI S19 (a0 + 7) (w32 156) 48), 0, 0)) rfl ?_
    exact F
  · have F := F.2 c
    refine ev_bk 1 (S' := (24, [some (.ref a0), some (vI x1), some (vI x2)], [.ref a0], hp S, 0, 0)) rfl ?_
    refine mv_gfR rfl rfl (ha0.1) (by decide) rfl ?_
    refine ev_bk 2 (S' := (29, [some (.ref a0), some (vI x1), some (vI x2)], [.ref a0, vI x2, .ref (a0 + 7)], hp S, 0, 0)) rfl ?_
    refine mv_gfR rfl rfl (ha0.1) (by decide) rfl ?_
    refine ev_bk 1 (S' := (33, [some (.ref a0), some (vI x1), some (vI x2)], [vI x1, .ref (a0 + 1), vI x2, .ref (a0 + 7)], hp S, 0, 0)) rfl ?_
    obtain ⟨b23, o24, no24, e26, h25, F⟩ := F
    refine mv_aaV rfl (ha0.2.1) (Or.inl rfl) b23 e26 ?_
    refine mv_gfR rfl rfl (h25.1) (by decide) rfl ?_
    refine ev_bk 1 (S' := (38, [some (.ref a0), some (vI x1), some (vI x2)], [vI x2, .ref (o24 + 1), vI x2, .ref (a0 + 7)], hp S, 0, 0)) rfl ?_
    obtain ⟨b27, F⟩ := F
    refine mv_ial rfl (h25.2) b27 ?_
    obtain ⟨b28, F⟩ := F
    refine mv_ias rfl (ha0.2.2.2.2.2.2.2.1) b28 ?_
    have F := F _ rfl
    refine mv_inc (lv' := [some (.ref a0), some (vI x1), some (vI (x2 + 1))]) 2 1 rfl rfl rfl rfl ?_
    refine mv_goto 10 rfl rfl ?_
    exact F
theorem vc_Shelf_tapeCard_122 {q : Nat × (Nat → Int32)} {S S' : ms} {r : Option Value} (x1 x2 : Int) (a0 : Nat) (ha0 : isShelf a0)
    (F : ((8 ≤ w32 x2) → ∃ (z3 : Int) (S1 : ms), EV q 186 0 [some (.ref (a0 + 7)), some (vI 0), none, none] [] S (some (vI z3)) S1 ∧ ∃ (S4 : ms), EV q 185 0 [some (.ref a0), some (vI 148), some (vI 6), some (vI z3), none, none] [] S1 none S4 ∧ (0 ≤ w32 155 ∧ w32 155 < (512 : Nat)) ∧ ∀ S7 : ms, S7 = wI S4 (a0 + 7) (w32 155) 32 → r = none ∧ S' = S7) ∧ ((¬ 8 ≤ w32 x2) → (0 ≤ w32 x2 ∧ w32 x2 < (8 : Nat)) ∧ (0 ≤ w32 (257 + x2) ∧ w32 (257 + x2) < (512 : Nat)) ∧ ∀ S10 : ms, S10 = wI S (a0 + 7) (w32 (257 + x2)) (sS 7 (w32 x2)) → EV q 184 122 [some (.ref a0), some (vI x1), some (vI (x2 + 1))] [] S10 r S')) : EV q 184 122 [some (.ref a0), some (vI x1), some (vI x2)] [] S r S' := by
  unfold EV
  refine ev_bk 1 (S' := (123, [some (.ref a0), some (vI x1), some (vI x2)], [vI x2], hp S, 0, 0)) rfl ?_
  refine mv_gs (k := 7) rfl rfl ?_
  refine mv_slen (k := 7) rfl rfl (by decide) ?_
  refine mv_icmp 151 rfl rfl (fun c => ?_) (fun c => ?_)
  · have F := F.1 c
    refine ev_bk 4 (S' := (158, [some (.ref a0), some (vI x1), some (vI x2)], [.ref a0, vI 6, vI 148, .ref a0], hp S, 0, 0)) rfl ?_
    refine mv_gfR rfl rfl (ha0.1) (by decide) rfl ?_
    refine ev_bk 1 (S' := (162, [some (.ref a0), some (vI x1), some (vI x2)], [vI 0, .ref (a0 + 7), vI 6, vI 148, .ref a0], hp S, 0, 0)) rfl ?_
    obtain ⟨z3, S1, e2, F⟩ := F
    refine mv_cals (as := [.ref (a0 + 7), vI 0]) (rest := [vI 6, vI 148, .ref a0]) e2 rfl rfl rfl ⟨rfl, rfl, rfl⟩ rfl rfl rfl rfl ?_
    obtain ⟨S4, e5, F⟩ := F
    refine mv_calv (as := [vI 148, vI 6, vI z3]) (rest := []) e5 (ha0.1) rfl rfl rfl ⟨rfl, rfl⟩ rfl rfl rfl rfl rfl ?_
    refine ev_bk 1 (S' := (169, [some (.ref a0), some (vI x1), some (vI x2)], [.ref a0], hp S4, 0, 0)) rfl ?_
    refine mv_gfR rfl rfl (ha0.1) (by decide) rfl ?_
    refine ev_bk 2 (S' := (177, [some (.ref a0), some (vI x1), some (vI x2)], [vI 32, vI 155, .ref (a0 + 7)], hp S4, 0, 0)) rfl ?_
    obtain ⟨b6, F⟩ := F
    refine mv_ias rfl (ha0.2.2.2.2.2.2.2.1) b6 ?_
    have F := F _ rfl
    obtain ⟨rfl, rfl⟩ := F
    exact ev_ret rfl rfl
  · have F := F.2 c
    refine ev_bk 1 (S' := (131, [some (.ref a0), some (vI x1), some (vI x2)], [.ref a0], hp S, 0, 0)) rfl ?_
    refine mv_gfR rfl rfl (ha0.1) (by decide) rfl ?_
    refine ev_bk 2 (S' := (138, [some (.ref a0), some (vI x1), some (vI x2)], [vI x2, vI 257, .ref (a0 + 7)], hp S, 0, 0)) rfl ?_
    refine mv_iadd rfl ?_
    refine mv_gs (k := 7) rfl rfl ?_
    refine ev_bk 1 (S' := (143, [some (.ref a0), some (vI x1), some (vI x2)], [vI x2, .ref (en_b + 7), vI (257 + x2), .ref (a0 + 7)], hp S, 0, 0)) rfl ?_
    obtain ⟨b8, F⟩ := F
    refine mv_sal (k := 7) rfl rfl (by decide) b8 ?_
    obtain ⟨b9, F⟩ := F
    refine mv_ias rfl (ha0.2.2.2.2.2.2.2.1) b9 ?_
    have F := F _ rfl
    refine mv_inc (lv' := [some (.ref a0), some (vI x1), some (vI (x2 + 1))]) 2 1 rfl rfl rfl rfl ?_
    refine mv_goto 122 rfl rfl ?_
    exact F
theorem vc_Shelf_eightsIn {q : Nat × (Nat → Int32)} {S S' : ms} {r : Option Value} (x1 x2 x3 : Int) (a0 : Nat) (ha0 : isShelf a0)
    (F : EV q 185 8 [some (.ref a0), some (vI x1), some (vI x2), some (vI x3), some (vI x3), some (vI (x2 - 1))] [] S r S') : EV q 185 0 [some (.ref a0), some (vI x1), some (vI x2), some (vI x3), none, none] [] S r S' := by
  unfold EV
  refine ev_bk 4 (S' := (5, [some (.ref a0), some (vI x1), some (vI x2), some (vI x3), some (vI x3), none], [vI 1, vI x2], hp S, 0, 0)) rfl ?_
  refine mv_isub rfl ?_
  refine ev_bk 1 (S' := (8, [some (.ref a0), some (vI x1), some (vI x2), some (vI x3), some (vI x3), some (vI (x2 - 1))], [], hp S, 0, 0)) rfl ?_
  exact F
theorem vc_Shelf_eightsIn_8 {q : Nat × (Nat → Int32)} {S S' : ms} {r : Option Value} (x1 x2 x3 x4 x5 : Int) (a0 : Nat) (ha0 : isShelf a0)
    (F : ((w32 x5 < 0) → r = none ∧ S' = S) ∧ ((¬ w32 x5 < 0) → (0 ≤ w32 (x1 + x5) ∧ w32 (x1 + x5) < (512 : Nat)) ∧ ∀ S2 : ms, S2 = wI S (a0 + 7) (w32 (x1 + x5)) (48 + (x4 % 8)) → EV q 185 8 [some (.ref a0), some (vI x1), some (vI x2), some (vI x3), some (vI (x4 % 4294967296 / 8)), some (vI (x5 - 1))] [] S2 r S')) : EV q 185 8 [some (.ref a0), some (vI x1), some (vI x2), some (vI x3), some (vI x4), some (vI x5)] [] S r S' := by
  unfold EV
  refine ev_bk 1 (S' := (10, [some (.ref a0), some (vI x1), some (vI x2), some (vI x3), some (vI x4), some (vI x5)], [vI x5], hp S, 0, 0)) rfl ?_
  refine mv_if 42 rfl rfl (fun c => ?_) (fun c => ?_)
  · have F := F.1 c
    obtain ⟨rfl, rfl⟩ := F
    exact ev_ret rfl rfl
  · have F := F.2 c
    refine ev_bk 1 (S' := (14, [some (.ref a0), some (vI x1), some (vI x2), some (vI x3), some (vI x4), some (vI x5)], [.ref a0], hp S, 0, 0)) rfl ?_
    refine mv_gfR rfl rfl (ha0.1) (by decide) rfl ?_
    refine ev_bk 2 (S' := (20, [some (.ref a0), some (vI x1), some (vI x2), some (vI x3), some (vI x4), some (vI x5)], [vI x5, vI x1, .ref (a0 + 7)], hp S, 0, 0)) rfl ?_
    refine mv_iadd rfl ?_
    refine ev_bk 3 (S' := (27, [some (.ref a0), some (vI x1), some (vI x2), some (vI x3), some (vI x4), some (vI x5)], [vI 7, vI x4, vI 48, vI (x1 + x5), .ref (a0 + 7)], hp S, 0, 0)) rfl ?_
    refine mv_iandm 8 3 (by decide) rfl rfl rfl ?_
    refine mv_iadd rfl ?_
    obtain ⟨b1, F⟩ := F
    refine mv_ias rfl (ha0.2.2.2.2.2.2.2.1) b1 ?_
    have F := F _ rfl
    refine ev_bk 2 (S' := (33, [some (.ref a0), some (vI x1), some (vI x2), some (vI x3), some (vI x4), some (vI x5)], [vI 3, vI x4], hp (wI S (a0 + 7) (w32 (x1 + x5)) (48 + (x4 % 8))), 0, 0)) rfl ?_
    refine mv_iushr 8 rfl rfl ?_
    refine ev_bk 1 (S' := (36, [some (.ref a0), some (vI x1), some (vI x2), some (vI x3), some (vI (x4 % 4294967296 / 8)), some (vI x5)], [], hp (wI S (a0 + 7) (w32 (x1 + x5)) (48 + (x4 % 8))), 0, 0)) rfl ?_
    refine mv_inc (lv' := [some (.ref a0), some (vI x1), some (vI x2), some (vI x3), some (vI (x4 % 4294967296 / 8)), some (vI (x5 - 1))]) 5 (-1) rfl rfl rfl (by omega) ?_
    refine mv_goto 8 rfl rfl ?_
    exact F
theorem vc_Shelf_tapeSum {q : Nat × (Nat → Int32)} {S S' : ms} {r : Option Value} (x1 : Int) (a0 na0 : Nat) (ha0 : SH a0 = (0, na0, []))
    (F : EV q 186 4 [some (.ref a0), some (vI x1), some (vI 0), some (vI 0)] [] S r S') : EV q 186 0 [some (.ref a0), some (vI x1), none, none] [] S r S' := by
  unfold EV
  refine ev_bk 4 (S' := (4, [some (.ref a0), some (vI x1), some (vI 0), some (vI 0)], [], hp S, 0, 0)) rfl ?_
  exact F
theorem vc_Shelf_tapeSum_4 {q : Nat × (Nat → Int32)} {S S' : ms} {r : Option Value} (x1 x2 x3 : Int) (a0 na0 : Nat) (ha0 : SH a0 = (0, na0, []))
    (F : ((512 ≤ w32 x3) → r = some (vI x2) ∧ S' = S) ∧ ((¬ 512 ≤ w32 x3) → ((w32 x3 < 148) → EV q 186 31 [some (.ref a0), some (vI x1), some (vI x2), some (vI x3)] [vI x2] S r S') ∧ ((¬ w32 x3 < 148) → ((156 ≤ w32 x3) → EV q 186 31 [some (.ref a0), some (vI x1), some (vI x2), some (vI x3)] [vI x2] S r S') ∧ ((¬ 156 ≤ w32 x3) → EV q 186 36 [some (.ref a0), some (vI x1), some (vI x2), some (vI x3)] [vI 32, vI x2] S r S')))) : EV q 186 4 [some (.ref a0), some (vI x1), some (vI x2), some (vI x3)] [] S r S' := by
  unfold EV
  refine ev_bk 2 (S' := (8, [some (.ref a0), some (vI x1), some (vI x2), some (vI x3)], [vI 512, vI x3], hp S, 0, 0)) rfl ?_
  refine mv_icmp 44 rfl rfl (fun c => ?_) (fun c => ?_)
  · have F := F.1 c
    refine ev_bk 1 (S' := (45, [some (.ref a0), some (vI x1), some (vI x2), some (vI x3)], [vI x2], hp S, 0, 0)) rfl ?_
    obtain ⟨rfl, rfl⟩ := F
    exact ev_ret rfl rfl
  · have F := F.2 c
    refine ev_bk 3 (S' := (16, [some (.ref a0), some (vI x1), some (vI x2), some (vI x3)], [vI 148, vI x3, vI x2], hp S, 0, 0)) rfl ?_
    refine mv_icmp 31 rfl rfl (fun c => ?_) (fun c => ?_)
    · have F := F.1 c
      exact F
    · have F := F.2 c
      refine ev_bk 2 (S' := (23, [some (.ref a0), some (vI x1), some (vI x2), some (vI x3)], [vI 156, vI x3, vI x2], hp S, 0, 0)) rfl ?_
      refine mv_icmp 31 rfl rfl (fun c => ?_) (fun c => ?_)
      · have F := F.1 c
        exact F
      · have F := F.2 c
        refine ev_bk 1 (S' := (28, [some (.ref a0), some (vI x1), some (vI x2), some (vI x3)], [vI 32, vI x2], hp S, 0, 0)) rfl ?_
        refine mv_goto 36 rfl rfl ?_
        exact F
theorem vc_Shelf_tapeSum_31 {q : Nat × (Nat → Int32)} {S S' : ms} {r : Option Value} (x1 x2 x3 y0 : Int) (a0 na0 : Nat) (ha0 : SH a0 = (0, na0, []))
    (F : (0 ≤ w32 (x1 + x3) ∧ w32 (x1 + x3) < (na0 : Nat)) ∧ EV q 186 36 [some (.ref a0), some (vI x1), some (vI x2), some (vI x3)] [vI (S.1 a0 (w32 (x1 + x3))), vI y0] S r S') : EV q 186 31 [some (.ref a0), some (vI x1), some (vI x2), some (vI x3)] [vI y0] S r S' := by
  unfold EV
  refine ev_bk 3 (S' := (34, [some (.ref a0), some (vI x1), some (vI x2), some (vI x3)], [vI x3, vI x1, .ref a0, vI y0], hp S, 0, 0)) rfl ?_
  refine mv_iadd rfl ?_
  obtain ⟨b1, F⟩ := F
  refine mv_ial rfl (ha0) b1 ?_
  exact F
theorem vc_Shelf_tapeSum_36 {q : Nat × (Nat → Int32)} {S S' : ms} {r : Option Value} (x1 x2 x3 y0 y1 : Int) (a0 na0 : Nat) (ha0 : SH a0 = (0, na0, []))
    (F : EV q 186 4 [some (.ref a0), some (vI x1), some (vI (y1 + y0)), some (vI (x3 + 1))] [] S r S') : EV q 186 36 [some (.ref a0), some (vI x1), some (vI x2), some (vI x3)] [vI y0, vI y1] S r S' := by
  unfold EV
  refine mv_iadd rfl ?_
  refine ev_bk 1 (S' := (38, [some (.ref a0), some (vI x1), some (vI (y1 + y0)), some (vI x3)], [], hp S, 0, 0)) rfl ?_
  refine mv_inc (lv' := [some (.ref a0), some (vI x1), some (vI (y1 + y0)), some (vI (x3 + 1))]) 3 1 rfl rfl rfl rfl ?_
  refine mv_goto 4 rfl rfl ?_
  exact F
theorem vc_Shelf_blanks {q : Nat × (Nat → Int32)} {S S' : ms} {r : Option Value} (x1 : Int) (a0 na0 : Nat) (ha0 : isRow a0 na0)
    (F : EV q 187 2 [some (.ref a0), some (vI x1), some (vI 0)] [] S r S') : EV q 187 0 [some (.ref a0), some (vI x1), none] [] S r S' := by
  unfold EV
  refine ev_bk 2 (S' := (2, [some (.ref a0), some (vI x1), some (vI 0)], [], hp S, 0, 0)) rfl ?_
  exact F
theorem vc_Shelf_blanks_2 {q : Nat × (Nat → Int32)} {S S' : ms} {r : Option Value} (x1 x2 : Int) (a0 na0 : Nat) (ha0 : isRow a0 na0)
    (F : ((w32 x1 ≤ w32 x2) → r = none ∧ S' = S) ∧ ((¬ w32 x1 ≤ w32 x2) → ∃ (S1 : ms), EV q 19 0 [some (.ref a0), some (vI 0)] [] S none S1 ∧ EV q 187 2 [some (.ref a0), some (vI x1), some (vI (x2 + 1))] [] S1 r S')) : EV q 187 2 [some (.ref a0), some (vI x1), some (vI x2)] [] S r S' := by
  unfold EV
  refine ev_bk 2 (S' := (4, [some (.ref a0), some (vI x1), some (vI x2)], [vI x1, vI x2], hp S, 0, 0)) rfl ?_
  refine mv_icmp 18 rfl rfl (fun c => ?_) (fun c => ?_)
  · have F := F.1 c
    obtain ⟨rfl, rfl⟩ := F
    exact ev_ret rfl rfl
  · have F := F.2 c
    refine ev_bk 2 (S' := (9, [some (.ref a0), some (vI x1), some (vI x2)], [vI 0, .ref a0], hp S, 0, 0)) rfl ?_
    obtain ⟨S1, e2, F⟩ := F
    refine mv_calv (as := [vI 0]) (rest := []) e2 (ha0.1) rfl rfl rfl ⟨rfl, rfl⟩ rfl rfl rfl rfl rfl ?_
    refine mv_inc (lv' := [some (.ref a0), some (vI x1), some (vI (x2 + 1))]) 2 1 rfl rfl rfl rfl ?_
    refine mv_goto 2 rfl rfl ?_
    exact F
theorem vc_Shelf_writeBench {q : Nat × (Nat → Int32)} {S S' : ms} {r : Option Value} (a0 : Nat) (ha0 : isShelf a0) (a1 na1 : Nat) (ha1 : isRow a1 na1)
    (F : ∃ (S1 : ms), EV q 38 0 [some (.ref a1), some (.ref (en_b + 8)), some (vI 0), some (vI 8), none] [] S none S1 ∧ EV q 188 14 [some (.ref a0), some (.ref a1), some (vI 0), none] [] S1 r S') : EV q 188 0 [some (.ref a0), some (.ref a1), none, none] [] S r S' := by
  unfold EV
  refine ev_bk 1 (S' := (1, [some (.ref a0), some (.ref a1), none, none], [.ref a1], hp S, 0, 0)) rfl ?_
  refine mv_gs (k := 8) rfl rfl ?_
  refine ev_bk 1 (S' := (5, [some (.ref a0), some (.ref a1), none, none], [vI 0, .ref (en_b + 8), .ref a1], hp S, 0, 0)) rfl ?_
  refine mv_gs (k := 8) rfl rfl ?_
  refine mv_slen (k := 8) rfl rfl (by decide) ?_
  obtain ⟨S1, e2, F⟩ := F
  refine mv_calv (as := [.ref (en_b + 8), vI 0, vI 8]) (rest := []) e2 (ha1.1) rfl rfl rfl ⟨rfl, rfl⟩ rfl rfl rfl rfl rfl ?_
  refine ev_bk 2 (S' := (14, [some (.ref a0), some (.ref a1), some (vI 0), none], [], hp S1, 0, 0)) rfl ?_
  exact F
theorem vc_Shelf_writeBench_14 {q : Nat × (Nat → Int32)} {S S' : ms} {r : Option Value} (x2 : Int) (a0 : Nat) (ha0 : isShelf a0) (a1 na1 : Nat) (ha1 : isRow a1 na1)
    (F : ((w32 (S.1 a0 4) ≤ w32 x2) → r = none ∧ S' = S) ∧ ((¬ w32 (S.1 a0 4) ≤ w32 x2) → ∃ (S1 : ms), EV q 11 0 [some (.ref (a0 + 7)), some (vI 32), none, none] [] S none S1 ∧ EV q 188 33 [some (.ref a0), some (.ref a1), some (vI x2), some (vI 0)] [] S1 r S')) : EV q 188 14 [some (.ref a0), some (.ref a1), some (vI x2), none] [] S r S' := by
  unfold EV
  refine ev_bk 2 (S' := (16, [some (.ref a0), some (.ref a1), some (vI x2), none], [.ref a0, vI x2], hp S, 0, 0)) rfl ?_
  refine mv_gfI rfl rfl (ha0.1) (by decide) rfl ?_
  refine mv_icmp 233 rfl rfl (fun c => ?_) (fun c => ?_)
  · have F := F.1 c
    obtain ⟨rfl, rfl⟩ := F
    exact ev_ret rfl rfl
  · have F := F.2 c
    refine ev_bk 1 (S' := (23, [some (.ref a0), some (.ref a1), some (vI x2), none], [.ref a0], hp S, 0, 0)) rfl ?_
    refine mv_gfR rfl rfl (ha0.1) (by decide) rfl ?_
    refine ev_bk 1 (S' := (28, [some (.ref a0), some (.ref a1), some (vI x2), none], [vI 32, .ref (a0 + 7)], hp S, 0, 0)) rfl ?_
    obtain ⟨S1, e2, F⟩ := F
    refine mv_cals (as := [.ref (a0 + 7), vI 32]) (rest := []) e2 rfl rfl rfl ⟨rfl, rfl, rfl⟩ rfl rfl rfl rfl ?_
    refine ev_bk 2 (S' := (33, [some (.ref a0), some (.ref a1), some (vI x2), some (vI 0)], [], hp S1, 0, 0)) rfl ?_
    exact F
theorem vc_Shelf_writeBench_33 {q : Nat × (Nat → Int32)} {S S' : ms} {r : Option Value} (x2 x3 : Int) (a0 : Nat) (ha0 : isShelf a0) (a1 na1 : Nat) (ha1 : isRow a1 na1)
    (F : (0 ≤ w32 x2 ∧ w32 x2 < (16 : Nat)) ∧ ∃ (o2 no2 : Nat), sh_r (SH (a0 + 1)).2.2 (w32 x2).toNat = some o2 ∧ isRow o2 no2 ∧ ((w32 (S.1 o2 1) ≤ w32 x3) → EV q 188 75 [some (.ref a0), some (.ref a1), some (vI x2), some (vI x3)] [] S r S') ∧ ((¬ w32 (S.1 o2 1) ≤ w32 x3) → ((15 ≤ w32 x3) → EV q 188 75 [some (.ref a0), some (.ref a1), some (vI x2), some (vI x3)] [] S r S') ∧ ((¬ 15 ≤ w32 x3) → (0 ≤ w32 x2 ∧ w32 x2 < (16 : Nat)) ∧ ∃ (o6 no6 : Nat), sh_r (SH (a0 + 1)).2.2 (w32 x2).toNat = some o6 ∧ isRow o6 no6 ∧ (0 ≤ w32 x3 ∧ w32 x3 < (no6 : Nat)) ∧ (0 ≤ w32 x3 ∧ w32 x3 < (512 : Nat)) ∧ ∀ S11 : ms, S11 = wI S (a0 + 7) (w32 x3) (S.1 (o6 + 1) (w32 x3)) → EV q 188 33 [some (.ref a0), some (.ref a1), some (vI x2), some (vI (x3 + 1))] [] S11 r S'))) : EV q 188 33 [some (.ref a0), some (.ref a1), some (vI x2), some (vI x3)] [] S r S' := by
  unfold EV
  refine ev_bk 2 (S' := (35, [some (.ref a0), some (.ref a1), some (vI x2), some (vI x3)], [.ref a0, vI x3], hp S, 0, 0)) rfl ?_
  refine mv_gfR rfl rfl (ha0.1) (by decide) rfl ?_
  refine ev_bk 1 (S' := (39, [some (.ref a0), some (.ref a1), some (vI x2), some (vI x3)], [vI x2, .ref (a0 + 1), vI x3], hp S, 0, 0)) rfl ?_
  obtain ⟨b1, o2, no2, e4, h3, F⟩ := F
  refine mv_aaV rfl (ha0.2.1) (Or.inl rfl) b1 e4 ?_
  refine mv_gfI rfl rfl (h3.1) (by decide) rfl ?_
  refine mv_icmp 75 rfl rfl (fun c => ?_) (fun c => ?_)
  · have F := F.1 c
    exact F
  · have F := F.2 c
    refine ev_bk 2 (S' := (49, [some (.ref a0), some (.ref a1), some (vI x2), some (vI x3)], [vI 15, vI x3], hp S, 0, 0)) rfl ?_
    refine mv_icmp 75 rfl rfl (fun c => ?_) (fun c => ?_)
    · have F := F.1 c
      exact F
    · have F := F.2 c
      refine ev_bk 1 (S' := (53, [some (.ref a0), some (.ref a1), some (vI x2), some (vI x3)], [.ref a0], hp S, 0, 0)) rfl ?_
      refine mv_gfR rfl rfl (ha0.1) (by decide) rfl ?_
      refine ev_bk 2 (S' := (58, [some (.ref a0), some (.ref a1), some (vI x2), some (vI x3)], [.ref a0, vI x3, .ref (a0 + 7)], hp S, 0, 0)) rfl ?_
      refine mv_gfR rfl rfl (ha0.1) (by decide) rfl ?_
      refine ev_bk 1 (S' := (62, [some (.ref a0), some (.ref a1), some (vI x2), some (vI x3)], [vI x2, .ref (a0 + 1), vI x3, .ref (a0 + 7)], hp S, 0, 0)) rfl ?_
      obtain ⟨b5, o6, no6, e8, h7, F⟩ := F
      refine mv_aaV rfl (ha0.2.1) (Or.inl rfl) b5 e8 ?_
      refine mv_gfR rfl rfl (h7.1) (by decide) rfl ?_
      refine ev_bk 1 (S' := (67, [some (.ref a0), some (.ref a1), some (vI x2), some (vI x3)], [vI x3, .ref (o6 + 1), vI x3, .ref (a0 + 7)], hp S, 0, 0)) rfl ?_
      obtain ⟨b9, F⟩ := F
      refine mv_ial rfl (h7.2) b9 ?_
      obtain ⟨b10, F⟩ := F
      refine mv_ias rfl (ha0.2.2.2.2.2.2.2.1) b10 ?_
      have F := F _ rfl
      refine mv_inc (lv' := [some (.ref a0), some (.ref a1), some (vI x2), some (vI (x3 + 1))]) 3 1 rfl rfl rfl rfl ?_
      refine mv_goto 33 rfl rfl ?_
      exact F
theorem vc_Shelf_writeBench_75 {q : Nat × (Nat → Int32)} {S S' : ms} {r : Option Value} (x2 x3 : Int) (a0 : Nat) (ha0 : isShelf a0) (a1 na1 : Nat) (ha1 : isRow a1 na1)
    (F : (0 ≤ w32 x2 ∧ w32 x2 < (16 : Nat)) ∧ ∃ (o2 no2 : Nat), sh_r (SH (a0 + 1)).2.2 (w32 x2).toNat = some o2 ∧ isRow o2 no2 ∧ (0 ≤ w32 (min (w32 (S.1 o2 1)) (w32 15)) ∧ w32 (min (w32 (S.1 o2 1)) (w32 15)) < (512 : Nat)) ∧ ∀ S6 : ms, S6 = wI S (a0 + 7) (w32 (min (w32 (S.1 o2 1)) (w32 15))) 47 → (0 ≤ w32 x2 ∧ w32 x2 < (16 : Nat)) ∧ ∃ (S8 : ms), EV q 189 0 [some (.ref a0), some (vI 16), some (vI (S6.1 (a0 + 4) (w32 x2))), some (vI 1), none, none, none, none] [] S6 none S8 ∧ ∃ (S10 : ms), EV q 189 0 [some (.ref a0), some (vI 28), some (vI 0), some (vI 1), none, none, none, none] [] S8 none S10 ∧ ∃ (S12 : ms), EV q 189 0 [some (.ref a0), some (vI 34), some (vI 0), some (vI 1), none, none, none, none] [] S10 none S12 ∧ (0 ≤ w32 x2 ∧ w32 x2 < (16 : Nat)) ∧ ∃ (S15 : ms), EV q 189 0 [some (.ref a0), some (vI 40), some (vI (S12.1 (a0 + 3) (w32 x2))), some (vI 0), none, none, none, none] [] S12 none S15 ∧ (0 ≤ w32 x2 ∧ w32 x2 < (16 : Nat)) ∧ ∃ (o18 no18 : Nat), sh_r (SH (a0 + 2)).2.2 (w32 x2).toNat = some o18 ∧ isRow o18 no18 ∧ ∃ (S21 : ms), EV q 189 0 [some (.ref a0), some (vI 48), some (vI (S15.1 o18 1)), some (vI 1), none, none, none, none] [] S15 none S21 ∧ (0 ≤ w32 58 ∧ w32 58 < (512 : Nat)) ∧ ∀ S24 : ms, S24 = wI S21 (a0 + 7) (w32 58) 96 → (0 ≤ w32 59 ∧ w32 59 < (512 : Nat)) ∧ ∀ S26 : ms, S26 = wI S24 (a0 + 7) (w32 59) 10 → ∃ (S27 : ms), EV q 38 0 [some (.ref a1), some (.ref (a0 + 7)), some (vI 0), some (vI 60), none] [] S26 none S27 ∧ (0 ≤ w32 x2 ∧ w32 x2 < (16 : Nat)) ∧ ∃ (o30 no30 : Nat), sh_r (SH (a0 + 2)).2.2 (w32 x2).toNat = some o30 ∧ isRow o30 no30 ∧ (0 ≤ w32 x2 ∧ w32 x2 < (16 : Nat)) ∧ ∃ (o34 no34 : Nat), sh_r (SH (a0 + 2)).2.2 (w32 x2).toNat = some o34 ∧ isRow o34 no34 ∧ ∃ (S37 : ms), EV q 38 0 [some (.ref a1), some (.ref (o30 + 1)), some (vI 0), some (vI (S27.1 o34 1)), none] [] S27 none S37 ∧ (0 ≤ w32 x2 ∧ w32 x2 < (16 : Nat)) ∧ ∃ (o40 no40 : Nat), sh_r (SH (a0 + 2)).2.2 (w32 x2).toNat = some o40 ∧ isRow o40 no40 ∧ ((¬ w32 (Int.tmod (w32 (S37.1 o40 1)) (w32 2)) = 1) → EV q 188 227 [some (.ref a0), some (.ref a1), some (vI x2), some (vI x3)] [] S37 r S') ∧ ((¬ (¬ w32 (Int.tmod (w32 (S37.1 o40 1)) (w32 2)) = 1)) → ∃ (S43 : ms), EV q 19 0 [some (.ref a1), some (vI 10)] [] S37 none S43 ∧ EV q 188 227 [some (.ref a0), some (.ref a1), some (vI x2), some (vI x3)] [] S43 r S')) : EV q 188 75 [some (.ref a0), some (.ref a1), some (vI x2), some (vI x3)] [] S r S' := by
  unfold EV
  refine ev_bk 1 (S' := (76, [some (.ref a0), some (.ref a1), some (vI x2), some (vI x3)], [.ref a0], hp S, 0, 0)) rfl ?_
  refine mv_gfR rfl rfl (ha0.1) (by decide) rfl ?_
  refine ev_bk 1 (S' := (80, [some (.ref a0), some (.ref a1), some (vI x2), some (vI x3)], [.ref a0, .ref (a0 + 7)], hp S, 0, 0)) rfl ?_
  refine mv_gfR rfl rfl (ha0.1) (by decide) rfl ?_
  refine ev_bk 1 (S' := (84, [some (.ref a0), some (.ref a1), some (vI x2), some (vI x3)], [vI x2, .ref (a0 + 1), .ref (a0 + 7)], hp S, 0, 0)) rfl ?_
  obtain ⟨b1, o2, no2, e4, h3, F⟩ := F
  refine mv_aaV rfl (ha0.2.1) (Or.inl rfl) b1 e4 ?_
  refine mv_gfI rfl rfl (h3.1) (by decide) rfl ?_
  refine ev_bk 1 (S' := (90, [some (.ref a0), some (.ref a1), some (vI x2), some (vI x3)], [vI 15, vI (S.1 o2 1), .ref (a0 + 7)], hp S, 0, 0)) rfl ?_
  refine mv_min rfl rfl rfl ?_
  refine ev_bk 1 (S' := (95, [some (.ref a0), some (.ref a1), some (vI x2), some (vI x3)], [vI 47, vI (min (w32 (S.1 o2 1)) (w32 15)), .ref (a0 + 7)], hp S, 0, 0)) rfl ?_
  obtain ⟨b5, F⟩ := F
  refine mv_ias rfl (ha0.2.2.2.2.2.2.2.1) b5 ?_
  have F := F _ rfl
  refine ev_bk 3 (S' := (100, [some (.ref a0), some (.ref a1), some (vI x2), some (vI x3)], [.ref a0, vI 16, .ref a0], hp (wI S (a0 + 7) (w32 (min (w32 (S.1 o2 1)) (w32 15))) 47), 0, 0)) rfl ?_
  refine mv_gfR rfl rfl (ha0.1) (by decide) rfl ?_
  refine ev_bk 1 (S' := (104, [some (.ref a0), some (.ref a1), some (vI x2), some (vI x3)], [vI x2, .ref (a0 + 4), vI 16, .ref a0], hp (wI S (a0 + 7) (w32 (min (w32 (S.1 o2 1)) (w32 15))) 47), 0, 0)) rfl ?_
  obtain ⟨b7, F⟩ := F
  refine mv_ial rfl (ha0.2.2.2.2.1) b7 ?_
  refine ev_bk 1 (S' := (106, [some (.ref a0), some (.ref a1), some (vI x2), some (vI x3)], [vI 1, vI ((wI S (a0 + 7) (w32 (min (w32 (S.1 o2 1)) (w32 15))) 47).1 (a0 + 4) (w32 x2)), vI 16, .ref a0], hp (wI S (a0 + 7) (w32 (min (w32 (S.1 o2 1)) (w32 15))) 47), 0, 0)) rfl ?_
  obtain ⟨S8, e9, F⟩ := F
  refine mv_calv (as := [vI 16, vI ((wI S (a0 + 7) (w32 (min (w32 (S.1 o2 1)) (w32 15))) 47).1 (a0 + 4) (w32 x2)), vI 1]) (rest := []) e9 (ha0.1) rfl rfl rfl ⟨rfl, rfl⟩ rfl rfl rfl rfl rfl ?_
  refine ev_bk 4 (S' := (114, [some (.ref a0), some (.ref a1), some (vI x2), some (vI x3)], [vI 1, vI 0, vI 28, .ref a0], hp S8, 0, 0)) rfl ?_
  obtain ⟨S10, e11, F⟩ := F
  refine mv_calv (as := [vI 28, vI 0, vI 1]) (rest := []) e11 (ha0.1) rfl rfl rfl ⟨rfl, rfl⟩ rfl rfl rfl rfl rfl ?_
  refine ev_bk 4 (S' := (122, [some (.ref a0), some (.ref a1), some (vI x2), some (vI x3)], [vI 1, vI 0, vI 34, .ref a0], hp S10, 0, 0)) rfl ?_
  obtain ⟨S12, e13, F⟩ := F
  refine mv_calv (as := [vI 34, vI 0, vI 1]) (rest := []) e13 (ha0.1) rfl rfl rfl ⟨rfl, rfl⟩ rfl rfl rfl rfl rfl ?_
  refine ev_bk 3 (S' := (129, [some (.ref a0), some (.ref a1), some (vI x2), some (vI x3)], [.ref a0, vI 40, .ref a0], hp S12, 0, 0)) rfl ?_
  refine mv_gfR rfl rfl (ha0.1) (by decide) rfl ?_
  refine ev_bk 1 (S' := (133, [some (.ref a0), some (.ref a1), some (vI x2), some (vI x3)], [vI x2, .ref (a0 + 3), vI 40, .ref a0], hp S12, 0, 0)) rfl ?_
  obtain ⟨b14, F⟩ := F
  refine mv_ial rfl (ha0.2.2.2.1) b14 ?_
  refine ev_bk 1 (S' := (135, [some (.ref a0), some (.ref a1), some (vI x2), some (vI x3)], [vI 0, vI (S12.1 (a0 + 3) (w32 x2)), vI 40, .ref a0], hp S12, 0, 0)) rfl ?_
  obtain ⟨S15, e16, F⟩ := F
  refine mv_calv (as := [vI 40, vI (S12.1 (a0 + 3) (w32 x2)), vI 0]) (rest := []) e16 (ha0.1) rfl rfl rfl ⟨rfl, rfl⟩ rfl rfl rfl rfl rfl ?_
  refine ev_bk 3 (S' := (142, [some (.ref a0), some (.ref a1), some (vI x2), some (vI x3)], [.ref a0, vI 48, .ref a0], hp S15, 0, 0)) rfl ?_
  refine mv_gfR rfl rfl (ha0.1) (by decide) rfl ?_
  refine ev_bk 1 (S' := (146, [some (.ref a0), some (.ref a1), some (vI x2), some (vI x3)], [vI x2, .ref (a0 + 2), vI 48, .ref a0], hp S15, 0, 0)) rfl ?_
  obtain ⟨b17, o18, no18, e20, h19, F⟩ := F
  refine mv_aaV rfl (ha0.2.2.1) (Or.inl rfl) b17 e20 ?_
  refine mv_gfI rfl rfl (h19.1) (by decide) rfl ?_
  refine ev_bk 1 (S' := (151, [some (.ref a0), some (.ref a1), some (vI x2), some (vI x3)], [vI 1, vI (S15.1 o18 1), vI 48, .ref a0], hp S15, 0, 0)) rfl ?_
  obtain ⟨S21, e22, F⟩ := F
  refine mv_calv (as := [vI 48, vI (S15.1 o18 1), vI 1]) (rest := []) e22 (ha0.1) rfl rfl rfl ⟨rfl, rfl⟩ rfl rfl rfl rfl rfl ?_
  refine ev_bk 1 (S' := (155, [some (.ref a0), some (.ref a1), some (vI x2), some (vI x3)], [.ref a0], hp S21, 0, 0)) rfl ?_
  refine mv_gfR rfl rfl (ha0.1) (by decide) rfl ?_
  refine ev_bk 2 (S' := (162, [some (.ref a0), some (.ref a1), some (vI x2), some (vI x3)], [vI 96, vI 58, .ref (a0 + 7)], hp S21, 0, 0)) rfl ?_
  obtain ⟨b23, F⟩ := F
  refine mv_ias rfl (ha0.2.2.2.2.2.2.2.1) b23 ?_
  have F := F _ rfl
  refine ev_bk 1 (S' := (164, [some (.ref a0), some (.ref a1), some (vI x2), some (vI x3)], [.ref a0], hp (wI S21 (a0 + 7) (w32 58) 96), 0, 0)) rfl ?_
  refine mv_gfR rfl rfl (ha0.1) (by decide) rfl ?_
  refine ev_bk 2 (S' := (171, [some (.ref a0), some (.ref a1), some (vI x2), some (vI x3)], [vI 10, vI 59, .ref (a0 + 7)], hp (wI S21 (a0 + 7) (w32 58) 96), 0, 0)) rfl ?_
  obtain ⟨b25, F⟩ := F
  refine mv_ias rfl (ha0.2.2.2.2.2.2.2.1) b25 ?_
  have F := F _ rfl
  refine ev_bk 2 (S' := (174, [some (.ref a0), some (.ref a1), some (vI x2), some (vI x3)], [.ref a0, .ref a1], hp (wI (wI S21 (a0 + 7) (w32 58) 96) (a0 + 7) (w32 59) 10), 0, 0)) rfl ?_
  refine mv_gfR rfl rfl (ha0.1) (by decide) rfl ?_
  refine ev_bk 2 (S' := (180, [some (.ref a0), some (.ref a1), some (vI x2), some (vI x3)], [vI 60, vI 0, .ref (a0 + 7), .ref a1], hp (wI (wI S21 (a0 + 7) (w32 58) 96) (a0 + 7) (w32 59) 10), 0, 0)) rfl ?_
  obtain ⟨S27, e28, F⟩ := F
  refine mv_calv (as := [.ref (a0 + 7), vI 0, vI 60]) (rest := []) e28 (ha1.1) rfl rfl rfl ⟨rfl, rfl⟩ rfl rfl rfl rfl rfl ?_
  refine ev_bk 2 (S' := (185, [some (.ref a0), some (.ref a1), some (vI x2), some (vI x3)], [.ref a0, .ref a1], hp S27, 0, 0)) rfl ?_
  refine mv_gfR rfl rfl (ha0.1) (by decide) rfl ?_
  refine ev_bk 1 (S' := (189, [some (.ref a0), some (.ref a1), some (vI x2), some (vI x3)], [vI x2, .ref (a0 + 2), .ref a1], hp S27, 0, 0)) rfl ?_
  obtain ⟨b29, o30, no30, e32, h31, F⟩ := F
  refine mv_aaV rfl (ha0.2.2.1) (Or.inl rfl) b29 e32 ?_
  refine mv_gfR rfl rfl (h31.1) (by decide) rfl ?_
  refine ev_bk 2 (S' := (195, [some (.ref a0), some (.ref a1), some (vI x2), some (vI x3)], [.ref a0, vI 0, .ref (o30 + 1), .ref a1], hp S27, 0, 0)) rfl ?_
  refine mv_gfR rfl rfl (ha0.1) (by decide) rfl ?_
  refine ev_bk 1 (S' := (199, [some (.ref a0), some (.ref a1), some (vI x2), some (vI x3)], [vI x2, .ref (a0 + 2), vI 0, .ref (o30 + 1), .ref a1], hp S27, 0, 0)) rfl ?_
  obtain ⟨b33, o34, no34, e36, h35, F⟩ := F
  refine mv_aaV rfl (ha0.2.2.1) (Or.inl rfl) b33 e36 ?_
  refine mv_gfI rfl rfl (h35.1) (by decide) rfl ?_
  obtain ⟨S37, e38, F⟩ := F
  refine mv_calv (as := [.ref (o30 + 1), vI 0, vI (S27.1 o34 1)]) (rest := []) e38 (ha1.1) rfl rfl rfl ⟨rfl, rfl⟩ rfl rfl rfl rfl rfl ?_
  refine ev_bk 1 (S' := (207, [some (.ref a0), some (.ref a1), some (vI x2), some (vI x3)], [.ref a0], hp S37, 0, 0)) rfl ?_
  refine mv_gfR rfl rfl (ha0.1) (by decide) rfl ?_
  refine ev_bk 1 (S' := (211, [some (.ref a0), some (.ref a1), some (vI x2), some (vI x3)], [vI x2, .ref (a0 + 2)], hp S37, 0, 0)) rfl ?_
  obtain ⟨b39, o40, no40, e42, h41, F⟩ := F
  refine mv_aaV rfl (ha0.2.2.1) (Or.inl rfl) b39 e42 ?_
  refine mv_gfI rfl rfl (h41.1) (by decide) rfl ?_
  refine ev_bk 1 (S' := (216, [some (.ref a0), some (.ref a1), some (vI x2), some (vI x3)], [vI 2, vI (S37.1 o40 1)], hp S37, 0, 0)) rfl ?_
  refine mv_irem (by decide) rfl ?_
  refine ev_bk 1 (S' := (218, [some (.ref a0), some (.ref a1), some (vI x2), some (vI x3)], [vI 1, vI (Int.tmod (w32 (S37.1 o40 1)) (w32 2))], hp S37, 0, 0)) rfl ?_
  refine mv_icmp 227 rfl rfl (fun c => ?_) (fun c => ?_)
  · have F := F.1 c
    exact F
  · have F := F.2 c
    refine ev_bk 2 (S' := (224, [some (.ref a0), some (.ref a1), some (vI x2), some (vI x3)], [vI 10, .ref a1], hp S37, 0, 0)) rfl ?_
    obtain ⟨S43, e44, F⟩ := F
    refine mv_calv (as := [vI 10]) (rest := []) e44 (ha1.1) rfl rfl rfl ⟨rfl, rfl⟩ rfl rfl rfl rfl rfl ?_
    exact F
theorem vc_Shelf_writeBench_227 {q : Nat × (Nat → Int32)} {S S' : ms} {r : Option Value} (x2 x3 : Int) (a0 : Nat) (ha0 : isShelf a0) (a1 na1 : Nat) (ha1 : isRow a1 na1)
    (F : EV q 188 14 [some (.ref a0), some (.ref a1), some (vI (x2 + 1)), none] [] S r S') : EV q 188 227 [some (.ref a0), some (.ref a1), some (vI x2), some (vI x3)] [] S r S' := by
  unfold EV
  refine mv_inc (lv' := [some (.ref a0), some (.ref a1), some (vI (x2 + 1)), some (vI x3)]) 2 1 rfl rfl rfl rfl ?_
  refine mv_goto 14 rfl rfl ?_
  exact ev_wk (le_s (le_s (le_s (le_n le_0)))) F
theorem vc_Shelf_figuresIn {q : Nat × (Nat → Int32)} {S S' : ms} {r : Option Value} (x1 x2 x3 : Int) (a0 : Nat) (ha0 : isShelf a0)
    (F : ((w32 x3 = 0) → EV q 189 11 [some (.ref a0), some (vI x1), some (vI x2), some (vI x3), none, none, none, none] [vI 8] S r S') ∧ ((¬ w32 x3 = 0) → EV q 189 11 [some (.ref a0), some (vI x1), some (vI x2), some (vI x3), none, none, none, none] [vI 10] S r S')) : EV q 189 0 [some (.ref a0), some (vI x1), some (vI x2), some (vI x3), none, none, none, none] [] S r S' := by
  unfold EV
  refine ev_bk 1 (S' := (1, [some (.ref a0), some (vI x1), some (vI x2), some (vI x3), none, none, none, none], [vI x3], hp S, 0, 0)) rfl ?_
  refine mv_if 9 rfl rfl (fun c => ?_) (fun c => ?_)
  · have F := F.1 c
    refine ev_bk 1 (S' := (11, [some (.ref a0), some (vI x1), some (vI x2), some (vI x3), none, none, none, none], [vI 8], hp S, 0, 0)) rfl ?_
    exact F
  · have F := F.2 c
    refine ev_bk 1 (S' := (6, [some (.ref a0), some (vI x1), some (vI x2), some (vI x3), none, none, none, none], [vI 10], hp S, 0, 0)) rfl ?_
    refine mv_goto 11 rfl rfl ?_
    exact F
theorem vc_Shelf_figuresIn_11 {q : Nat × (Nat → Int32)} {S S' : ms} {r : Option Value} (x1 x2 x3 y0 : Int) (a0 : Nat) (ha0 : isShelf a0)
    (F : (¬ w32 y0 = 0) ∧ EV q 189 22 [some (.ref a0), some (vI x1), some (vI x2), some (vI x3), some (vI y0), some (vI 1), some (vI (Int.tdiv (w32 x2) (w32 y0))), none] [] S r S') : EV q 189 11 [some (.ref a0), some (vI x1), some (vI x2), some (vI x3), none, none, none, none] [vI y0] S r S' := by
  unfold EV
  refine ev_bk 5 (S' := (19, [some (.ref a0), some (vI x1), some (vI x2), some (vI x3), some (vI y0), some (vI 1), none, none], [vI y0, vI x2], hp S, 0, 0)) rfl ?_
  obtain ⟨b1, F⟩ := F
  refine mv_idiv b1 rfl ?_
  refine ev_bk 1 (S' := (22, [some (.ref a0), some (vI x1), some (vI x2), some (vI x3), some (vI y0), some (vI 1), some (vI (Int.tdiv (w32 x2) (w32 y0))), none], [], hp S, 0, 0)) rfl ?_
  exact F
theorem vc_Shelf_figuresIn_22 {q : Nat × (Nat → Int32)} {S S' : ms} {r : Option Value} (x1 x2 x3 x4 x5 x6 : Int) (a0 : Nat) (ha0 : isShelf a0)
    (F : ((w32 x6 ≤ 0) → EV q 189 49 [some (.ref a0), some (vI x1), some (vI x2), some (vI x3), some (vI x4), some (vI x5), some (vI x2), some (vI (x5 - 1))] [] S r S') ∧ ((¬ w32 x6 ≤ 0) → (¬ w32 x4 = 0) ∧ EV q 189 22 [some (.ref a0), some (vI x1), some (vI x2), some (vI x3), some (vI x4), some (vI (x5 + 1)), some (vI (Int.tdiv (w32 x6) (w32 x4))), none] [] S r S')) : EV q 189 22 [some (.ref a0), some (vI x1), some (vI x2), some (vI x3), some (vI x4), some (vI x5), some (vI x6), none] [] S r S' := by
  unfold EV
  refine ev_bk 1 (S' := (24, [some (.ref a0), some (vI x1), some (vI x2), some (vI x3), some (vI x4), some (vI x5), some (vI x6), none], [vI x6], hp S, 0, 0)) rfl ?_
  refine mv_if 40 rfl rfl (fun c => ?_) (fun c => ?_)
  · have F := F.1 c
    refine ev_bk 4 (S' := (46, [some (.ref a0), some (vI x1), some (vI x2), some (vI x3), some (vI x4), some (vI x5), some (vI x2), none], [vI 1, vI x5], hp S, 0, 0)) rfl ?_
    refine mv_isub rfl ?_
    refine ev_bk 1 (S' := (49, [some (.ref a0), some (vI x1), some (vI x2), some (vI x3), some (vI x4), some (vI x5), some (vI x2), some (vI (x5 - 1))], [], hp S, 0, 0)) rfl ?_
    exact F
  · have F := F.2 c
    refine mv_inc (lv' := [some (.ref a0), some (vI x1), some (vI x2), some (vI x3), some (vI x4), some (vI (x5 + 1)), some (vI x6), none]) 5 1 rfl rfl rfl rfl ?_
    refine ev_bk 2 (S' := (34, [some (.ref a0), some (vI x1), some (vI x2), some (vI x3), some (vI x4), some (vI (x5 + 1)), some (vI x6), none], [vI x4, vI x6], hp S, 0, 0)) rfl ?_
    obtain ⟨b1, F⟩ := F
    refine mv_idiv b1 rfl ?_
    refine ev_bk 1 (S' := (37, [some (.ref a0), some (vI x1), some (vI x2), some (vI x3), some (vI x4), some (vI (x5 + 1)), some (vI (Int.tdiv (w32 x6) (w32 x4))), none], [], hp S, 0, 0)) rfl ?_
    refine mv_goto 22 rfl rfl ?_
    exact F
theorem vc_Shelf_figuresIn_49 {q : Nat × (Nat → Int32)} {S S' : ms} {r : Option Value} (x1 x2 x3 x4 x5 x6 x7 : Int) (a0 : Nat) (ha0 : isShelf a0)
    (F : ((w32 x7 < 0) → r = none ∧ S' = S) ∧ ((¬ w32 x7 < 0) → (¬ w32 x4 = 0) ∧ (0 ≤ w32 (x1 + x7) ∧ w32 (x1 + x7) < (512 : Nat)) ∧ ∀ S3 : ms, S3 = wI S (a0 + 7) (w32 (x1 + x7)) (48 + (Int.tmod (w32 x6) (w32 x4))) → (¬ w32 x4 = 0) ∧ EV q 189 49 [some (.ref a0), some (vI x1), some (vI x2), some (vI x3), some (vI x4), some (vI x5), some (vI (Int.tdiv (w32 x6) (w32 x4))), some (vI (x7 - 1))] [] S3 r S')) : EV q 189 49 [some (.ref a0), some (vI x1), some (vI x2), some (vI x3), some (vI x4), some (vI x5), some (vI x6), some (vI x7)] [] S r S' := by
  unfold EV
  refine ev_bk 1 (S' := (51, [some (.ref a0), some (vI x1), some (vI x2), some (vI x3), some (vI x4), some (vI x5), some (vI x6), some (vI x7)], [vI x7], hp S, 0, 0)) rfl ?_
  refine mv_if 84 rfl rfl (fun c => ?_) (fun c => ?_)
  · have F := F.1 c
    obtain ⟨rfl, rfl⟩ := F
    exact ev_ret rfl rfl
  · have F := F.2 c
    refine ev_bk 1 (S' := (55, [some (.ref a0), some (vI x1), some (vI x2), some (vI x3), some (vI x4), some (vI x5), some (vI x6), some (vI x7)], [.ref a0], hp S, 0, 0)) rfl ?_
    refine mv_gfR rfl rfl (ha0.1) (by decide) rfl ?_
    refine ev_bk 2 (S' := (61, [some (.ref a0), some (vI x1), some (vI x2), some (vI x3), some (vI x4), some (vI x5), some (vI x6), some (vI x7)], [vI x7, vI x1, .ref (a0 + 7)], hp S, 0, 0)) rfl ?_
    refine mv_iadd rfl ?_
    refine ev_bk 3 (S' := (68, [some (.ref a0), some (vI x1), some (vI x2), some (vI x3), some (vI x4), some (vI x5), some (vI x6), some (vI x7)], [vI x4, vI x6, vI 48, vI (x1 + x7), .ref (a0 + 7)], hp S, 0, 0)) rfl ?_
    obtain ⟨b1, F⟩ := F
    refine mv_irem b1 rfl ?_
    refine mv_iadd rfl ?_
    obtain ⟨b2, F⟩ := F
    refine mv_ias rfl (ha0.2.2.2.2.2.2.2.1) b2 ?_
    have F := F _ rfl
    refine ev_bk 2 (S' := (75, [some (.ref a0), some (vI x1), some (vI x2), some (vI x3), some (vI x4), some (vI x5), some (vI x6), some (vI x7)], [vI x4, vI x6], hp (wI S (a0 + 7) (w32 (x1 + x7)) (48 + (Int.tmod (w32 x6) (w32 x4)))), 0, 0)) rfl ?_
    obtain ⟨b4, F⟩ := F
    refine mv_idiv b4 rfl ?_
    refine ev_bk 1 (S' := (78, [some (.ref a0), some (vI x1), some (vI x2), some (vI x3), some (vI x4), some (vI x5), some (vI (Int.tdiv (w32 x6) (w32 x4))), some (vI x7)], [], hp (wI S (a0 + 7) (w32 (x1 + x7)) (48 + (Int.tmod (w32 x6) (w32 x4)))), 0, 0)) rfl ?_
    refine mv_inc (lv' := [some (.ref a0), some (vI x1), some (vI x2), some (vI x3), some (vI x4), some (vI x5), some (vI (Int.tdiv (w32 x6) (w32 x4))), some (vI (x7 - 1))]) 7 (-1) rfl rfl rfl (by omega) ?_
    refine mv_goto 49 rfl rfl ?_
    exact F
theorem vc_Shelf_writeBox {q : Nat × (Nat → Int32)} {S S' : ms} {r : Option Value} (x2 : Int) (a0 : Nat) (ha0 : isShelf a0) (a1 na1 : Nat) (ha1 : isRow a1 na1)
    (F : EV q 190 2 [some (.ref a0), some (.ref a1), some (vI x2), some (vI 0), none] [] S r S') : EV q 190 0 [some (.ref a0), some (.ref a1), some (vI x2), none, none] [] S r S' := by
  unfold EV
  refine ev_bk 2 (S' := (2, [some (.ref a0), some (.ref a1), some (vI x2), some (vI 0), none], [], hp S, 0, 0)) rfl ?_
  exact F
theorem vc_Shelf_writeBox_2 {q : Nat × (Nat → Int32)} {S S' : ms} {r : Option Value} (x2 x3 : Int) (a0 : Nat) (ha0 : isShelf a0) (a1 na1 : Nat) (ha1 : isRow a1 na1)
    (F : ((w32 (S.1 a0 4) ≤ w32 x3) → EV q 190 235 [some (.ref a0), some (.ref a1), some (vI x2), some (vI (S.1 a1 1)), some (vI 0)] [] S r S') ∧ ((¬ w32 (S.1 a0 4) ≤ w32 x3) → (0 ≤ w32 x3 ∧ w32 x3 < (16 : Nat)) ∧ ∀ S2 : ms, S2 = wI S (a0 + 8) (w32 x3) (S.1 a1 1) → ∃ (S3 : ms), EV q 37 0 [some (.ref 7)] [] S2 none S3 ∧ (0 ≤ w32 x3 ∧ w32 x3 < (16 : Nat)) ∧ ∃ (o6 no6 : Nat), sh_r (SH (a0 + 2)).2.2 (w32 x3).toNat = some o6 ∧ isRow o6 no6 ∧ ∃ (z11 : Int) (S9 : ms), EV q 55 0 [some (.ref 30), some (.ref o6), some (vI x2), some (.ref 7), none, none] [] S3 (some (vI z11)) S9 ∧ ((¬ w32 (S9.1 7 2) = 0) → EV q 190 79 [some (.ref a0), some (.ref a1), some (vI x2), some (vI x3), none] [] S9 r S') ∧ ((¬ (¬ w32 (S9.1 7 2) = 0)) → (0 ≤ w32 x3 ∧ w32 x3 < (16 : Nat)) ∧ ∃ (o13 no13 : Nat), sh_r (SH (a0 + 2)).2.2 (w32 x3).toNat = some o13 ∧ isRow o13 no13 ∧ ((w32 (S9.1 o13 1) ≤ w32 (S9.1 7 1)) → EV q 190 79 [some (.ref a0), some (.ref a1), some (vI x2), some (vI x3), none] [] S9 r S') ∧ ((¬ w32 (S9.1 o13 1) ≤ w32 (S9.1 7 1)) → EV q 190 80 [some (.ref a0), some (.ref a1), some (vI x2), some (vI x3), none] [vI 1] S9 r S')))) : EV q 190 2 [some (.ref a0), some (.ref a1), some (vI x2), some (vI x3), none] [] S r S' := by
  unfold EV
  refine ev_bk 2 (S' := (4, [some (.ref a0), some (.ref a1), some (vI x2), some (vI x3), none], [.ref a0, vI x3], hp S, 0, 0)) rfl ?_
  refine mv_gfI rfl rfl (ha0.1) (by decide) rfl ?_
  refine mv_icmp 227 rfl rfl (fun c => ?_) (fun c => ?_)
  · have F := F.1 c
    refine ev_bk 1 (S' := (228, [some (.ref a0), some (.ref a1), some (vI x2), some (vI x3), none], [.ref a1], hp S, 0, 0)) rfl ?_
    refine mv_gfI rfl rfl (ha1.1) (by decide) rfl ?_
    refine ev_bk 3 (S' := (235, [some (.ref a0), some (.ref a1), some (vI x2), some (vI (S.1 a1 1)), some (vI 0)], [], hp S, 0, 0)) rfl ?_
    exact F
  · have F := F.2 c
    refine ev_bk 1 (S' := (11, [some (.ref a0), some (.ref a1), some (vI x2), some (vI x3), none], [.ref a0], hp S, 0, 0)) rfl ?_
    refine mv_gfR rfl rfl (ha0.1) (by decide) rfl ?_
    refine ev_bk 2 (S' := (16, [some (.ref a0), some (.ref a1), some (vI x2), some (vI x3), none], [.ref a1, vI x3, .ref (a0 + 8)], hp S, 0, 0)) rfl ?_
    refine mv_gfI rfl rfl (ha1.1) (by decide) rfl ?_
    obtain ⟨b1, F⟩ := F
    refine mv_ias rfl (ha0.2.2.2.2.2.2.2.2.1) b1 ?_
    have F := F _ rfl
    refine ev_bk 1 (S' := (21, [some (.ref a0), some (.ref a1), some (vI x2), some (vI x3), none], [.ref a0], hp (wI S (a0 + 8) (w32 x3) (S.1 a1 1)), 0, 0)) rfl ?_
    refine mv_gfR rfl rfl (ha0.1) (by decide) rfl ?_
    obtain ⟨S3, e4, F⟩ := F
    refine mv_calv (as := []) (rest := []) e4 (sh_7) rfl rfl rfl ⟨rfl, rfl⟩ rfl rfl rfl rfl rfl ?_
    refine ev_bk 1 (S' := (28, [some (.ref a0), some (.ref a1), some (vI x2), some (vI x3), none], [.ref a0], hp S3, 0, 0)) rfl ?_
    refine mv_gfR rfl rfl (ha0.1) (by decide) rfl ?_
    refine ev_bk 1 (S' := (32, [some (.ref a0), some (.ref a1), some (vI x2), some (vI x3), none], [.ref a0, .ref 30], hp S3, 0, 0)) rfl ?_
    refine mv_gfR rfl rfl (ha0.1) (by decide) rfl ?_
    refine ev_bk 1 (S' := (36, [some (.ref a0), some (.ref a1), some (vI x2), some (vI x3), none], [vI x3, .ref (a0 + 2), .ref 30], hp S3, 0, 0)) rfl ?_
    obtain ⟨b5, o6, no6, e8, h7, F⟩ := F
    refine mv_aaV rfl (ha0.2.2.1) (Or.inl rfl) b5 e8 ?_
    refine ev_bk 2 (S' := (39, [some (.ref a0), some (.ref a1), some (vI x2), some (vI x3), none], [.ref a0, vI x2, .ref o6, .ref 30], hp S3, 0, 0)) rfl ?_
    refine mv_gfR rfl rfl (ha0.1) (by decide) rfl ?_
    obtain ⟨z11, S9, e10, F⟩ := F
    refine mv_calv (as := [.ref o6, vI x2, .ref 7]) (rest := []) e10 (sh_30) rfl rfl rfl ⟨rfl, rfl⟩ rfl rfl rfl rfl rfl ?_
    refine ev_bk 2 (S' := (47, [some (.ref a0), some (.ref a1), some (vI x2), some (vI x3), none], [.ref a0], hp S9, 0, 0)) rfl ?_
    refine mv_gfR rfl rfl (ha0.1) (by decide) rfl ?_
    refine mv_gfI rfl rfl (sh_7) (by decide) rfl ?_
    refine mv_if 79 rfl rfl (fun c => ?_) (fun c => ?_)
    · have F := F.1 c
      exact F
    · have F := F.2 c
      refine ev_bk 1 (S' := (57, [some (.ref a0), some (.ref a1), some (vI x2), some (vI x3), none], [.ref a0], hp S9, 0, 0)) rfl ?_
      refine mv_gfR rfl rfl (ha0.1) (by decide) rfl ?_
      refine mv_gfI rfl rfl (sh_7) (by decide) rfl ?_
      refine ev_bk 1 (S' := (64, [some (.ref a0), some (.ref a1), some (vI x2), some (vI x3), none], [.ref a0, vI (S9.1 7 1)], hp S9, 0, 0)) rfl ?_
      refine mv_gfR rfl rfl (ha0.1) (by decide) rfl ?_
      refine ev_bk 1 (S' := (68, [some (.ref a0), some (.ref a1), some (vI x2), some (vI x3), none], [vI x3, .ref (a0 + 2), vI (S9.1 7 1)], hp S9, 0, 0)) rfl ?_
      obtain ⟨b12, o13, no13, e15, h14, F⟩ := F
      refine mv_aaV rfl (ha0.2.2.1) (Or.inl rfl) b12 e15 ?_
      refine mv_gfI rfl rfl (h14.1) (by decide) rfl ?_
      refine mv_icmp 79 rfl rfl (fun c => ?_) (fun c => ?_)
      · have F := F.1 c
        exact F
      · have F := F.2 c
        refine ev_bk 1 (S' := (76, [some (.ref a0), some (.ref a1), some (vI x2), some (vI x3), none], [vI 1], hp S9, 0, 0)) rfl ?_
        refine mv_goto 80 rfl rfl ?_
        exact F
theorem vc_Shelf_writeBox_79 {q : Nat × (Nat → Int32)} {S S' : ms} {r : Option Value} (x2 x3 : Int) (a0 : Nat) (ha0 : isShelf a0) (a1 na1 : Nat) (ha1 : isRow a1 na1)
    (F : EV q 190 80 [some (.ref a0), some (.ref a1), some (vI x2), some (vI x3), none] [vI 0] S r S') : EV q 190 79 [some (.ref a0), some (.ref a1), some (vI x2), some (vI x3), none] [] S r S' := by
  unfold EV
  refine ev_bk 1 (S' := (80, [some (.ref a0), some (.ref a1), some (vI x2), some (vI x3), none], [vI 0], hp S, 0, 0)) rfl ?_
  exact F
theorem vc_Shelf_writeBox_80 {q : Nat × (Nat → Int32)} {S S' : ms} {r : Option Value} (x2 x3 y0 : Int) (a0 : Nat) (ha0 : isShelf a0) (a1 na1 : Nat) (ha1 : isRow a1 na1)
    (F : ((w32 y0 = 0) → EV q 190 98 [some (.ref a0), some (.ref a1), some (vI x2), some (vI x3), some (vI y0)] [vI 0, vI x3, .ref (a0 + 9)] S r S') ∧ ((¬ w32 y0 = 0) → EV q 190 98 [some (.ref a0), some (.ref a1), some (vI x2), some (vI x3), some (vI y0)] [vI 8, vI x3, .ref (a0 + 9)] S r S')) : EV q 190 80 [some (.ref a0), some (.ref a1), some (vI x2), some (vI x3), none] [vI y0] S r S' := by
  unfold EV
  refine ev_bk 2 (S' := (83, [some (.ref a0), some (.ref a1), some (vI x2), some (vI x3), some (vI y0)], [.ref a0], hp S, 0, 0)) rfl ?_
  refine mv_gfR rfl rfl (ha0.1) (by decide) rfl ?_
  refine ev_bk 2 (S' := (89, [some (.ref a0), some (.ref a1), some (vI x2), some (vI x3), some (vI y0)], [vI y0, vI x3, .ref (a0 + 9)], hp S, 0, 0)) rfl ?_
  refine mv_if 97 rfl rfl (fun c => ?_) (fun c => ?_)
  · have F := F.1 c
    refine ev_bk 1 (S' := (98, [some (.ref a0), some (.ref a1), some (vI x2), some (vI x3), some (vI y0)], [vI 0, vI x3, .ref (a0 + 9)], hp S, 0, 0)) rfl ?_
    exact F
  · have F := F.2 c
    refine ev_bk 1 (S' := (94, [some (.ref a0), some (.ref a1), some (vI x2), some (vI x3), some (vI y0)], [vI 8, vI x3, .ref (a0 + 9)], hp S, 0, 0)) rfl ?_
    refine mv_goto 98 rfl rfl ?_
    exact F
theorem vc_Shelf_writeBox_98 {q : Nat × (Nat → Int32)} {S S' : ms} {r : Option Value} (x2 x3 x4 y0 y1 : Int) (a0 : Nat) (ha0 : isShelf a0) (a1 na1 : Nat) (ha1 : isRow a1 na1) (c2 nc2 : Nat) (hc2 : SH c2 = (0, nc2, []))
    (F : (0 ≤ w32 y1 ∧ w32 y1 < (nc2 : Nat)) ∧ ∀ S2 : ms, S2 = wI S c2 (w32 y1) y0 → ((w32 x4 = 0) → (0 ≤ w32 x3 ∧ w32 x3 < (16 : Nat)) ∧ ∃ (o4 no4 : Nat), sh_r (SH (a0 + 2)).2.2 (w32 x3).toNat = some o4 ∧ isRow o4 no4 ∧ EV q 190 128 [some (.ref a0), some (.ref a1), some (vI x2), some (vI x3), some (vI x4)] [vI (S2.1 o4 1), vI x3, .ref (a0 + 10)] S2 r S') ∧ ((¬ w32 x4 = 0) → EV q 190 128 [some (.ref a0), some (.ref a1), some (vI x2), some (vI x3), some (vI x4)] [vI (S2.1 7 1), vI x3, .ref (a0 + 10)] S2 r S')) : EV q 190 98 [some (.ref a0), some (.ref a1), some (vI x2), some (vI x3), some (vI x4)] [vI y0, vI y1, .ref c2] S r S' := by
  unfold EV
  obtain ⟨b1, F⟩ := F
  refine mv_ias rfl (hc2) b1 ?_
  have F := F _ rfl
  refine ev_bk 1 (S' := (100, [some (.ref a0), some (.ref a1), some (vI x2), some (vI x3), some (vI x4)], [.ref a0], hp (wI S c2 (w32 y1) y0), 0, 0)) rfl ?_
  refine mv_gfR rfl rfl (ha0.1) (by decide) rfl ?_
  refine ev_bk 2 (S' := (106, [some (.ref a0), some (.ref a1), some (vI x2), some (vI x3), some (vI x4)], [vI x4, vI x3, .ref (a0 + 10)], hp (wI S c2 (w32 y1) y0), 0, 0)) rfl ?_
  refine mv_if 119 rfl rfl (fun c => ?_) (fun c => ?_)
  · have F := F.1 c
    refine ev_bk 1 (S' := (120, [some (.ref a0), some (.ref a1), some (vI x2), some (vI x3), some (vI x4)], [.ref a0, vI x3, .ref (a0 + 10)], hp (wI S c2 (w32 y1) y0), 0, 0)) rfl ?_
    refine mv_gfR rfl rfl (ha0.1) (by decide) rfl ?_
    refine ev_bk 1 (S' := (124, [some (.ref a0), some (.ref a1), some (vI x2), some (vI x3), some (vI x4)], [vI x3, .ref (a0 + 2), vI x3, .ref (a0 + 10)], hp (wI S c2 (w32 y1) y0), 0, 0)) rfl ?_
    obtain ⟨b3, o4, no4, e6, h5, F⟩ := F
    refine mv_aaV rfl (ha0.2.2.1) (Or.inl rfl) b3 e6 ?_
    refine mv_gfI rfl rfl (h5.1) (by decide) rfl ?_
    exact F
  · have F := F.2 c
    refine ev_bk 1 (S' := (110, [some (.ref a0), some (.ref a1), some (vI x2), some (vI x3), some (vI x4)], [.ref a0, vI x3, .ref (a0 + 10)], hp (wI S c2 (w32 y1) y0), 0, 0)) rfl ?_
    refine mv_gfR rfl rfl (ha0.1) (by decide) rfl ?_
    refine mv_gfI rfl rfl (sh_7) (by decide) rfl ?_
    refine mv_goto 128 rfl rfl ?_
    exact F
theorem vc_Shelf_writeBox_128 {q : Nat × (Nat → Int32)} {S S' : ms} {r : Option Value} (x2 x3 x4 y0 y1 : Int) (a0 : Nat) (ha0 : isShelf a0) (a1 na1 : Nat) (ha1 : isRow a1 na1) (c2 nc2 : Nat) (hc2 : SH c2 = (0, nc2, []))
    (F : (0 ≤ w32 y1 ∧ w32 y1 < (nc2 : Nat)) ∧ ∀ S2 : ms, S2 = wI S c2 (w32 y1) y0 → ∃ (S3 : ms), EV q 57 0 [some (.ref a1), some (vL 67324752), none, some (vI 4), none] [] S2 none S3 ∧ ∃ (S5 : ms), EV q 57 0 [some (.ref a1), some (vL 20), none, some (vI 2), none] [] S3 none S5 ∧ ∃ (S7 : ms), EV q 57 0 [some (.ref a1), some (vL 0), none, some (vI 2), none] [] S5 none S7 ∧ ∃ (S9 : ms), EV q 191 0 [some (.ref a0), some (vI x3), some (.ref a1)] [] S7 none S9 ∧ ∃ (S11 : ms), EV q 57 0 [some (.ref a1), some (vL 0), none, some (vI 2), none] [] S9 none S11 ∧ (0 ≤ w32 x3 ∧ w32 x3 < (16 : Nat)) ∧ ∃ (o14 no14 : Nat), sh_r (SH (a0 + 1)).2.2 (w32 x3).toNat = some o14 ∧ isRow o14 no14 ∧ (0 ≤ w32 x3 ∧ w32 x3 < (16 : Nat)) ∧ ∃ (o18 no18 : Nat), sh_r (SH (a0 + 1)).2.2 (w32 x3).toNat = some o18 ∧ isRow o18 no18 ∧ ∃ (S21 : ms), EV q 38 0 [some (.ref a1), some (.ref (o14 + 1)), some (vI 0), some (vI (S11.1 o18 1)), none] [] S11 none S21 ∧ ((w32 x4 = 0) → (0 ≤ w32 x3 ∧ w32 x3 < (16 : Nat)) ∧ ∃ (o24 no24 : Nat), sh_r (SH (a0 + 2)).2.2 (w32 x3).toNat = some o24 ∧ isRow o24 no24 ∧ EV q 190 211 [some (.ref a0), some (.ref a1), some (vI x2), some (vI x3), some (vI x4)] [.ref (o24 + 1), .ref a1] S21 r S') ∧ ((¬ w32 x4 = 0) → EV q 190 211 [some (.ref a0), some (.ref a1), some (vI x2), some (vI x3), some (vI x4)] [.ref 8, .ref a1] S21 r S')) : EV q 190 128 [some (.ref a0), some (.ref a1), some (vI x2), some (vI x3), some (vI x4)] [vI y0, vI y1, .ref c2] S r S' := by
  unfold EV
  obtain ⟨b1, F⟩ := F
  refine mv_ias rfl (hc2) b1 ?_
  have F := F _ rfl
  refine ev_bk 3 (S' := (134, [some (.ref a0), some (.ref a1), some (vI x2), some (vI x3), some (vI x4)], [vI 4, vL 67324752, .ref a1], hp (wI S c2 (w32 y1) y0), 0, 0)) rfl ?_
  obtain ⟨S3, e4, F⟩ := F
  refine mv_calv (as := [vL 67324752, vI 4]) (rest := []) e4 (ha1.1) rfl rfl rfl ⟨rfl, rfl⟩ rfl rfl rfl rfl rfl ?_
  refine ev_bk 3 (S' := (142, [some (.ref a0), some (.ref a1), some (vI x2), some (vI x3), some (vI x4)], [vI 2, vL 20, .ref a1], hp S3, 0, 0)) rfl ?_
  obtain ⟨S5, e6, F⟩ := F
  refine mv_calv (as := [vL 20, vI 2]) (rest := []) e6 (ha1.1) rfl rfl rfl ⟨rfl, rfl⟩ rfl rfl rfl rfl rfl ?_
  refine ev_bk 3 (S' := (148, [some (.ref a0), some (.ref a1), some (vI x2), some (vI x3), some (vI x4)], [vI 2, vL 0, .ref a1], hp S5, 0, 0)) rfl ?_
  obtain ⟨S7, e8, F⟩ := F
  refine mv_calv (as := [vL 0, vI 2]) (rest := []) e8 (ha1.1) rfl rfl rfl ⟨rfl, rfl⟩ rfl rfl rfl rfl rfl ?_
  refine ev_bk 3 (S' := (154, [some (.ref a0), some (.ref a1), some (vI x2), some (vI x3), some (vI x4)], [.ref a1, vI x3, .ref a0], hp S7, 0, 0)) rfl ?_
  obtain ⟨S9, e10, F⟩ := F
  refine mv_calv (as := [vI x3, .ref a1]) (rest := []) e10 (ha0.1) rfl rfl rfl ⟨rfl, rfl⟩ rfl rfl rfl rfl rfl ?_
  refine ev_bk 3 (S' := (160, [some (.ref a0), some (.ref a1), some (vI x2), some (vI x3), some (vI x4)], [vI 2, vL 0, .ref a1], hp S9, 0, 0)) rfl ?_
  obtain ⟨S11, e12, F⟩ := F
  refine mv_calv (as := [vL 0, vI 2]) (rest := []) e12 (ha1.1) rfl rfl rfl ⟨rfl, rfl⟩ rfl rfl rfl rfl rfl ?_
  refine ev_bk 2 (S' := (165, [some (.ref a0), some (.ref a1), some (vI x2), some (vI x3), some (vI x4)], [.ref a0, .ref a1], hp S11, 0, 0)) rfl ?_
  refine mv_gfR rfl rfl (ha0.1) (by decide) rfl ?_
  refine ev_bk 1 (S' := (169, [some (.ref a0), some (.ref a1), some (vI x2), some (vI x3), some (vI x4)], [vI x3, .ref (a0 + 1), .ref a1], hp S11, 0, 0)) rfl ?_
  obtain ⟨b13, o14, no14, e16, h15, F⟩ := F
  refine mv_aaV rfl (ha0.2.1) (Or.inl rfl) b13 e16 ?_
  refine mv_gfR rfl rfl (h15.1) (by decide) rfl ?_
  refine ev_bk 2 (S' := (175, [some (.ref a0), some (.ref a1), some (vI x2), some (vI x3), some (vI x4)], [.ref a0, vI 0, .ref (o14 + 1), .ref a1], hp S11, 0, 0)) rfl ?_
  refine mv_gfR rfl rfl (ha0.1) (by decide) rfl ?_
  refine ev_bk 1 (S' := (179, [some (.ref a0), some (.ref a1), some (vI x2), some (vI x3), some (vI x4)], [vI x3, .ref (a0 + 1), vI 0, .ref (o14 + 1), .ref a1], hp S11, 0, 0)) rfl ?_
  obtain ⟨b17, o18, no18, e20, h19, F⟩ := F
  refine mv_aaV rfl (ha0.2.1) (Or.inl rfl) b17 e20 ?_
  refine mv_gfI rfl rfl (h19.1) (by decide) rfl ?_
  obtain ⟨S21, e22, F⟩ := F
  refine mv_calv (as := [.ref (o14 + 1), vI 0, vI (S11.1 o18 1)]) (rest := []) e22 (ha1.1) rfl rfl rfl ⟨rfl, rfl⟩ rfl rfl rfl rfl rfl ?_
  refine ev_bk 2 (S' := (189, [some (.ref a0), some (.ref a1), some (vI x2), some (vI x3), some (vI x4)], [vI x4, .ref a1], hp S21, 0, 0)) rfl ?_
  refine mv_if 202 rfl rfl (fun c => ?_) (fun c => ?_)
  · have F := F.1 c
    refine ev_bk 1 (S' := (203, [some (.ref a0), some (.ref a1), some (vI x2), some (vI x3), some (vI x4)], [.ref a0, .ref a1], hp S21, 0, 0)) rfl ?_
    refine mv_gfR rfl rfl (ha0.1) (by decide) rfl ?_
    refine ev_bk 1 (S' := (207, [some (.ref a0), some (.ref a1), some (vI x2), some (vI x3), some (vI x4)], [vI x3, .ref (a0 + 2), .ref a1], hp S21, 0, 0)) rfl ?_
    obtain ⟨b23, o24, no24, e26, h25, F⟩ := F
    refine mv_aaV rfl (ha0.2.2.1) (Or.inl rfl) b23 e26 ?_
    refine mv_gfR rfl rfl (h25.1) (by decide) rfl ?_
    exact F
  · have F := F.2 c
    refine ev_bk 1 (S' := (193, [some (.ref a0), some (.ref a1), some (vI x2), some (vI x3), some (vI x4)], [.ref a0, .ref a1], hp S21, 0, 0)) rfl ?_
    refine mv_gfR rfl rfl (ha0.1) (by decide) rfl ?_
    refine mv_gfR rfl rfl (sh_7) (by decide) rfl ?_
    refine mv_goto 211 rfl rfl ?_
    exact F
theorem vc_Shelf_writeBox_211 {q : Nat × (Nat → Int32)} {S S' : ms} {r : Option Value} (x2 x3 x4 : Int) (a0 : Nat) (ha0 : isShelf a0) (a1 na1 : Nat) (ha1 : isRow a1 na1) (c0 nc0 : Nat) (hc0 : SH c0 = (0, nc0, [])) (c1 nc1 : Nat) (hc1 : isRow c1 nc1)
    (F : (0 ≤ w32 x3 ∧ w32 x3 < (16 : Nat)) ∧ ∃ (S2 : ms), EV q 38 0 [some (.ref c1), some (.ref c0), some (vI 0), some (vI (S.1 (a0 + 10) (w32 x3))), none] [] S none S2 ∧ EV q 190 2 [some (.ref a0), some (.ref a1), some (vI x2), some (vI (x3 + 1)), none] [] S2 r S') : EV q 190 211 [some (.ref a0), some (.ref a1), some (vI x2), some (vI x3), some (vI x4)] [.ref c0, .ref c1] S r S' := by
  unfold EV
  refine ev_bk 2 (S' := (213, [some (.ref a0), some (.ref a1), some (vI x2), some (vI x3), some (vI x4)], [.ref a0, vI 0, .ref c0, .ref c1], hp S, 0, 0)) rfl ?_
  refine mv_gfR rfl rfl (ha0.1) (by decide) rfl ?_
  refine ev_bk 1 (S' := (217, [some (.ref a0), some (.ref a1), some (vI x2), some (vI x3), some (vI x4)], [vI x3, .ref (a0 + 10), vI 0, .ref c0, .ref c1], hp S, 0, 0)) rfl ?_
  obtain ⟨b1, F⟩ := F
  refine mv_ial rfl (ha0.2.2.2.2.2.2.2.2.2.2) b1 ?_
  obtain ⟨S2, e3, F⟩ := F
  refine mv_calv (as := [.ref c0, vI 0, vI (S.1 (a0 + 10) (w32 x3))]) (rest := []) e3 (hc1.1) rfl rfl rfl ⟨rfl, rfl⟩ rfl rfl rfl rfl rfl ?_
  refine mv_inc (lv' := [some (.ref a0), some (.ref a1), some (vI x2), some (vI (x3 + 1)), some (vI x4)]) 3 1 rfl rfl rfl rfl ?_
  refine mv_goto 2 rfl rfl ?_
  exact ev_wk (le_s (le_s (le_s (le_s (le_n le_0))))) F
theorem vc_Shelf_writeBox_235 {q : Nat × (Nat → Int32)} {S S' : ms} {r : Option Value} (x2 x3 x4 : Int) (a0 : Nat) (ha0 : isShelf a0) (a1 na1 : Nat) (ha1 : isRow a1 na1)
    (F : ((w32 (S.1 a0 4) ≤ w32 x4) → ∃ (S1 : ms), EV q 57 0 [some (.ref a1), some (vL 101010256), none, some (vI 4), none] [] S none S1 ∧ ∃ (S3 : ms), EV q 57 0 [some (.ref a1), some (vL 0), none, some (vI 4), none] [] S1 none S3 ∧ ∃ (S5 : ms), EV q 57 0 [some (.ref a1), some (vL (w32 (S3.1 a0 4))), none, some (vI 2), none] [] S3 none S5 ∧ ∃ (S7 : ms), EV q 57 0 [some (.ref a1), some (vL (w32 (S5.1 a0 4))), none, some (vI 2), none] [] S5 none S7 ∧ ∃ (S9 : ms), EV q 57 0 [some (.ref a1), some (vL (w32 ((S.1 a1 1) - x3))), none, some (vI 4), none] [] S7 none S9 ∧ ∃ (S11 : ms), EV q 57 0 [some (.ref a1), some (vL (w32 x3)), none, some (vI 4), none] [] S9 none S11 ∧ ∃ (S13 : ms), EV q 57 0 [some (.ref a1), some (vL 0), none, some (vI 2), none] [] S11 none S13 ∧ r = none ∧ S' = S13) ∧ ((¬ w32 (S.1 a0 4) ≤ w32 x4) → ∃ (S15 : ms), EV q 57 0 [some (.ref a1), some (vL 33639248), none, some (vI 4), none] [] S none S15 ∧ ∃ (S17 : ms), EV q 57 0 [some (.ref a1), some (vL 20), none, some (vI 2), none] [] S15 none S17 ∧ ∃ (S19 : ms), EV q 57 0 [some (.ref a1), some (vL 20), none, some (vI 2), none] [] S17 none S19 ∧ ∃ (S21 : ms), EV q 57 0 [some (.ref a1), some (vL 0), none, some (vI 2), none] [] S19 none S21 ∧ ∃ (S23 : ms), EV q 191 0 [some (.ref a0), some (vI x4), some (.ref a1)] [] S21 none S23 ∧ ∃ (S25 : ms), EV q 57 0 [some (.ref a1), some (vL 0), none, some (vI 8), none] [] S23 none S25 ∧ (0 ≤ w32 x4 ∧ w32 x4 < (16 : Nat)) ∧ ∃ (S28 : ms), EV q 57 0 [some (.ref a1), some (vL ((w32 (S25.1 (a0 + 3) (w32 x4))) * 65536)), none, some (vI 4), none] [] S25 none S28 ∧ (0 ≤ w32 x4 ∧ w32 x4 < (16 : Nat)) ∧ ∃ (S31 : ms), EV q 57 0 [some (.ref a1), some (vL (w32 (S28.1 (a0 + 8) (w32 x4)))), none, some (vI 4), none] [] S28 none S31 ∧ (0 ≤ w32 x4 ∧ w32 x4 < (16 : Nat)) ∧ ∃ (o34 no34 : Nat), sh_r (SH (a0 + 1)).2.2 (w32 x4).toNat = some o34 ∧ isRow o34 no34 ∧ (0 ≤ w32 x4 ∧ w32 x4 < (16 : Nat)) ∧ ∃ (o38 no38 : Nat), sh_r (SH (a0 + 1)).2.2 (w32 x4).toNat = some o38 ∧ isRow o38 no38 ∧ ∃ (S41 : ms), EV q 38 0 [some (.ref a1), some (.ref (o34 + 1)), some (vI 0), some (vI (S31.1 o38 1)), none] [] S31 none S41 ∧ EV q 190 235 [some (.ref a0), some (.ref a1), some (vI x2), some (vI x3), some (vI (x4 + 1))] [] S41 r S')) : EV q 190 235 [some (.ref a0), some (.ref a1), some (vI x2), some (vI x3), some (vI x4)] [] S r S' := by
  unfold EV
  refine ev_bk 2 (S' := (238, [some (.ref a0), some (.ref a1), some (vI x2), some (vI x3), some (vI x4)], [.ref a0, vI x4], hp S, 0, 0)) rfl ?_
  refine mv_gfI rfl rfl (ha0.1) (by decide) rfl ?_
  refine mv_icmp 349 rfl rfl (fun c => ?_) (fun c => ?_)
  · have F := F.1 c
    refine ev_bk 1 (S' := (350, [some (.ref a0), some (.ref a1), some (vI x2), some (vI x3), some (vI x4)], [.ref a1], hp S, 0, 0)) rfl ?_
    refine mv_gfI rfl rfl (ha1.1) (by decide) rfl ?_
    refine ev_bk 1 (S' := (354, [some (.ref a0), some (.ref a1), some (vI x2), some (vI x3), some (vI x4)], [vI x3, vI (S.1 a1 1)], hp S, 0, 0)) rfl ?_
    refine mv_isub rfl ?_
    refine ev_bk 4 (S' := (362, [some (.ref a0), some (.ref a1), some (vI x2), some (vI x3), some (vI ((S.1 a1 1) - x3))], [vI 4, vL 101010256, .ref a1], hp S, 0, 0)) rfl ?_
    obtain ⟨S1, e2, F⟩ := F
    refine mv_calv (as := [vL 101010256, vI 4]) (rest := []) e2 (ha1.1) rfl rfl rfl ⟨rfl, rfl⟩ rfl rfl rfl rfl rfl ?_
    refine ev_bk 3 (S' := (368, [some (.ref a0), some (.ref a1), some (vI x2), some (vI x3), some (vI ((S.1 a1 1) - x3))], [vI 4, vL 0, .ref a1], hp S1, 0, 0)) rfl ?_
    obtain ⟨S3, e4, F⟩ := F
    refine mv_calv (as := [vL 0, vI 4]) (rest := []) e4 (ha1.1) rfl rfl rfl ⟨rfl, rfl⟩ rfl rfl rfl rfl rfl ?_
    refine ev_bk 2 (S' := (373, [some (.ref a0), some (.ref a1), some (vI x2), some (vI x3), some (vI ((S.1 a1 1) - x3))], [.ref a0, .ref a1], hp S3, 0, 0)) rfl ?_
    refine mv_gfI rfl rfl (ha0.1) (by decide) rfl ?_
    refine mv_i2l rfl ?_
    refine ev_bk 1 (S' := (378, [some (.ref a0), some (.ref a1), some (vI x2), some (vI x3), some (vI ((S.1 a1 1) - x3))], [vI 2, vL (w32 (S3.1 a0 4)), .ref a1], hp S3, 0, 0)) rfl ?_
    obtain ⟨S5, e6, F⟩ := F
    refine mv_calv (as := [vL (w32 (S3.1 a0 4)), vI 2]) (rest := []) e6 (ha1.1) rfl rfl rfl ⟨rfl, rfl⟩ rfl rfl rfl rfl rfl ?_
    refine ev_bk 2 (S' := (383, [some (.ref a0), some (.ref a1), some (vI x2), some (vI x3), some (vI ((S.1 a1 1) - x3))], [.ref a0, .ref a1], hp S5, 0, 0)) rfl ?_
    refine mv_gfI rfl rfl (ha0.1) (by decide) rfl ?_
    refine mv_i2l rfl ?_
    refine ev_bk 1 (S' := (388, [some (.ref a0), some (.ref a1), some (vI x2), some (vI x3), some (vI ((S.1 a1 1) - x3))], [vI 2, vL (w32 (S5.1 a0 4)), .ref a1], hp S5, 0, 0)) rfl ?_
    obtain ⟨S7, e8, F⟩ := F
    refine mv_calv (as := [vL (w32 (S5.1 a0 4)), vI 2]) (rest := []) e8 (ha1.1) rfl rfl rfl ⟨rfl, rfl⟩ rfl rfl rfl rfl rfl ?_
    refine ev_bk 2 (S' := (394, [some (.ref a0), some (.ref a1), some (vI x2), some (vI x3), some (vI ((S.1 a1 1) - x3))], [vI ((S.1 a1 1) - x3), .ref a1], hp S7, 0, 0)) rfl ?_
    refine mv_i2l rfl ?_
    refine ev_bk 1 (S' := (396, [some (.ref a0), some (.ref a1), some (vI x2), some (vI x3), some (vI ((S.1 a1 1) - x3))], [vI 4, vL (w32 ((S.1 a1 1) - x3)), .ref a1], hp S7, 0, 0)) rfl ?_
    obtain ⟨S9, e10, F⟩ := F
    refine mv_calv (as := [vL (w32 ((S.1 a1 1) - x3)), vI 4]) (rest := []) e10 (ha1.1) rfl rfl rfl ⟨rfl, rfl⟩ rfl rfl rfl rfl rfl ?_
    refine ev_bk 2 (S' := (401, [some (.ref a0), some (.ref a1), some (vI x2), some (vI x3), some (vI ((S.1 a1 1) - x3))], [vI x3, .ref a1], hp S9, 0, 0)) rfl ?_
    refine mv_i2l rfl ?_
    refine ev_bk 1 (S' := (403, [some (.ref a0), some (.ref a1), some (vI x2), some (vI x3), some (vI ((S.1 a1 1) - x3))], [vI 4, vL (w32 x3), .ref a1], hp S9, 0, 0)) rfl ?_
    obtain ⟨S11, e12, F⟩ := F
    refine mv_calv (as := [vL (w32 x3), vI 4]) (rest := []) e12 (ha1.1) rfl rfl rfl ⟨rfl, rfl⟩ rfl rfl rfl rfl rfl ?_
    refine ev_bk 3 (S' := (409, [some (.ref a0), some (.ref a1), some (vI x2), some (vI x3), some (vI ((S.1 a1 1) - x3))], [vI 2, vL 0, .ref a1], hp S11, 0, 0)) rfl ?_
    obtain ⟨S13, e14, F⟩ := F
    refine mv_calv (as := [vL 0, vI 2]) (rest := []) e14 (ha1.1) rfl rfl rfl ⟨rfl, rfl⟩ rfl rfl rfl rfl rfl ?_
    obtain ⟨rfl, rfl⟩ := F
    exact ev_ret rfl rfl
  · have F := F.2 c
    refine ev_bk 3 (S' := (249, [some (.ref a0), some (.ref a1), some (vI x2), some (vI x3), some (vI x4)], [vI 4, vL 33639248, .ref a1], hp S, 0, 0)) rfl ?_
    obtain ⟨S15, e16, F⟩ := F
    refine mv_calv (as := [vL 33639248, vI 4]) (rest := []) e16 (ha1.1) rfl rfl rfl ⟨rfl, rfl⟩ rfl rfl rfl rfl rfl ?_
    refine ev_bk 3 (S' := (257, [some (.ref a0), some (.ref a1), some (vI x2), some (vI x3), some (vI x4)], [vI 2, vL 20, .ref a1], hp S15, 0, 0)) rfl ?_
    obtain ⟨S17, e18, F⟩ := F
    refine mv_calv (as := [vL 20, vI 2]) (rest := []) e18 (ha1.1) rfl rfl rfl ⟨rfl, rfl⟩ rfl rfl rfl rfl rfl ?_
    refine ev_bk 3 (S' := (265, [some (.ref a0), some (.ref a1), some (vI x2), some (vI x3), some (vI x4)], [vI 2, vL 20, .ref a1], hp S17, 0, 0)) rfl ?_
    obtain ⟨S19, e20, F⟩ := F
    refine mv_calv (as := [vL 20, vI 2]) (rest := []) e20 (ha1.1) rfl rfl rfl ⟨rfl, rfl⟩ rfl rfl rfl rfl rfl ?_
    refine ev_bk 3 (S' := (271, [some (.ref a0), some (.ref a1), some (vI x2), some (vI x3), some (vI x4)], [vI 2, vL 0, .ref a1], hp S19, 0, 0)) rfl ?_
    obtain ⟨S21, e22, F⟩ := F
    refine mv_calv (as := [vL 0, vI 2]) (rest := []) e22 (ha1.1) rfl rfl rfl ⟨rfl, rfl⟩ rfl rfl rfl rfl rfl ?_
    refine ev_bk 3 (S' := (278, [some (.ref a0), some (.ref a1), some (vI x2), some (vI x3), some (vI x4)], [.ref a1, vI x4, .ref a0], hp S21, 0, 0)) rfl ?_
    obtain ⟨S23, e24, F⟩ := F
    refine mv_calv (as := [vI x4, .ref a1]) (rest := []) e24 (ha0.1) rfl rfl rfl ⟨rfl, rfl⟩ rfl rfl rfl rfl rfl ?_
    refine ev_bk 3 (S' := (285, [some (.ref a0), some (.ref a1), some (vI x2), some (vI x3), some (vI x4)], [vI 8, vL 0, .ref a1], hp S23, 0, 0)) rfl ?_
    obtain ⟨S25, e26, F⟩ := F
    refine mv_calv (as := [vL 0, vI 8]) (rest := []) e26 (ha1.1) rfl rfl rfl ⟨rfl, rfl⟩ rfl rfl rfl rfl rfl ?_
    refine ev_bk 2 (S' := (290, [some (.ref a0), some (.ref a1), some (vI x2), some (vI x3), some (vI x4)], [.ref a0, .ref a1], hp S25, 0, 0)) rfl ?_
    refine mv_gfR rfl rfl (ha0.1) (by decide) rfl ?_
    refine ev_bk 1 (S' := (295, [some (.ref a0), some (.ref a1), some (vI x2), some (vI x3), some (vI x4)], [vI x4, .ref (a0 + 3), .ref a1], hp S25, 0, 0)) rfl ?_
    obtain ⟨b27, F⟩ := F
    refine mv_ial rfl (ha0.2.2.2.1) b27 ?_
    refine mv_i2l rfl ?_
    refine ev_bk 1 (S' := (300, [some (.ref a0), some (.ref a1), some (vI x2), some (vI x3), some (vI x4)], [vL 65536, vL (w32 (S25.1 (a0 + 3) (w32 x4))), .ref a1], hp S25, 0, 0)) rfl ?_
    refine mv_lmul rfl ?_
    refine ev_bk 1 (S' := (302, [some (.ref a0), some (.ref a1), some (vI x2), some (vI x3), some (vI x4)], [vI 4, vL ((w32 (S25.1 (a0 + 3) (w32 x4))) * 65536), .ref a1], hp S25, 0, 0)) rfl ?_
    obtain ⟨S28, e29, F⟩ := F
    refine mv_calv (as := [vL ((w32 (S25.1 (a0 + 3) (w32 x4))) * 65536), vI 4]) (rest := []) e29 (ha1.1) rfl rfl rfl ⟨rfl, rfl⟩ rfl rfl rfl rfl rfl ?_
    refine ev_bk 2 (S' := (307, [some (.ref a0), some (.ref a1), some (vI x2), some (vI x3), some (vI x4)], [.ref a0, .ref a1], hp S28, 0, 0)) rfl ?_
    refine mv_gfR rfl rfl (ha0.1) (by decide) rfl ?_
    refine ev_bk 1 (S' := (312, [some (.ref a0), some (.ref a1), some (vI x2), some (vI x3), some (vI x4)], [vI x4, .ref (a0 + 8), .ref a1], hp S28, 0, 0)) rfl ?_
    obtain ⟨b30, F⟩ := F
    refine mv_ial rfl (ha0.2.2.2.2.2.2.2.2.1) b30 ?_
    refine mv_i2l rfl ?_
    refine ev_bk 1 (S' := (315, [some (.ref a0), some (.ref a1), some (vI x2), some (vI x3), some (vI x4)], [vI 4, vL (w32 (S28.1 (a0 + 8) (w32 x4))), .ref a1], hp S28, 0, 0)) rfl ?_
    obtain ⟨S31, e32, F⟩ := F
    refine mv_calv (as := [vL (w32 (S28.1 (a0 + 8) (w32 x4))), vI 4]) (rest := []) e32 (ha1.1) rfl rfl rfl ⟨rfl, rfl⟩ rfl rfl rfl rfl rfl ?_
    refine ev_bk 2 (S' := (320, [some (.ref a0), some (.ref a1), some (vI x2), some (vI x3), some (vI x4)], [.ref a0, .ref a1], hp S31, 0, 0)) rfl ?_
    refine mv_gfR rfl rfl (ha0.1) (by decide) rfl ?_
    refine ev_bk 1 (S' := (325, [some (.ref a0), some (.ref a1), some (vI x2), some (vI x3), some (vI x4)], [vI x4, .ref (a0 + 1), .ref a1], hp S31, 0, 0)) rfl ?_
    obtain ⟨b33, o34, no34, e36, h35, F⟩ := F
    refine mv_aaV rfl (ha0.2.1) (Or.inl rfl) b33 e36 ?_
    refine mv_gfR rfl rfl (h35.1) (by decide) rfl ?_
    refine ev_bk 2 (S' := (331, [some (.ref a0), some (.ref a1), some (vI x2), some (vI x3), some (vI x4)], [.ref a0, vI 0, .ref (o34 + 1), .ref a1], hp S31, 0, 0)) rfl ?_
    refine mv_gfR rfl rfl (ha0.1) (by decide) rfl ?_
    refine ev_bk 1 (S' := (336, [some (.ref a0), some (.ref a1), some (vI x2), some (vI x3), some (vI x4)], [vI x4, .ref (a0 + 1), vI 0, .ref (o34 + 1), .ref a1], hp S31, 0, 0)) rfl ?_
    obtain ⟨b37, o38, no38, e40, h39, F⟩ := F
    refine mv_aaV rfl (ha0.2.1) (Or.inl rfl) b37 e40 ?_
    refine mv_gfI rfl rfl (h39.1) (by decide) rfl ?_
    obtain ⟨S41, e42, F⟩ := F
    refine mv_calv (as := [.ref (o34 + 1), vI 0, vI (S31.1 o38 1)]) (rest := []) e42 (ha1.1) rfl rfl rfl ⟨rfl, rfl⟩ rfl rfl rfl rfl rfl ?_
    refine mv_inc (lv' := [some (.ref a0), some (.ref a1), some (vI x2), some (vI x3), some (vI (x4 + 1))]) 4 1 rfl rfl rfl rfl ?_
    refine mv_goto 235 rfl rfl ?_
    exact F
theorem vc_Shelf_boxFacts {q : Nat × (Nat → Int32)} {S S' : ms} {r : Option Value} (x1 : Int) (a0 : Nat) (ha0 : isShelf a0) (a2 na2 : Nat) (ha2 : isRow a2 na2)
    (F : (0 ≤ w32 x1 ∧ w32 x1 < (16 : Nat)) ∧ ∃ (S2 : ms), EV q 57 0 [some (.ref a2), some (vL (w32 (S.1 (a0 + 9) (w32 x1)))), none, some (vI 2), none] [] S none S2 ∧ (0 ≤ w32 x1 ∧ w32 x1 < (16 : Nat)) ∧ ∃ (S5 : ms), EV q 57 0 [some (.ref a2), some (vL (w32 (S2.1 (a0 + 4) (w32 x1)))), none, some (vI 4), none] [] S2 none S5 ∧ (0 ≤ w32 x1 ∧ w32 x1 < (16 : Nat)) ∧ ∃ (o8 no8 : Nat), sh_r (SH (a0 + 2)).2.2 (w32 x1).toNat = some o8 ∧ isRow o8 no8 ∧ (0 ≤ w32 x1 ∧ w32 x1 < (16 : Nat)) ∧ ∃ (o12 no12 : Nat), sh_r (SH (a0 + 2)).2.2 (w32 x1).toNat = some o12 ∧ isRow o12 no12 ∧ ∃ (z17 : Int) (S15 : ms), EV q 28 0 [some (.ref (o8 + 1)), some (vI 0), some (vI (S5.1 o12 1)), none, none] [] S5 (some (vI z17)) S15 ∧ ∃ (S18 : ms), EV q 57 0 [some (.ref a2), some (vL (w32 z17)), none, some (vI 4), none] [] S15 none S18 ∧ (0 ≤ w32 x1 ∧ w32 x1 < (16 : Nat)) ∧ ∃ (S21 : ms), EV q 57 0 [some (.ref a2), some (vL (w32 (S18.1 (a0 + 10) (w32 x1)))), none, some (vI 4), none] [] S18 none S21 ∧ (0 ≤ w32 x1 ∧ w32 x1 < (16 : Nat)) ∧ ∃ (o24 no24 : Nat), sh_r (SH (a0 + 2)).2.2 (w32 x1).toNat = some o24 ∧ isRow o24 no24 ∧ ∃ (S27 : ms), EV q 57 0 [some (.ref a2), some (vL (w32 (S21.1 o24 1))), none, some (vI 4), none] [] S21 none S27 ∧ (0 ≤ w32 x1 ∧ w32 x1 < (16 : Nat)) ∧ ∃ (o30 no30 : Nat), sh_r (SH (a0 + 1)).2.2 (w32 x1).toNat = some o30 ∧ isRow o30 no30 ∧ ∃ (S33 : ms), EV q 57 0 [some (.ref a2), some (vL (w32 (S27.1 o30 1))), none, some (vI 2), none] [] S27 none S33 ∧ r = none ∧ S' = S33) : EV q 191 0 [some (.ref a0), some (vI x1), some (.ref a2)] [] S r S' := by
  unfold EV
  refine ev_bk 2 (S' := (2, [some (.ref a0), some (vI x1), some (.ref a2)], [.ref a0, .ref a2], hp S, 0, 0)) rfl ?_
  refine mv_gfR rfl rfl (ha0.1) (by decide) rfl ?_
  refine ev_bk 1 (S' := (6, [some (.ref a0), some (vI x1), some (.ref a2)], [vI x1, .ref (a0 + 9), .ref a2], hp S, 0, 0)) rfl ?_
  obtain ⟨b1, F⟩ := F
  refine mv_ial rfl (ha0.2.2.2.2.2.2.2.2.2.1) b1 ?_
  refine mv_i2l rfl ?_
  refine ev_bk 1 (S' := (9, [some (.ref a0), some (vI x1), some (.ref a2)], [vI 2, vL (w32 (S.1 (a0 + 9) (w32 x1))), .ref a2], hp S, 0, 0)) rfl ?_
  obtain ⟨S2, e3, F⟩ := F
  refine mv_calv (as := [vL (w32 (S.1 (a0 + 9) (w32 x1))), vI 2]) (rest := []) e3 (ha2.1) rfl rfl rfl ⟨rfl, rfl⟩ rfl rfl rfl rfl rfl ?_
  refine ev_bk 2 (S' := (14, [some (.ref a0), some (vI x1), some (.ref a2)], [.ref a0, .ref a2], hp S2, 0, 0)) rfl ?_
  refine mv_gfR rfl rfl (ha0.1) (by decide) rfl ?_
  refine ev_bk 1 (S' := (18, [some (.ref a0), some (vI x1), some (.ref a2)], [vI x1, .ref (a0 + 4), .ref a2], hp S2, 0, 0)) rfl ?_
  obtain ⟨b4, F⟩ := F
  refine mv_ial rfl (ha0.2.2.2.2.1) b4 ?_
  refine mv_i2l rfl ?_
  refine ev_bk 1 (S' := (21, [some (.ref a0), some (vI x1), some (.ref a2)], [vI 4, vL (w32 (S2.1 (a0 + 4) (w32 x1))), .ref a2], hp S2, 0, 0)) rfl ?_
  obtain ⟨S5, e6, F⟩ := F
  refine mv_calv (as := [vL (w32 (S2.1 (a0 + 4) (w32 x1))), vI 4]) (rest := []) e6 (ha2.1) rfl rfl rfl ⟨rfl, rfl⟩ rfl rfl rfl rfl rfl ?_
  refine ev_bk 2 (S' := (26, [some (.ref a0), some (vI x1), some (.ref a2)], [.ref a0, .ref a2], hp S5, 0, 0)) rfl ?_
  refine mv_gfR rfl rfl (ha0.1) (by decide) rfl ?_
  refine ev_bk 1 (S' := (30, [some (.ref a0), some (vI x1), some (.ref a2)], [vI x1, .ref (a0 + 2), .ref a2], hp S5, 0, 0)) rfl ?_
  obtain ⟨b7, o8, no8, e10, h9, F⟩ := F
  refine mv_aaV rfl (ha0.2.2.1) (Or.inl rfl) b7 e10 ?_
  refine mv_gfR rfl rfl (h9.1) (by decide) rfl ?_
  refine ev_bk 2 (S' := (36, [some (.ref a0), some (vI x1), some (.ref a2)], [.ref a0, vI 0, .ref (o8 + 1), .ref a2], hp S5, 0, 0)) rfl ?_
  refine mv_gfR rfl rfl (ha0.1) (by decide) rfl ?_
  refine ev_bk 1 (S' := (40, [some (.ref a0), some (vI x1), some (.ref a2)], [vI x1, .ref (a0 + 2), vI 0, .ref (o8 + 1), .ref a2], hp S5, 0, 0)) rfl ?_
  obtain ⟨b11, o12, no12, e14, h13, F⟩ := F
  refine mv_aaV rfl (ha0.2.2.1) (Or.inl rfl) b11 e14 ?_
  refine mv_gfI rfl rfl (h13.1) (by decide) rfl ?_
  obtain ⟨z17, S15, e16, F⟩ := F
  refine mv_cals (as := [.ref (o8 + 1), vI 0, vI (S5.1 o12 1)]) (rest := [.ref a2]) e16 rfl rfl rfl ⟨rfl, rfl, rfl⟩ rfl rfl rfl rfl ?_
  refine mv_i2l rfl ?_
  refine ev_bk 1 (S' := (49, [some (.ref a0), some (vI x1), some (.ref a2)], [vI 4, vL (w32 z17), .ref a2], hp S15, 0, 0)) rfl ?_
  obtain ⟨S18, e19, F⟩ := F
  refine mv_calv (as := [vL (w32 z17), vI 4]) (rest := []) e19 (ha2.1) rfl rfl rfl ⟨rfl, rfl⟩ rfl rfl rfl rfl rfl ?_
  refine ev_bk 2 (S' := (54, [some (.ref a0), some (vI x1), some (.ref a2)], [.ref a0, .ref a2], hp S18, 0, 0)) rfl ?_
  refine mv_gfR rfl rfl (ha0.1) (by decide) rfl ?_
  refine ev_bk 1 (S' := (58, [some (.ref a0), some (vI x1), some (.ref a2)], [vI x1, .ref (a0 + 10), .ref a2], hp S18, 0, 0)) rfl ?_
  obtain ⟨b20, F⟩ := F
  refine mv_ial rfl (ha0.2.2.2.2.2.2.2.2.2.2) b20 ?_
  refine mv_i2l rfl ?_
  refine ev_bk 1 (S' := (61, [some (.ref a0), some (vI x1), some (.ref a2)], [vI 4, vL (w32 (S18.1 (a0 + 10) (w32 x1))), .ref a2], hp S18, 0, 0)) rfl ?_
  obtain ⟨S21, e22, F⟩ := F
  refine mv_calv (as := [vL (w32 (S18.1 (a0 + 10) (w32 x1))), vI 4]) (rest := []) e22 (ha2.1) rfl rfl rfl ⟨rfl, rfl⟩ rfl rfl rfl rfl rfl ?_
  refine ev_bk 2 (S' := (66, [some (.ref a0), some (vI x1), some (.ref a2)], [.ref a0, .ref a2], hp S21, 0, 0)) rfl ?_
  refine mv_gfR rfl rfl (ha0.1) (by decide) rfl ?_
  refine ev_bk 1 (S' := (70, [some (.ref a0), some (vI x1), some (.ref a2)], [vI x1, .ref (a0 + 2), .ref a2], hp S21, 0, 0)) rfl ?_
  obtain ⟨b23, o24, no24, e26, h25, F⟩ := F
  refine mv_aaV rfl (ha0.2.2.1) (Or.inl rfl) b23 e26 ?_
  refine mv_gfI rfl rfl (h25.1) (by decide) rfl ?_
  refine mv_i2l rfl ?_
  refine ev_bk 1 (S' := (76, [some (.ref a0), some (vI x1), some (.ref a2)], [vI 4, vL (w32 (S21.1 o24 1)), .ref a2], hp S21, 0, 0)) rfl ?_
  obtain ⟨S27, e28, F⟩ := F
  refine mv_calv (as := [vL (w32 (S21.1 o24 1)), vI 4]) (rest := []) e28 (ha2.1) rfl rfl rfl ⟨rfl, rfl⟩ rfl rfl rfl rfl rfl ?_
  refine ev_bk 2 (S' := (81, [some (.ref a0), some (vI x1), some (.ref a2)], [.ref a0, .ref a2], hp S27, 0, 0)) rfl ?_
  refine mv_gfR rfl rfl (ha0.1) (by decide) rfl ?_
  refine ev_bk 1 (S' := (85, [some (.ref a0), some (vI x1), some (.ref a2)], [vI x1, .ref (a0 + 1), .ref a2], hp S27, 0, 0)) rfl ?_
  obtain ⟨b29, o30, no30, e32, h31, F⟩ := F
  refine mv_aaV rfl (ha0.2.1) (Or.inl rfl) b29 e32 ?_
  refine mv_gfI rfl rfl (h31.1) (by decide) rfl ?_
  refine mv_i2l rfl ?_
  refine ev_bk 1 (S' := (91, [some (.ref a0), some (vI x1), some (.ref a2)], [vI 2, vL (w32 (S27.1 o30 1)), .ref a2], hp S27, 0, 0)) rfl ?_
  obtain ⟨S33, e34, F⟩ := F
  refine mv_calv (as := [vL (w32 (S27.1 o30 1)), vI 2]) (rest := []) e34 (ha2.1) rfl rfl rfl ⟨rfl, rfl⟩ rfl rfl rfl rfl rfl ?_
  obtain ⟨rfl, rfl⟩ := F
  exact ev_ret rfl rfl
theorem vc_Shelf_readTape {q : Nat × (Nat → Int32)} {S S' : ms} {r : Option Value} (a0 : Nat) (ha0 : isShelf a0)
    (F : EV q 193 4 [some (.ref a0), some (.ref 9), some (vI 0), some (vI 0)] [] S r S') : EV q 193 0 [some (.ref a0), some (.ref 9), none, none] [] S r S' := by
  unfold EV
  refine ev_bk 4 (S' := (4, [some (.ref a0), some (.ref 9), some (vI 0), some (vI 0)], [], hp S, 0, 0)) rfl ?_
  exact F
theorem vc_Shelf_readTape_4 {q : Nat × (Nat → Int32)} {S S' : ms} {r : Option Value} (x2 x3 : Int) (a0 : Nat) (ha0 : isShelf a0)
    (F : ((16 < w32 x3) → r = none ∧ S' = S) ∧ ((¬ 16 < w32 x3) → ((¬ w32 (S.1 9 5) = 0) → r = none ∧ S' = S) ∧ ((¬ (¬ w32 (S.1 9 5) = 0)) → ((w32 x2 ≤ w32 ((S.1 9 2) - 512)) → ∃ (z3 : Int) (S1 : ms), EV q 194 0 [some (.ref 2), some (vI x2), none] [] S (some (vI z3)) S1 ∧ ((w32 z3 = 0) → ∃ (z6 : Int) (S4 : ms), EV q 195 0 [some (.ref a0), some (.ref 9), some (vI x2), none, none, none, none, none, none, none, none, none] [] S1 (some (vI z6)) S4 ∧ EV q 193 60 [some (.ref a0), some (.ref 9), some (vI z6), some (vI x3)] [] S4 r S') ∧ ((¬ w32 z3 = 0) → r = none ∧ S' = S1)) ∧ ((¬ w32 x2 ≤ w32 ((S.1 9 2) - 512)) → ∃ (S7 : ms), EV q 126 0 [some (.ref 9), some (vI 1), some (vI (S.1 9 2))] [] S none S7 ∧ EV q 193 60 [some (.ref a0), some (.ref 9), some (vI x2), some (vI x3)] [] S7 r S')))) : EV q 193 4 [some (.ref a0), some (.ref 9), some (vI x2), some (vI x3)] [] S r S' := by
  unfold EV
  refine ev_bk 2 (S' := (7, [some (.ref a0), some (.ref 9), some (vI x2), some (vI x3)], [vI 16, vI x3], hp S, 0, 0)) rfl ?_
  refine mv_icmp 66 rfl rfl (fun c => ?_) (fun c => ?_)
  · have F := F.1 c
    obtain ⟨rfl, rfl⟩ := F
    exact ev_ret rfl rfl
  · have F := F.2 c
    refine ev_bk 1 (S' := (11, [some (.ref a0), some (.ref 9), some (vI x2), some (vI x3)], [.ref 9], hp S, 0, 0)) rfl ?_
    refine mv_gfI rfl rfl (sh_9) (by decide) rfl ?_
    refine mv_if 66 rfl rfl (fun c => ?_) (fun c => ?_)
    · have F := F.1 c
      obtain ⟨rfl, rfl⟩ := F
      exact ev_ret rfl rfl
    · have F := F.2 c
      refine ev_bk 2 (S' := (19, [some (.ref a0), some (.ref 9), some (vI x2), some (vI x3)], [.ref 9, vI x2], hp S, 0, 0)) rfl ?_
      refine mv_gfI rfl rfl (sh_9) (by decide) rfl ?_
      refine ev_bk 1 (S' := (25, [some (.ref a0), some (.ref 9), some (vI x2), some (vI x3)], [vI 512, vI (S.1 9 2), vI x2], hp S, 0, 0)) rfl ?_
      refine mv_isub rfl ?_
      refine mv_icmp 41 rfl rfl (fun c => ?_) (fun c => ?_)
      · have F := F.1 c
        refine ev_bk 1 (S' := (42, [some (.ref a0), some (.ref 9), some (vI x2), some (vI x3)], [.ref 9], hp S, 0, 0)) rfl ?_
        refine mv_gfR rfl rfl (sh_9) (by decide) rfl ?_
        refine ev_bk 1 (S' := (46, [some (.ref a0), some (.ref 9), some (vI x2), some (vI x3)], [vI x2, .ref 2], hp S, 0, 0)) rfl ?_
        obtain ⟨z3, S1, e2, F⟩ := F
        refine mv_cals (as := [.ref 2, vI x2]) (rest := []) e2 rfl rfl rfl ⟨rfl, rfl, rfl⟩ rfl rfl rfl rfl ?_
        refine mv_if 53 rfl rfl (fun c => ?_) (fun c => ?_)
        · have F := F.1 c
          refine ev_bk 3 (S' := (56, [some (.ref a0), some (.ref 9), some (vI x2), some (vI x3)], [vI x2, .ref 9, .ref a0], hp S1, 0, 0)) rfl ?_
          obtain ⟨z6, S4, e5, F⟩ := F
          refine mv_calv (as := [.ref 9, vI x2]) (rest := []) e5 (ha0.1) rfl rfl rfl ⟨rfl, rfl⟩ rfl rfl rfl rfl rfl ?_
          refine ev_bk 1 (S' := (60, [some (.ref a0), some (.ref 9), some (vI z6), some (vI x3)], [], hp S4, 0, 0)) rfl ?_
          exact F
        · have F := F.2 c
          obtain ⟨rfl, rfl⟩ := F
          exact ev_ret rfl rfl
      · have F := F.2 c
        refine ev_bk 3 (S' := (32, [some (.ref a0), some (.ref 9), some (vI x2), some (vI x3)], [.ref 9, vI 1, .ref 9], hp S, 0, 0)) rfl ?_
        refine mv_gfI rfl rfl (sh_9) (by decide) rfl ?_
        obtain ⟨S7, e8, F⟩ := F
        refine mv_calv (as := [vI 1, vI (S.1 9 2)]) (rest := []) e8 (sh_9) rfl rfl rfl ⟨rfl, rfl⟩ rfl rfl rfl rfl rfl ?_
        refine mv_goto 60 rfl rfl ?_
        exact F
theorem vc_Shelf_readTape_60 {q : Nat × (Nat → Int32)} {S S' : ms} {r : Option Value} (x2 x3 : Int) (a0 : Nat) (ha0 : isShelf a0)
    (F : EV q 193 4 [some (.ref a0), some (.ref 9), some (vI x2), some (vI (x3 + 1))] [] S r S') : EV q 193 60 [some (.ref a0), some (.ref 9), some (vI x2), some (vI x3)] [] S r S' := by
  unfold EV
  refine mv_inc (lv' := [some (.ref a0), some (.ref 9), some (vI x2), some (vI (x3 + 1))]) 3 1 rfl rfl rfl rfl ?_
  refine mv_goto 4 rfl rfl ?_
  exact F
theorem vc_Shelf_isBlank {q : Nat × (Nat → Int32)} {S S' : ms} {r : Option Value} (x1 : Int) (a0 na0 : Nat) (ha0 : SH a0 = (0, na0, []))
    (F : EV q 194 2 [some (.ref a0), some (vI x1), some (vI 0)] [] S r S') : EV q 194 0 [some (.ref a0), some (vI x1), none] [] S r S' := by
  unfold EV
  refine ev_bk 2 (S' := (2, [some (.ref a0), some (vI x1), some (vI 0)], [], hp S, 0, 0)) rfl ?_
  exact F
theorem vc_Shelf_isBlank_2 {q : Nat × (Nat → Int32)} {S S' : ms} {r : Option Value} (x1 x2 : Int) (a0 na0 : Nat) (ha0 : SH a0 = (0, na0, []))
    (F : ((512 ≤ w32 x2) → r = some (vI 1) ∧ S' = S) ∧ ((¬ 512 ≤ w32 x2) → (0 ≤ w32 (x1 + x2) ∧ w32 (x1 + x2) < (na0 : Nat)) ∧ ((w32 (S.1 a0 (w32 (x1 + x2))) = 0) → EV q 194 2 [some (.ref a0), some (vI x1), some (vI (x2 + 1))] [] S r S') ∧ ((¬ w32 (S.1 a0 (w32 (x1 + x2))) = 0) → r = some (vI 0) ∧ S' = S))) : EV q 194 2 [some (.ref a0), some (vI x1), some (vI x2)] [] S r S' := by
  unfold EV
  refine ev_bk 2 (S' := (6, [some (.ref a0), some (vI x1), some (vI x2)], [vI 512, vI x2], hp S, 0, 0)) rfl ?_
  refine mv_icmp 25 rfl rfl (fun c => ?_) (fun c => ?_)
  · have F := F.1 c
    refine ev_bk 1 (S' := (26, [some (.ref a0), some (vI x1), some (vI x2)], [vI 1], hp S, 0, 0)) rfl ?_
    obtain ⟨rfl, rfl⟩ := F
    exact ev_ret rfl rfl
  · have F := F.2 c
    refine ev_bk 3 (S' := (12, [some (.ref a0), some (vI x1), some (vI x2)], [vI x2, vI x1, .ref a0], hp S, 0, 0)) rfl ?_
    refine mv_iadd rfl ?_
    obtain ⟨b1, F⟩ := F
    refine mv_ial rfl (ha0) b1 ?_
    refine mv_if 19 rfl rfl (fun c => ?_) (fun c => ?_)
    · have F := F.1 c
      refine mv_inc (lv' := [some (.ref a0), some (vI x1), some (vI (x2 + 1))]) 2 1 rfl rfl rfl rfl ?_
      refine mv_goto 2 rfl rfl ?_
      exact F
    · have F := F.2 c
      refine ev_bk 1 (S' := (18, [some (.ref a0), some (vI x1), some (vI x2)], [vI 0], hp S, 0, 0)) rfl ?_
      obtain ⟨rfl, rfl⟩ := F
      exact ev_ret rfl rfl
theorem vc_Shelf_readTapeRow {q : Nat × (Nat → Int32)} {S S' : ms} {r : Option Value} (x2 : Int) (a0 : Nat) (ha0 : isShelf a0)
    (F : ∃ (z3 : Int) (S1 : ms), EV q 196 0 [some (.ref 2), some (vI (x2 + 148)), some (vI 8), none, none, none] [] S (some (vL z3)) S1 ∧ ∃ (z6 : Int) (S4 : ms), EV q 196 0 [some (.ref 2), some (vI (x2 + 100)), some (vI 8), none, none, none] [] S1 (some (vL z6)) S4 ∧ ∃ (z9 : Int) (S7 : ms), EV q 196 0 [some (.ref 2), some (vI (x2 + 124)), some (vI 12), none, none, none] [] S4 (some (vL z9)) S7 ∧ ∃ (z12 : Int) (S10 : ms), EV q 196 0 [some (.ref 2), some (vI (x2 + 136)), some (vI 12), none, none, none] [] S7 (some (vL z12)) S10 ∧ ((w64 0 ≤ w64 z3) → EV q 195 74 [some (.ref a0), some (.ref 9), some (vI x2), some (vL z3), none, some (vL z6), none, some (vL z9), none, some (vL z12), none, none] [] S10 r S') ∧ ((¬ w64 0 ≤ w64 z3) → ∃ (S13 : ms), EV q 126 0 [some (.ref 9), some (vI 101), some (vI x2)] [] S10 none S13 ∧ EV q 195 74 [some (.ref a0), some (.ref 9), some (vI x2), some (vL z3), none, some (vL z6), none, some (vL z9), none, some (vL z12), none, none] [] S13 r S')) : EV q 195 0 [some (.ref a0), some (.ref 9), some (vI x2), none, none, none, none, none, none, none, none, none] [] S r S' := by
  unfold EV
  refine ev_bk 1 (S' := (1, [some (.ref a0), some (.ref 9), some (vI x2), none, none, none, none, none, none, none, none, none], [.ref 9], hp S, 0, 0)) rfl ?_
  refine mv_gfR rfl rfl (sh_9) (by decide) rfl ?_
  refine ev_bk 2 (S' := (8, [some (.ref a0), some (.ref 9), some (vI x2), none, none, none, none, none, none, none, none, none], [vI 148, vI x2, .ref 2], hp S, 0, 0)) rfl ?_
  refine mv_iadd rfl ?_
  refine ev_bk 1 (S' := (11, [some (.ref a0), some (.ref 9), some (vI x2), none, none, none, none, none, none, none, none, none], [vI 8, vI (x2 + 148), .ref 2], hp S, 0, 0)) rfl ?_
  obtain ⟨z3, S1, e2, F⟩ := F
  refine mv_cals (as := [.ref 2, vI (x2 + 148), vI 8]) (rest := []) e2 rfl rfl rfl ⟨rfl, rfl, rfl⟩ rfl rfl rfl rfl ?_
  refine ev_bk 2 (S' := (16, [some (.ref a0), some (.ref 9), some (vI x2), some (vL z3), none, none, none, none, none, none, none, none], [.ref 9], hp S1, 0, 0)) rfl ?_
  refine mv_gfR rfl rfl (sh_9) (by decide) rfl ?_
  refine ev_bk 2 (S' := (22, [some (.ref a0), some (.ref 9), some (vI x2), some (vL z3), none, none, none, none, none, none, none, none], [vI 100, vI x2, .ref 2], hp S1, 0, 0)) rfl ?_
  refine mv_iadd rfl ?_
  refine ev_bk 1 (S' := (25, [some (.ref a0), some (.ref 9), some (vI x2), some (vL z3), none, none, none, none, none, none, none, none], [vI 8, vI (x2 + 100), .ref 2], hp S1, 0, 0)) rfl ?_
  obtain ⟨z6, S4, e5, F⟩ := F
  refine mv_cals (as := [.ref 2, vI (x2 + 100), vI 8]) (rest := []) e5 rfl rfl rfl ⟨rfl, rfl, rfl⟩ rfl rfl rfl rfl ?_
  refine ev_bk 2 (S' := (31, [some (.ref a0), some (.ref 9), some (vI x2), some (vL z3), none, some (vL z6), none, none, none, none, none, none], [.ref 9], hp S4, 0, 0)) rfl ?_
  refine mv_gfR rfl rfl (sh_9) (by decide) rfl ?_
  refine ev_bk 2 (S' := (37, [some (.ref a0), some (.ref 9), some (vI x2), some (vL z3), none, some (vL z6), none, none, none, none, none, none], [vI 124, vI x2, .ref 2], hp S4, 0, 0)) rfl ?_
  refine mv_iadd rfl ?_
  refine ev_bk 1 (S' := (40, [some (.ref a0), some (.ref 9), some (vI x2), some (vL z3), none, some (vL z6), none, none, none, none, none, none], [vI 12, vI (x2 + 124), .ref 2], hp S4, 0, 0)) rfl ?_
  obtain ⟨z9, S7, e8, F⟩ := F
  refine mv_cals (as := [.ref 2, vI (x2 + 124), vI 12]) (rest := []) e8 rfl rfl rfl ⟨rfl, rfl, rfl⟩ rfl rfl rfl rfl ?_
  refine ev_bk 2 (S' := (46, [some (.ref a0), some (.ref 9), some (vI x2), some (vL z3), none, some (vL z6), none, some (vL z9), none, none, none, none], [.ref 9], hp S7, 0, 0)) rfl ?_
  refine mv_gfR rfl rfl (sh_9) (by decide) rfl ?_
  refine ev_bk 2 (S' := (53, [some (.ref a0), some (.ref 9), some (vI x2), some (vL z3), none, some (vL z6), none, some (vL z9), none, none, none, none], [vI 136, vI x2, .ref 2], hp S7, 0, 0)) rfl ?_
  refine mv_iadd rfl ?_
  refine ev_bk 1 (S' := (56, [some (.ref a0), some (.ref 9), some (vI x2), some (vL z3), none, some (vL z6), none, some (vL z9), none, none, none, none], [vI 12, vI (x2 + 136), .ref 2], hp S7, 0, 0)) rfl ?_
  obtain ⟨z12, S10, e11, F⟩ := F
  refine mv_cals (as := [.ref 2, vI (x2 + 136), vI 12]) (rest := []) e11 rfl rfl rfl ⟨rfl, rfl, rfl⟩ rfl rfl rfl rfl ?_
  refine ev_bk 3 (S' := (63, [some (.ref a0), some (.ref 9), some (vI x2), some (vL z3), none, some (vL z6), none, some (vL z9), none, some (vL z12), none, none], [vL 0, vL z3], hp S10, 0, 0)) rfl ?_
  refine mv_lif 74 rfl rfl rfl (fun c => ?_) (fun c => ?_)
  · have F := F.1 c
    exact F
  · have F := F.2 c
    refine ev_bk 3 (S' := (71, [some (.ref a0), some (.ref 9), some (vI x2), some (vL z3), none, some (vL z6), none, some (vL z9), none, some (vL z12), none, none], [vI x2, vI 101, .ref 9], hp S10, 0, 0)) rfl ?_
    obtain ⟨S13, e14, F⟩ := F
    refine mv_calv (as := [vI 101, vI x2]) (rest := []) e14 (sh_9) rfl rfl rfl ⟨rfl, rfl⟩ rfl rfl rfl rfl rfl ?_
    exact F
theorem vc_Shelf_readTapeRow_74 {q : Nat × (Nat → Int32)} {S S' : ms} {r : Option Value} (x2 x3 x5 x7 x9 : Int) (a0 : Nat) (ha0 : isShelf a0)
    (F : ∃ (z3 : Int) (S1 : ms), EV q 186 0 [some (.ref 2), some (vI x2), none, none] [] S (some (vI z3)) S1 ∧ ((w64 x3 = w64 (w32 z3)) → EV q 195 95 [some (.ref a0), some (.ref 9), some (vI x2), some (vL x3), none, some (vL x5), none, some (vL x7), none, some (vL x9), none, none] [] S1 r S') ∧ ((¬ w64 x3 = w64 (w32 z3)) → ∃ (S4 : ms), EV q 126 0 [some (.ref 9), some (vI 100), some (vI x2)] [] S1 none S4 ∧ EV q 195 95 [some (.ref a0), some (.ref 9), some (vI x2), some (vL x3), none, some (vL x5), none, some (vL x7), none, some (vL x9), none, none] [] S4 r S')) : EV q 195 74 [some (.ref a0), some (.ref 9), some (vI x2), some (vL x3), none, some (vL x5), none, some (vL x7), none, some (vL x9), none, none] [] S r S' := by
  unfold EV
  refine ev_bk 2 (S' := (76, [some (.ref a0), some (.ref 9), some (vI x2), some (vL x3), none, some (vL x5), none, some (vL x7), none, some (vL x9), none, none], [.ref 9, vL x3], hp S, 0, 0)) rfl ?_
  refine mv_gfR rfl rfl (sh_9) (by decide) rfl ?_
  refine ev_bk 1 (S' := (80, [some (.ref a0), some (.ref 9), some (vI x2), some (vL x3), none, some (vL x5), none, some (vL x7), none, some (vL x9), none, none], [vI x2, .ref 2, vL x3], hp S, 0, 0)) rfl ?_
  obtain ⟨z3, S1, e2, F⟩ := F
  refine mv_cals (as := [.ref 2, vI x2]) (rest := [vL x3]) e2 rfl rfl rfl ⟨rfl, rfl, rfl⟩ rfl rfl rfl rfl ?_
  refine mv_i2l rfl ?_
  refine mv_lif 95 rfl rfl rfl (fun c => ?_) (fun c => ?_)
  · have F := F.1 c
    exact F
  · have F := F.2 c
    refine ev_bk 3 (S' := (92, [some (.ref a0), some (.ref 9), some (vI x2), some (vL x3), none, some (vL x5), none, some (vL x7), none, some (vL x9), none, none], [vI x2, vI 100, .ref 9], hp S1, 0, 0)) rfl ?_
    obtain ⟨S4, e5, F⟩ := F
    refine mv_calv (as := [vI 100, vI x2]) (rest := []) e5 (sh_9) rfl rfl rfl ⟨rfl, rfl⟩ rfl rfl rfl rfl rfl ?_
    exact F
theorem vc_Shelf_readTapeRow_95 {q : Nat × (Nat → Int32)} {S S' : ms} {r : Option Value} (x2 x3 x5 x7 x9 : Int) (a0 : Nat) (ha0 : isShelf a0)
    (F : ((w64 x5 < w64 0) → EV q 195 125 [some (.ref a0), some (.ref 9), some (vI x2), some (vL x3), none, some (vL x5), none, some (vL x7), none, some (vL x9), none, none] [] S r S') ∧ ((¬ w64 x5 < w64 0) → ((w64 x7 < w64 0) → EV q 195 125 [some (.ref a0), some (.ref 9), some (vI x2), some (vL x3), none, some (vL x5), none, some (vL x7), none, some (vL x9), none, none] [] S r S') ∧ ((¬ w64 x7 < w64 0) → ((w64 x9 < w64 0) → EV q 195 125 [some (.ref a0), some (.ref 9), some (vI x2), some (vL x3), none, some (vL x5), none, some (vL x7), none, some (vL x9), none, none] [] S r S') ∧ ((¬ w64 x9 < w64 0) → ((w64 x9 ≤ w64 2147483647) → EV q 195 132 [some (.ref a0), some (.ref 9), some (vI x2), some (vL x3), none, some (vL x5), none, some (vL x7), none, some (vL x9), none, none] [] S r S') ∧ ((¬ w64 x9 ≤ w64 2147483647) → EV q 195 125 [some (.ref a0), some (.ref 9), some (vI x2), some (vL x3), none, some (vL x5), none, some (vL x7), none, some (vL x9), none, none] [] S r S'))))) : EV q 195 95 [some (.ref a0), some (.ref 9), some (vI x2), some (vL x3), none, some (vL x5), none, some (vL x7), none, some (vL x9), none, none] [] S r S' := by
  unfold EV
  refine ev_bk 2 (S' := (98, [some (.ref a0), some (.ref 9), some (vI x2), some (vL x3), none, some (vL x5), none, some (vL x7), none, some (vL x9), none, none], [vL 0, vL x5], hp S, 0, 0)) rfl ?_
  refine mv_lif 125 rfl rfl rfl (fun c => ?_) (fun c => ?_)
  · have F := F.1 c
    exact F
  · have F := F.2 c
    refine ev_bk 2 (S' := (105, [some (.ref a0), some (.ref 9), some (vI x2), some (vL x3), none, some (vL x5), none, some (vL x7), none, some (vL x9), none, none], [vL 0, vL x7], hp S, 0, 0)) rfl ?_
    refine mv_lif 125 rfl rfl rfl (fun c => ?_) (fun c => ?_)
    · have F := F.1 c
      exact F
    · have F := F.2 c
      refine ev_bk 2 (S' := (112, [some (.ref a0), some (.ref 9), some (vI x2), some (vL x3), none, some (vL x5), none, some (vL x7), none, some (vL x9), none, none], [vL 0, vL x9], hp S, 0, 0)) rfl ?_
      refine mv_lif 125 rfl rfl rfl (fun c => ?_) (fun c => ?_)
      · have F := F.1 c
        exact F
      · have F := F.2 c
        refine ev_bk 2 (S' := (121, [some (.ref a0), some (.ref 9), some (vI x2), some (vL x3), none, some (vL x5), none, some (vL x7), none, some (vL x9), none, none], [vL 2147483647, vL x9], hp S, 0, 0)) rfl ?_
        refine mv_lif 132 rfl rfl rfl (fun c => ?_) (fun c => ?_)
        · have F := F.1 c
          exact F
        · have F := F.2 c
          exact F
theorem vc_Shelf_readTapeRow_125 {q : Nat × (Nat → Int32)} {S S' : ms} {r : Option Value} (x2 x3 x5 x7 x9 : Int) (a0 : Nat) (ha0 : isShelf a0)
    (F : ∃ (S1 : ms), EV q 126 0 [some (.ref 9), some (vI 101), some (vI x2)] [] S none S1 ∧ EV q 195 132 [some (.ref a0), some (.ref 9), some (vI x2), some (vL x3), none, some (vL x5), none, some (vL x7), none, some (vL x9), none, none] [] S1 r S') : EV q 195 125 [some (.ref a0), some (.ref 9), some (vI x2), some (vL x3), none, some (vL x5), none, some (vL x7), none, some (vL x9), none, none] [] S r S' := by
  unfold EV
  refine ev_bk 3 (S' := (129, [some (.ref a0), some (.ref 9), some (vI x2), some (vL x3), none, some (vL x5), none, some (vL x7), none, some (vL x9), none, none], [vI x2, vI 101, .ref 9], hp S, 0, 0)) rfl ?_
  obtain ⟨S1, e2, F⟩ := F
  refine mv_calv (as := [vI 101, vI x2]) (rest := []) e2 (sh_9) rfl rfl rfl ⟨rfl, rfl⟩ rfl rfl rfl rfl rfl ?_
  exact F
theorem vc_Shelf_readTapeRow_132 {q : Nat × (Nat → Int32)} {S S' : ms} {r : Option Value} (x2 x3 x5 x7 x9 : Int) (a0 : Nat) (ha0 : isShelf a0)
    (F : (0 ≤ w32 (x2 + 156) ∧ w32 (x2 + 156) < (6000 : Nat)) ∧ ((w32 (S.1 2 (w32 (x2 + 156))) = 48) → EV q 195 154 [some (.ref a0), some (.ref 9), some (vI x2), some (vL x3), none, some (vL x5), none, some (vL x7), none, some (vL x9), none, none] [] S r S') ∧ ((¬ w32 (S.1 2 (w32 (x2 + 156))) = 48) → ∃ (S2 : ms), EV q 126 0 [some (.ref 9), some (vI 102), some (vI x2)] [] S none S2 ∧ EV q 195 154 [some (.ref a0), some (.ref 9), some (vI x2), some (vL x3), none, some (vL x5), none, some (vL x7), none, some (vL x9), none, none] [] S2 r S')) : EV q 195 132 [some (.ref a0), some (.ref 9), some (vI x2), some (vL x3), none, some (vL x5), none, some (vL x7), none, some (vL x9), none, none] [] S r S' := by
  unfold EV
  refine ev_bk 1 (S' := (133, [some (.ref a0), some (.ref 9), some (vI x2), some (vL x3), none, some (vL x5), none, some (vL x7), none, some (vL x9), none, none], [.ref 9], hp S, 0, 0)) rfl ?_
  refine mv_gfR rfl rfl (sh_9) (by decide) rfl ?_
  refine ev_bk 2 (S' := (140, [some (.ref a0), some (.ref 9), some (vI x2), some (vL x3), none, some (vL x5), none, some (vL x7), none, some (vL x9), none, none], [vI 156, vI x2, .ref 2], hp S, 0, 0)) rfl ?_
  refine mv_iadd rfl ?_
  obtain ⟨b1, F⟩ := F
  refine mv_ial rfl (sh_2) b1 ?_
  refine ev_bk 1 (S' := (144, [some (.ref a0), some (.ref 9), some (vI x2), some (vL x3), none, some (vL x5), none, some (vL x7), none, some (vL x9), none, none], [vI 48, vI (S.1 2 (w32 (x2 + 156)))], hp S, 0, 0)) rfl ?_
  refine mv_icmp 154 rfl rfl (fun c => ?_) (fun c => ?_)
  · have F := F.1 c
    exact F
  · have F := F.2 c
    refine ev_bk 3 (S' := (151, [some (.ref a0), some (.ref 9), some (vI x2), some (vL x3), none, some (vL x5), none, some (vL x7), none, some (vL x9), none, none], [vI x2, vI 102, .ref 9], hp S, 0, 0)) rfl ?_
    obtain ⟨S2, e3, F⟩ := F
    refine mv_calv (as := [vI 102, vI x2]) (rest := []) e3 (sh_9) rfl rfl rfl ⟨rfl, rfl⟩ rfl rfl rfl rfl rfl ?_
    exact F
theorem vc_Shelf_readTapeRow_154 {q : Nat × (Nat → Int32)} {S S' : ms} {r : Option Value} (x2 x3 x5 x7 x9 : Int) (a0 : Nat) (ha0 : isShelf a0)
    (F : ∃ (S1 : ms), EV q 198 0 [some (.ref a0), some (.ref 2), some (vI x2), none] [] S none S1 ∧ (0 ≤ w32 x2 ∧ w32 x2 < (6000 : Nat)) ∧ ((w32 (S1.1 2 (w32 x2)) = 0) → EV q 195 182 [some (.ref a0), some (.ref 9), some (vI x2), some (vL x3), none, some (vL x5), none, some (vL x7), none, some (vL x9), none, none] [] S1 r S') ∧ ((¬ w32 (S1.1 2 (w32 x2)) = 0) → ((w32 (S1.1 (a0 + 5) 2) = 0) → EV q 195 189 [some (.ref a0), some (.ref 9), some (vI x2), some (vL x3), none, some (vL x5), none, some (vL x7), none, some (vL x9), none, none] [] S1 r S') ∧ ((¬ w32 (S1.1 (a0 + 5) 2) = 0) → EV q 195 182 [some (.ref a0), some (.ref 9), some (vI x2), some (vL x3), none, some (vL x5), none, some (vL x7), none, some (vL x9), none, none] [] S1 r S'))) : EV q 195 154 [some (.ref a0), some (.ref 9), some (vI x2), some (vL x3), none, some (vL x5), none, some (vL x7), none, some (vL x9), none, none] [] S r S' := by
  unfold EV
  refine ev_bk 2 (S' := (156, [some (.ref a0), some (.ref 9), some (vI x2), some (vL x3), none, some (vL x5), none, some (vL x7), none, some (vL x9), none, none], [.ref 9, .ref a0], hp S, 0, 0)) rfl ?_
  refine mv_gfR rfl rfl (sh_9) (by decide) rfl ?_
  refine ev_bk 1 (S' := (160, [some (.ref a0), some (.ref 9), some (vI x2), some (vL x3), none, some (vL x5), none, some (vL x7), none, some (vL x9), none, none], [vI x2, .ref 2, .ref a0], hp S, 0, 0)) rfl ?_
  obtain ⟨S1, e2, F⟩ := F
  refine mv_calv (as := [.ref 2, vI x2]) (rest := []) e2 (ha0.1) rfl rfl rfl ⟨rfl, rfl⟩ rfl rfl rfl rfl rfl ?_
  refine ev_bk 1 (S' := (164, [some (.ref a0), some (.ref 9), some (vI x2), some (vL x3), none, some (vL x5), none, some (vL x7), none, some (vL x9), none, none], [.ref 9], hp S1, 0, 0)) rfl ?_
  refine mv_gfR rfl rfl (sh_9) (by decide) rfl ?_
  refine ev_bk 1 (S' := (168, [some (.ref a0), some (.ref 9), some (vI x2), some (vL x3), none, some (vL x5), none, some (vL x7), none, some (vL x9), none, none], [vI x2, .ref 2], hp S1, 0, 0)) rfl ?_
  obtain ⟨b3, F⟩ := F
  refine mv_ial rfl (sh_2) b3 ?_
  refine mv_if 182 rfl rfl (fun c => ?_) (fun c => ?_)
  · have F := F.1 c
    exact F
  · have F := F.2 c
    refine ev_bk 1 (S' := (173, [some (.ref a0), some (.ref 9), some (vI x2), some (vL x3), none, some (vL x5), none, some (vL x7), none, some (vL x9), none, none], [.ref a0], hp S1, 0, 0)) rfl ?_
    refine mv_gfR rfl rfl (ha0.1) (by decide) rfl ?_
    refine mv_gfI rfl rfl (ha0.2.2.2.2.2.1) (by decide) rfl ?_
    refine mv_if 189 rfl rfl (fun c => ?_) (fun c => ?_)
    · have F := F.1 c
      exact F
    · have F := F.2 c
      exact F
theorem vc_Shelf_readTapeRow_182 {q : Nat × (Nat → Int32)} {S S' : ms} {r : Option Value} (x2 x3 x5 x7 x9 : Int) (a0 : Nat) (ha0 : isShelf a0)
    (F : ∃ (S1 : ms), EV q 126 0 [some (.ref 9), some (vI 103), some (vI x2)] [] S none S1 ∧ EV q 195 189 [some (.ref a0), some (.ref 9), some (vI x2), some (vL x3), none, some (vL x5), none, some (vL x7), none, some (vL x9), none, none] [] S1 r S') : EV q 195 182 [some (.ref a0), some (.ref 9), some (vI x2), some (vL x3), none, some (vL x5), none, some (vL x7), none, some (vL x9), none, none] [] S r S' := by
  unfold EV
  refine ev_bk 3 (S' := (186, [some (.ref a0), some (.ref 9), some (vI x2), some (vL x3), none, some (vL x5), none, some (vL x7), none, some (vL x9), none, none], [vI x2, vI 103, .ref 9], hp S, 0, 0)) rfl ?_
  obtain ⟨S1, e2, F⟩ := F
  refine mv_calv (as := [vI 103, vI x2]) (rest := []) e2 (sh_9) rfl rfl rfl ⟨rfl, rfl⟩ rfl rfl rfl rfl rfl ?_
  exact F
theorem vc_Shelf_readTapeRow_189 {q : Nat × (Nat → Int32)} {S S' : ms} {r : Option Value} (x2 x3 x5 x7 x9 : Int) (a0 : Nat) (ha0 : isShelf a0)
    (F : ((16 ≤ w32 (S.1 a0 4)) → EV q 195 207 [some (.ref a0), some (.ref 9), some (vI x2), some (vL x3), none, some (vL x5), none, some (vL x7), none, some (vL x9), none, none] [] S r S') ∧ ((¬ 16 ≤ w32 (S.1 a0 4)) → ((w64 x7 ≤ w64 6000) → EV q 195 214 [some (.ref a0), some (.ref 9), some (vI x2), some (vL x3), none, some (vL x5), none, some (vL x7), none, some (vL x9), none, none] [] S r S') ∧ ((¬ w64 x7 ≤ w64 6000) → EV q 195 207 [some (.ref a0), some (.ref 9), some (vI x2), some (vL x3), none, some (vL x5), none, some (vL x7), none, some (vL x9), none, none] [] S r S'))) : EV q 195 189 [some (.ref a0), some (.ref 9), some (vI x2), some (vL x3), none, some (vL x5), none, some (vL x7), none, some (vL x9), none, none] [] S r S' := by
  unfold EV
  refine ev_bk 1 (S' := (190, [some (.ref a0), some (.ref 9), some (vI x2), some (vL x3), none, some (vL x5), none, some (vL x7), none, some (vL x9), none, none], [.ref a0], hp S, 0, 0)) rfl ?_
  refine mv_gfI rfl rfl (ha0.1) (by decide) rfl ?_
  refine ev_bk 1 (S' := (195, [some (.ref a0), some (.ref 9), some (vI x2), some (vL x3), none, some (vL x5), none, some (vL x7), none, some (vL x9), none, none], [vI 16, vI (S.1 a0 4)], hp S, 0, 0)) rfl ?_
  refine mv_icmp 207 rfl rfl (fun c => ?_) (fun c => ?_)
  · have F := F.1 c
    exact F
  · have F := F.2 c
    refine ev_bk 2 (S' := (203, [some (.ref a0), some (.ref 9), some (vI x2), some (vL x3), none, some (vL x5), none, some (vL x7), none, some (vL x9), none, none], [vL 6000, vL x7], hp S, 0, 0)) rfl ?_
    refine mv_lif 214 rfl rfl rfl (fun c => ?_) (fun c => ?_)
    · have F := F.1 c
      exact F
    · have F := F.2 c
      exact F
theorem vc_Shelf_readTapeRow_207 {q : Nat × (Nat → Int32)} {S S' : ms} {r : Option Value} (x2 x3 x5 x7 x9 : Int) (a0 : Nat) (ha0 : isShelf a0)
    (F : ∃ (S1 : ms), EV q 126 0 [some (.ref 9), some (vI 104), some (vI x2)] [] S none S1 ∧ EV q 195 214 [some (.ref a0), some (.ref 9), some (vI x2), some (vL x3), none, some (vL x5), none, some (vL x7), none, some (vL x9), none, none] [] S1 r S') : EV q 195 207 [some (.ref a0), some (.ref 9), some (vI x2), some (vL x3), none, some (vL x5), none, some (vL x7), none, some (vL x9), none, none] [] S r S' := by
  unfold EV
  refine ev_bk 3 (S' := (211, [some (.ref a0), some (.ref 9), some (vI x2), some (vL x3), none, some (vL x5), none, some (vL x7), none, some (vL x9), none, none], [vI x2, vI 104, .ref 9], hp S, 0, 0)) rfl ?_
  obtain ⟨S1, e2, F⟩ := F
  refine mv_calv (as := [vI 104, vI x2]) (rest := []) e2 (sh_9) rfl rfl rfl ⟨rfl, rfl⟩ rfl rfl rfl rfl rfl ?_
  exact F
theorem vc_Shelf_readTapeRow_214 {q : Nat × (Nat → Int32)} {S S' : ms} {r : Option Value} (x2 x3 x5 x7 x9 : Int) (a0 : Nat) (ha0 : isShelf a0)
    (F : ((w64 x7 ≤ w64 (w32 ((S.1 9 2) - (x2 + 512)))) → EV q 195 244 [some (.ref a0), some (.ref 9), some (vI x2), some (vL x3), none, some (vL x5), none, some (vL x7), none, some (vL x9), none, some (vI (x2 + 512))] [] S r S') ∧ ((¬ w64 x7 ≤ w64 (w32 ((S.1 9 2) - (x2 + 512)))) → ∃ (S1 : ms), EV q 126 0 [some (.ref 9), some (vI 1), some (vI (S.1 9 2))] [] S none S1 ∧ EV q 195 244 [some (.ref a0), some (.ref 9), some (vI x2), some (vL x3), none, some (vL x5), none, some (vL x7), none, some (vL x9), none, some (vI (x2 + 512))] [] S1 r S')) : EV q 195 214 [some (.ref a0), some (.ref 9), some (vI x2), some (vL x3), none, some (vL x5), none, some (vL x7), none, some (vL x9), none, none] [] S r S' := by
  unfold EV
  refine ev_bk 2 (S' := (218, [some (.ref a0), some (.ref 9), some (vI x2), some (vL x3), none, some (vL x5), none, some (vL x7), none, some (vL x9), none, none], [vI 512, vI x2], hp S, 0, 0)) rfl ?_
  refine mv_iadd rfl ?_
  refine ev_bk 3 (S' := (224, [some (.ref a0), some (.ref 9), some (vI x2), some (vL x3), none, some (vL x5), none, some (vL x7), none, some (vL x9), none, some (vI (x2 + 512))], [.ref 9, vL x7], hp S, 0, 0)) rfl ?_
  refine mv_gfI rfl rfl (sh_9) (by decide) rfl ?_
  refine ev_bk 1 (S' := (229, [some (.ref a0), some (.ref 9), some (vI x2), some (vL x3), none, some (vL x5), none, some (vL x7), none, some (vL x9), none, some (vI (x2 + 512))], [vI (x2 + 512), vI (S.1 9 2), vL x7], hp S, 0, 0)) rfl ?_
  refine mv_isub rfl ?_
  refine mv_i2l rfl ?_
  refine mv_lif 244 rfl rfl rfl (fun c => ?_) (fun c => ?_)
  · have F := F.1 c
    exact F
  · have F := F.2 c
    refine ev_bk 3 (S' := (238, [some (.ref a0), some (.ref 9), some (vI x2), some (vL x3), none, some (vL x5), none, some (vL x7), none, some (vL x9), none, some (vI (x2 + 512))], [.ref 9, vI 1, .ref 9], hp S, 0, 0)) rfl ?_
    refine mv_gfI rfl rfl (sh_9) (by decide) rfl ?_
    obtain ⟨S1, e2, F⟩ := F
    refine mv_calv (as := [vI 1, vI (S.1 9 2)]) (rest := []) e2 (sh_9) rfl rfl rfl ⟨rfl, rfl⟩ rfl rfl rfl rfl rfl ?_
    exact F
theorem vc_Shelf_readTapeRow_244 {q : Nat × (Nat → Int32)} {S S' : ms} {r : Option Value} (x2 x3 x5 x7 x9 x11 : Int) (a0 : Nat) (ha0 : isShelf a0)
    (F : ((¬ w32 (S.1 9 5) = 0) → r = some (vI x11) ∧ S' = S) ∧ ((¬ (¬ w32 (S.1 9 5) = 0)) → ∃ (S1 : ms), EV q 180 0 [some (.ref a0), some (.ref (a0 + 5)), some (vI (x5 % 512)), some (vI x9), some (.ref 2), some (vI x11), some (vI x7)] [] S none S1 ∧ r = some (vI (x11 + ((Int.tdiv (w32 ((x7 + 512) - 1)) (w32 512)) * 512))) ∧ S' = S1)) : EV q 195 244 [some (.ref a0), some (.ref 9), some (vI x2), some (vL x3), none, some (vL x5), none, some (vL x7), none, some (vL x9), none, some (vI x11)] [] S r S' := by
  unfold EV
  refine ev_bk 1 (S' := (245, [some (.ref a0), some (.ref 9), some (vI x2), some (vL x3), none, some (vL x5), none, some (vL x7), none, some (vL x9), none, some (vI x11)], [.ref 9], hp S, 0, 0)) rfl ?_
  refine mv_gfI rfl rfl (sh_9) (by decide) rfl ?_
  refine mv_if 300 rfl rfl (fun c => ?_) (fun c => ?_)
  · have F := F.1 c
    refine ev_bk 1 (S' := (302, [some (.ref a0), some (.ref 9), some (vI x2), some (vL x3), none, some (vL x5), none, some (vL x7), none, some (vL x9), none, some (vI x11)], [vI x11], hp S, 0, 0)) rfl ?_
    obtain ⟨rfl, rfl⟩ := F
    exact ev_ret rfl rfl
  · have F := F.2 c
    refine ev_bk 2 (S' := (253, [some (.ref a0), some (.ref 9), some (vI x2), some (vL x3), none, some (vL x5), none, some (vL x7), none, some (vL x9), none, some (vI x11)], [.ref a0, .ref a0], hp S, 0, 0)) rfl ?_
    refine mv_gfR rfl rfl (ha0.1) (by decide) rfl ?_
    refine ev_bk 1 (S' := (258, [some (.ref a0), some (.ref 9), some (vI x2), some (vL x3), none, some (vL x5), none, some (vL x7), none, some (vL x9), none, some (vI x11)], [vL x5, .ref (a0 + 5), .ref a0], hp S, 0, 0)) rfl ?_
    refine mv_l2i rfl ?_
    refine ev_bk 1 (S' := (262, [some (.ref a0), some (.ref 9), some (vI x2), some (vL x3), none, some (vL x5), none, some (vL x7), none, some (vL x9), none, some (vI x11)], [vI 511, vI x5, .ref (a0 + 5), .ref a0], hp S, 0, 0)) rfl ?_
    refine mv_iandm 512 9 (by decide) rfl rfl rfl ?_
    refine ev_bk 1 (S' := (265, [some (.ref a0), some (.ref 9), some (vI x2), some (vL x3), none, some (vL x5), none, some (vL x7), none, some (vL x9), none, some (vI x11)], [vL x9, vI (x5 % 512), .ref (a0 + 5), .ref a0], hp S, 0, 0)) rfl ?_
    refine mv_l2i rfl ?_
    refine ev_bk 1 (S' := (267, [some (.ref a0), some (.ref 9), some (vI x2), some (vL x3), none, some (vL x5), none, some (vL x7), none, some (vL x9), none, some (vI x11)], [.ref 9, vI x9, vI (x5 % 512), .ref (a0 + 5), .ref a0], hp S, 0, 0)) rfl ?_
    refine mv_gfR rfl rfl (sh_9) (by decide) rfl ?_
    refine ev_bk 2 (S' := (274, [some (.ref a0), some (.ref 9), some (vI x2), some (vL x3), none, some (vL x5), none, some (vL x7), none, some (vL x9), none, some (vI x11)], [vL x7, vI x11, .ref 2, vI x9, vI (x5 % 512), .ref (a0 + 5), .ref a0], hp S, 0, 0)) rfl ?_
    refine mv_l2i rfl ?_
    obtain ⟨S1, e2, F⟩ := F
    refine mv_calv (as := [.ref (a0 + 5), vI (x5 % 512), vI x9, .ref 2, vI x11, vI x7]) (rest := []) e2 (ha0.1) rfl rfl rfl ⟨rfl, rfl⟩ rfl rfl rfl rfl rfl ?_
    refine ev_bk 2 (S' := (282, [some (.ref a0), some (.ref 9), some (vI x2), some (vL x3), none, some (vL x5), none, some (vL x7), none, some (vL x9), none, some (vI x11)], [vL x7, vI x11], hp S1, 0, 0)) rfl ?_
    refine mv_l2i rfl ?_
    refine ev_bk 1 (S' := (286, [some (.ref a0), some (.ref 9), some (vI x2), some (vL x3), none, some (vL x5), none, some (vL x7), none, some (vL x9), none, some (vI x11)], [vI 512, vI x7, vI x11], hp S1, 0, 0)) rfl ?_
    refine mv_iadd rfl ?_
    refine ev_bk 1 (S' := (288, [some (.ref a0), some (.ref 9), some (vI x2), some (vL x3), none, some (vL x5), none, some (vL x7), none, some (vL x9), none, some (vI x11)], [vI 1, vI (x7 + 512), vI x11], hp S1, 0, 0)) rfl ?_
    refine mv_isub rfl ?_
    refine ev_bk 1 (S' := (292, [some (.ref a0), some (.ref 9), some (vI x2), some (vL x3), none, some (vL x5), none, some (vL x7), none, some (vL x9), none, some (vI x11)], [vI 512, vI ((x7 + 512) - 1), vI x11], hp S1, 0, 0)) rfl ?_
    refine mv_idiv (by decide) rfl ?_
    refine ev_bk 1 (S' := (296, [some (.ref a0), some (.ref 9), some (vI x2), some (vL x3), none, some (vL x5), none, some (vL x7), none, some (vL x9), none, some (vI x11)], [vI 512, vI (Int.tdiv (w32 ((x7 + 512) - 1)) (w32 512)), vI x11], hp S1, 0, 0)) rfl ?_
    refine mv_imul rfl ?_
    refine mv_iadd rfl ?_
    refine ev_bk 2 (S' := (302, [some (.ref a0), some (.ref 9), some (vI x2), some (vL x3), none, some (vL x5), none, some (vL x7), none, some (vL x9), none, some (vI (x11 + ((Int.tdiv (w32 ((x7 + 512) - 1)) (w32 512)) * 512)))], [vI (x11 + ((Int.tdiv (w32 ((x7 + 512) - 1)) (w32 512)) * 512))], hp S1, 0, 0)) rfl ?_
    obtain ⟨rfl, rfl⟩ := F
    exact ev_ret rfl rfl
theorem vc_Shelf_eights {q : Nat × (Nat → Int32)} {S S' : ms} {r : Option Value} (x1 x2 : Int) (a0 na0 : Nat) (ha0 : SH a0 = (0, na0, []))
    (F : EV q 196 2 [some (.ref a0), some (vI x1), some (vI x2), some (vI 0), none, none] [] S r S') : EV q 196 0 [some (.ref a0), some (vI x1), some (vI x2), none, none, none] [] S r S' := by
  unfold EV
  refine ev_bk 2 (S' := (2, [some (.ref a0), some (vI x1), some (vI x2), some (vI 0), none, none], [], hp S, 0, 0)) rfl ?_
  exact F
theorem vc_Shelf_eights_2 {q : Nat × (Nat → Int32)} {S S' : ms} {r : Option Value} (x1 x2 x3 : Int) (a0 na0 : Nat) (ha0 : SH a0 = (0, na0, []))
    (F : ((w32 x2 ≤ w32 x3) → EV q 196 23 [some (.ref a0), some (vI x1), some (vI x2), some (vI x3), none, none] [] S r S') ∧ ((¬ w32 x2 ≤ w32 x3) → (0 ≤ w32 (x1 + x3) ∧ w32 (x1 + x3) < (na0 : Nat)) ∧ ((¬ w32 (S.1 a0 (w32 (x1 + x3))) = 32) → EV q 196 23 [some (.ref a0), some (vI x1), some (vI x2), some (vI x3), none, none] [] S r S') ∧ ((¬ (¬ w32 (S.1 a0 (w32 (x1 + x3))) = 32)) → EV q 196 2 [some (.ref a0), some (vI x1), some (vI x2), some (vI (x3 + 1)), none, none] [] S r S'))) : EV q 196 2 [some (.ref a0), some (vI x1), some (vI x2), some (vI x3), none, none] [] S r S' := by
  unfold EV
  refine ev_bk 2 (S' := (4, [some (.ref a0), some (vI x1), some (vI x2), some (vI x3), none, none], [vI x2, vI x3], hp S, 0, 0)) rfl ?_
  refine mv_icmp 23 rfl rfl (fun c => ?_) (fun c => ?_)
  · have F := F.1 c
    exact F
  · have F := F.2 c
    refine ev_bk 3 (S' := (10, [some (.ref a0), some (vI x1), some (vI x2), some (vI x3), none, none], [vI x3, vI x1, .ref a0], hp S, 0, 0)) rfl ?_
    refine mv_iadd rfl ?_
    obtain ⟨b1, F⟩ := F
    refine mv_ial rfl (ha0) b1 ?_
    refine ev_bk 1 (S' := (14, [some (.ref a0), some (vI x1), some (vI x2), some (vI x3), none, none], [vI 32, vI (S.1 a0 (w32 (x1 + x3)))], hp S, 0, 0)) rfl ?_
    refine mv_icmp 23 rfl rfl (fun c => ?_) (fun c => ?_)
    · have F := F.1 c
      exact F
    · have F := F.2 c
      refine mv_inc (lv' := [some (.ref a0), some (vI x1), some (vI x2), some (vI (x3 + 1)), none, none]) 3 1 rfl rfl rfl rfl ?_
      refine mv_goto 2 rfl rfl ?_
      exact F
theorem vc_Shelf_eights_23 {q : Nat × (Nat → Int32)} {S S' : ms} {r : Option Value} (x1 x2 x3 : Int) (a0 na0 : Nat) (ha0 : SH a0 = (0, na0, []))
    (F : EV q 196 28 [some (.ref a0), some (vI x1), some (vI x2), some (vI x3), some (vL ((-1))), none] [] S r S') : EV q 196 23 [some (.ref a0), some (vI x1), some (vI x2), some (vI x3), none, none] [] S r S' := by
  unfold EV
  refine ev_bk 2 (S' := (28, [some (.ref a0), some (vI x1), some (vI x2), some (vI x3), some (vL ((-1))), none], [], hp S, 0, 0)) rfl ?_
  exact F
theorem vc_Shelf_eights_28 {q : Nat × (Nat → Int32)} {S S' : ms} {r : Option Value} (x1 x2 x3 x4 : Int) (a0 na0 : Nat) (ha0 : SH a0 = (0, na0, []))
    (F : ((w32 x2 ≤ w32 x3) → EV q 196 82 [some (.ref a0), some (vI x1), some (vI x2), some (vI x3), some (vL x4), none] [] S r S') ∧ ((¬ w32 x2 ≤ w32 x3) → (0 ≤ w32 (x1 + x3) ∧ w32 (x1 + x3) < (na0 : Nat)) ∧ ((w32 (S.1 a0 (w32 (x1 + x3))) < 48) → EV q 196 82 [some (.ref a0), some (vI x1), some (vI x2), some (vI x3), some (vL x4), none] [] S r S') ∧ ((¬ w32 (S.1 a0 (w32 (x1 + x3))) < 48) → (0 ≤ w32 (x1 + x3) ∧ w32 (x1 + x3) < (na0 : Nat)) ∧ ((56 ≤ w32 (S.1 a0 (w32 (x1 + x3)))) → EV q 196 82 [some (.ref a0), some (vI x1), some (vI x2), some (vI x3), some (vL x4), none] [] S r S') ∧ ((¬ 56 ≤ w32 (S.1 a0 (w32 (x1 + x3)))) → (0 ≤ w32 (x1 + x3) ∧ w32 (x1 + x3) < (na0 : Nat)) ∧ EV q 196 28 [some (.ref a0), some (vI x1), some (vI x2), some (vI (x3 + 1)), some (vL ((((max (w64 x4) (w64 0)) * 8) + (w32 (S.1 a0 (w32 (x1 + x3))))) - 48)), none] [] S r S')))) : EV q 196 28 [some (.ref a0), some (vI x1), some (vI x2), some (vI x3), some (vL x4), none] [] S r S' := by
  unfold EV
  refine ev_bk 2 (S' := (30, [some (.ref a0), some (vI x1), some (vI x2), some (vI x3), some (vL x4), none], [vI x2, vI x3], hp S, 0, 0)) rfl ?_
  refine mv_icmp 82 rfl rfl (fun c => ?_) (fun c => ?_)
  · have F := F.1 c
    exact F
  · have F := F.2 c
    refine ev_bk 3 (S' := (36, [some (.ref a0), some (vI x1), some (vI x2), some (vI x3), some (vL x4), none], [vI x3, vI x1, .ref a0], hp S, 0, 0)) rfl ?_
    refine mv_iadd rfl ?_
    obtain ⟨b1, F⟩ := F
    refine mv_ial rfl (ha0) b1 ?_
    refine ev_bk 1 (S' := (40, [some (.ref a0), some (vI x1), some (vI x2), some (vI x3), some (vL x4), none], [vI 48, vI (S.1 a0 (w32 (x1 + x3)))], hp S, 0, 0)) rfl ?_
    refine mv_icmp 82 rfl rfl (fun c => ?_) (fun c => ?_)
    · have F := F.1 c
      exact F
    · have F := F.2 c
      refine ev_bk 3 (S' := (46, [some (.ref a0), some (vI x1), some (vI x2), some (vI x3), some (vL x4), none], [vI x3, vI x1, .ref a0], hp S, 0, 0)) rfl ?_
      refine mv_iadd rfl ?_
      obtain ⟨b2, F⟩ := F
      refine mv_ial rfl (ha0) b2 ?_
      refine ev_bk 1 (S' := (50, [some (.ref a0), some (vI x1), some (vI x2), some (vI x3), some (vL x4), none], [vI 56, vI (S.1 a0 (w32 (x1 + x3)))], hp S, 0, 0)) rfl ?_
      refine mv_icmp 82 rfl rfl (fun c => ?_) (fun c => ?_)
      · have F := F.1 c
        exact F
      · have F := F.2 c
        refine ev_bk 2 (S' := (56, [some (.ref a0), some (vI x1), some (vI x2), some (vI x3), some (vL x4), none], [vL 0, vL x4], hp S, 0, 0)) rfl ?_
        refine mv_lmax rfl rfl rfl ?_
        refine ev_bk 1 (S' := (62, [some (.ref a0), some (vI x1), some (vI x2), some (vI x3), some (vL x4), none], [vL 8, vL (max (w64 x4) (w64 0))], hp S, 0, 0)) rfl ?_
        refine mv_lmul rfl ?_
        refine ev_bk 3 (S' := (66, [some (.ref a0), some (vI x1), some (vI x2), some (vI x3), some (vL x4), none], [vI x3, vI x1, .ref a0, vL ((max (w64 x4) (w64 0)) * 8)], hp S, 0, 0)) rfl ?_
        refine mv_iadd rfl ?_
        obtain ⟨b3, F⟩ := F
        refine mv_ial rfl (ha0) b3 ?_
        refine mv_i2l rfl ?_
        refine mv_ladd rfl ?_
        refine ev_bk 1 (S' := (73, [some (.ref a0), some (vI x1), some (vI x2), some (vI x3), some (vL x4), none], [vL 48, vL (((max (w64 x4) (w64 0)) * 8) + (w32 (S.1 a0 (w32 (x1 + x3)))))], hp S, 0, 0)) rfl ?_
        refine mv_lsub rfl ?_
        refine ev_bk 1 (S' := (76, [some (.ref a0), some (vI x1), some (vI x2), some (vI x3), some (vL ((((max (w64 x4) (w64 0)) * 8) + (w32 (S.1 a0 (w32 (x1 + x3))))) - 48)), none], [], hp S, 0, 0)) rfl ?_
        refine mv_inc (lv' := [some (.ref a0), some (vI x1), some (vI x2), some (vI (x3 + 1)), some (vL ((((max (w64 x4) (w64 0)) * 8) + (w32 (S.1 a0 (w32 (x1 + x3))))) - 48)), none]) 3 1 rfl rfl rfl rfl ?_
        refine mv_goto 28 rfl rfl ?_
        exact F
theorem vc_Shelf_eights_82 {q : Nat × (Nat → Int32)} {S S' : ms} {r : Option Value} (x1 x2 x3 x4 : Int) (a0 na0 : Nat) (ha0 : SH a0 = (0, na0, []))
    (F : ((w32 x3 = w32 x2) → EV q 196 105 [some (.ref a0), some (vI x1), some (vI x2), some (vI x3), some (vL x4), none] [] S r S') ∧ ((¬ w32 x3 = w32 x2) → (0 ≤ w32 (x1 + x3) ∧ w32 (x1 + x3) < (na0 : Nat)) ∧ ((w32 (S.1 a0 (w32 (x1 + x3))) = 0) → EV q 196 105 [some (.ref a0), some (vI x1), some (vI x2), some (vI x3), some (vL x4), none] [] S r S') ∧ ((¬ w32 (S.1 a0 (w32 (x1 + x3))) = 0) → (0 ≤ w32 (x1 + x3) ∧ w32 (x1 + x3) < (na0 : Nat)) ∧ ((¬ w32 (S.1 a0 (w32 (x1 + x3))) = 32) → r = some (vL ((-1))) ∧ S' = S) ∧ ((¬ (¬ w32 (S.1 a0 (w32 (x1 + x3))) = 32)) → EV q 196 105 [some (.ref a0), some (vI x1), some (vI x2), some (vI x3), some (vL x4), none] [] S r S')))) : EV q 196 82 [some (.ref a0), some (vI x1), some (vI x2), some (vI x3), some (vL x4), none] [] S r S' := by
  unfold EV
  refine ev_bk 2 (S' := (84, [some (.ref a0), some (vI x1), some (vI x2), some (vI x3), some (vL x4), none], [vI x2, vI x3], hp S, 0, 0)) rfl ?_
  refine mv_icmp 105 rfl rfl (fun c => ?_) (fun c => ?_)
  · have F := F.1 c
    exact F
  · have F := F.2 c
    refine ev_bk 3 (S' := (90, [some (.ref a0), some (vI x1), some (vI x2), some (vI x3), some (vL x4), none], [vI x3, vI x1, .ref a0], hp S, 0, 0)) rfl ?_
    refine mv_iadd rfl ?_
    obtain ⟨b1, F⟩ := F
    refine mv_ial rfl (ha0) b1 ?_
    refine mv_if 105 rfl rfl (fun c => ?_) (fun c => ?_)
    · have F := F.1 c
      exact F
    · have F := F.2 c
      refine ev_bk 3 (S' := (98, [some (.ref a0), some (vI x1), some (vI x2), some (vI x3), some (vL x4), none], [vI x3, vI x1, .ref a0], hp S, 0, 0)) rfl ?_
      refine mv_iadd rfl ?_
      obtain ⟨b2, F⟩ := F
      refine mv_ial rfl (ha0) b2 ?_
      refine ev_bk 1 (S' := (102, [some (.ref a0), some (vI x1), some (vI x2), some (vI x3), some (vL x4), none], [vI 32, vI (S.1 a0 (w32 (x1 + x3)))], hp S, 0, 0)) rfl ?_
      refine mv_icmp 110 rfl rfl (fun c => ?_) (fun c => ?_)
      · have F := F.1 c
        refine ev_bk 1 (S' := (113, [some (.ref a0), some (vI x1), some (vI x2), some (vI x3), some (vL x4), none], [vL ((-1))], hp S, 0, 0)) rfl ?_
        obtain ⟨rfl, rfl⟩ := F
        exact ev_ret rfl rfl
      · have F := F.2 c
        exact F
theorem vc_Shelf_eights_105 {q : Nat × (Nat → Int32)} {S S' : ms} {r : Option Value} (x1 x2 x3 x4 : Int) (a0 na0 : Nat) (ha0 : SH a0 = (0, na0, []))
    (F : r = some (vL x4) ∧ S' = S) : EV q 196 105 [some (.ref a0), some (vI x1), some (vI x2), some (vI x3), some (vL x4), none] [] S r S' := by
  unfold EV
  refine ev_bk 1 (S' := (107, [some (.ref a0), some (vI x1), some (vI x2), some (vI x3), some (vL x4), none], [vL x4], hp S, 0, 0)) rfl ?_
  refine mv_goto 113 rfl rfl ?_
  obtain ⟨rfl, rfl⟩ := F
  exact ev_ret rfl rfl
theorem vc_Shelf_tapeLabel {q : Nat × (Nat → Int32)} {S S' : ms} {r : Option Value} (x2 : Int) (a0 : Nat) (ha0 : isShelf a0) (a1 na1 : Nat) (ha1 : SH a1 = (0, na1, []))
    (F : ∃ (S1 : ms), EV q 37 0 [some (.ref (a0 + 5))] [] S none S1 ∧ (0 ≤ w32 (x2 + 345) ∧ w32 (x2 + 345) < (na1 : Nat)) ∧ ((w32 (S1.1 a1 (w32 (x2 + 345))) = 0) → EV q 198 63 [some (.ref a0), some (.ref a1), some (vI x2), none] [] S1 r S') ∧ ((¬ w32 (S1.1 a1 (w32 (x2 + 345))) = 0) → EV q 198 21 [some (.ref a0), some (.ref a1), some (vI x2), some (vI 345)] [] S1 r S')) : EV q 198 0 [some (.ref a0), some (.ref a1), some (vI x2), none] [] S r S' := by
  unfold EV
  refine ev_bk 1 (S' := (1, [some (.ref a0), some (.ref a1), some (vI x2), none], [.ref a0], hp S, 0, 0)) rfl ?_
  refine mv_gfR rfl rfl (ha0.1) (by decide) rfl ?_
  obtain ⟨S1, e2, F⟩ := F
  refine mv_calv (as := []) (rest := []) e2 (ha0.2.2.2.2.2.1) rfl rfl rfl ⟨rfl, rfl⟩ rfl rfl rfl rfl rfl ?_
  refine ev_bk 3 (S' := (12, [some (.ref a0), some (.ref a1), some (vI x2), none], [vI 345, vI x2, .ref a1], hp S1, 0, 0)) rfl ?_
  refine mv_iadd rfl ?_
  obtain ⟨b3, F⟩ := F
  refine mv_ial rfl (ha1) b3 ?_
  refine mv_if 63 rfl rfl (fun c => ?_) (fun c => ?_)
  · have F := F.1 c
    exact F
  · have F := F.2 c
    refine ev_bk 2 (S' := (21, [some (.ref a0), some (.ref a1), some (vI x2), some (vI 345)], [], hp S1, 0, 0)) rfl ?_
    exact F
theorem vc_Shelf_tapeLabel_21 {q : Nat × (Nat → Int32)} {S S' : ms} {r : Option Value} (x2 x3 : Int) (a0 : Nat) (ha0 : isShelf a0) (a1 na1 : Nat) (ha1 : SH a1 = (0, na1, []))
    (F : ((500 ≤ w32 x3) → EV q 198 54 [some (.ref a0), some (.ref a1), some (vI x2), some (vI x3)] [] S r S') ∧ ((¬ 500 ≤ w32 x3) → (0 ≤ w32 (x2 + x3) ∧ w32 (x2 + x3) < (na1 : Nat)) ∧ ((w32 (S.1 a1 (w32 (x2 + x3))) = 0) → EV q 198 54 [some (.ref a0), some (.ref a1), some (vI x2), some (vI x3)] [] S r S') ∧ ((¬ w32 (S.1 a1 (w32 (x2 + x3))) = 0) → (0 ≤ w32 (x2 + x3) ∧ w32 (x2 + x3) < (na1 : Nat)) ∧ ∃ (S3 : ms), EV q 19 0 [some (.ref (a0 + 5)), some (vI (S.1 a1 (w32 (x2 + x3))))] [] S none S3 ∧ EV q 198 21 [some (.ref a0), some (.ref a1), some (vI x2), some (vI (x3 + 1))] [] S3 r S'))) : EV q 198 21 [some (.ref a0), some (.ref a1), some (vI x2), some (vI x3)] [] S r S' := by
  unfold EV
  refine ev_bk 2 (S' := (25, [some (.ref a0), some (.ref a1), some (vI x2), some (vI x3)], [vI 500, vI x3], hp S, 0, 0)) rfl ?_
  refine mv_icmp 54 rfl rfl (fun c => ?_) (fun c => ?_)
  · have F := F.1 c
    exact F
  · have F := F.2 c
    refine ev_bk 3 (S' := (31, [some (.ref a0), some (.ref a1), some (vI x2), some (vI x3)], [vI x3, vI x2, .ref a1], hp S, 0, 0)) rfl ?_
    refine mv_iadd rfl ?_
    obtain ⟨b1, F⟩ := F
    refine mv_ial rfl (ha1) b1 ?_
    refine mv_if 54 rfl rfl (fun c => ?_) (fun c => ?_)
    · have F := F.1 c
      exact F
    · have F := F.2 c
      refine ev_bk 1 (S' := (37, [some (.ref a0), some (.ref a1), some (vI x2), some (vI x3)], [.ref a0], hp S, 0, 0)) rfl ?_
      refine mv_gfR rfl rfl (ha0.1) (by decide) rfl ?_
      refine ev_bk 3 (S' := (43, [some (.ref a0), some (.ref a1), some (vI x2), some (vI x3)], [vI x3, vI x2, .ref a1, .ref (a0 + 5)], hp S, 0, 0)) rfl ?_
      refine mv_iadd rfl ?_
      obtain ⟨b2, F⟩ := F
      refine mv_ial rfl (ha1) b2 ?_
      obtain ⟨S3, e4, F⟩ := F
      refine mv_calv (as := [vI (S.1 a1 (w32 (x2 + x3)))]) (rest := []) e4 (ha0.2.2.2.2.2.1) rfl rfl rfl ⟨rfl, rfl⟩ rfl rfl rfl rfl rfl ?_
      refine mv_inc (lv' := [some (.ref a0), some (.ref a1), some (vI x2), some (vI (x3 + 1))]) 3 1 rfl rfl rfl rfl ?_
      refine mv_goto 21 rfl rfl ?_
      exact F
theorem vc_Shelf_tapeLabel_54 {q : Nat × (Nat → Int32)} {S S' : ms} {r : Option Value} (x2 x3 : Int) (a0 : Nat) (ha0 : isShelf a0) (a1 na1 : Nat) (ha1 : SH a1 = (0, na1, []))
    (F : ∃ (S1 : ms), EV q 19 0 [some (.ref (a0 + 5)), some (vI 47)] [] S none S1 ∧ EV q 198 63 [some (.ref a0), some (.ref a1), some (vI x2), none] [] S1 r S') : EV q 198 54 [some (.ref a0), some (.ref a1), some (vI x2), some (vI x3)] [] S r S' := by
  unfold EV
  refine ev_bk 1 (S' := (55, [some (.ref a0), some (.ref a1), some (vI x2), some (vI x3)], [.ref a0], hp S, 0, 0)) rfl ?_
  refine mv_gfR rfl rfl (ha0.1) (by decide) rfl ?_
  refine ev_bk 1 (S' := (60, [some (.ref a0), some (.ref a1), some (vI x2), some (vI x3)], [vI 47, .ref (a0 + 5)], hp S, 0, 0)) rfl ?_
  obtain ⟨S1, e2, F⟩ := F
  refine mv_calv (as := [vI 47]) (rest := []) e2 (ha0.2.2.2.2.2.1) rfl rfl rfl ⟨rfl, rfl⟩ rfl rfl rfl rfl rfl ?_
  exact ev_wk (le_s (le_s (le_s (le_n le_0)))) F
theorem vc_Shelf_tapeLabel_63 {q : Nat × (Nat → Int32)} {S S' : ms} {r : Option Value} (x2 : Int) (a0 : Nat) (ha0 : isShelf a0) (a1 na1 : Nat) (ha1 : SH a1 = (0, na1, []))
    (F : EV q 198 65 [some (.ref a0), some (.ref a1), some (vI x2), some (vI 0)] [] S r S') : EV q 198 63 [some (.ref a0), some (.ref a1), some (vI x2), none] [] S r S' := by
  unfold EV
  refine ev_bk 2 (S' := (65, [some (.ref a0), some (.ref a1), some (vI x2), some (vI 0)], [], hp S, 0, 0)) rfl ?_
  exact F
theorem vc_Shelf_tapeLabel_65 {q : Nat × (Nat → Int32)} {S S' : ms} {r : Option Value} (x2 x3 : Int) (a0 : Nat) (ha0 : isShelf a0) (a1 na1 : Nat) (ha1 : SH a1 = (0, na1, []))
    (F : ((100 ≤ w32 x3) → r = none ∧ S' = S) ∧ ((¬ 100 ≤ w32 x3) → (0 ≤ w32 (x2 + x3) ∧ w32 (x2 + x3) < (na1 : Nat)) ∧ ((w32 (S.1 a1 (w32 (x2 + x3))) = 0) → r = none ∧ S' = S) ∧ ((¬ w32 (S.1 a1 (w32 (x2 + x3))) = 0) → (0 ≤ w32 (x2 + x3) ∧ w32 (x2 + x3) < (na1 : Nat)) ∧ ∃ (S3 : ms), EV q 19 0 [some (.ref (a0 + 5)), some (vI (S.1 a1 (w32 (x2 + x3))))] [] S none S3 ∧ EV q 198 65 [some (.ref a0), some (.ref a1), some (vI x2), some (vI (x3 + 1))] [] S3 r S'))) : EV q 198 65 [some (.ref a0), some (.ref a1), some (vI x2), some (vI x3)] [] S r S' := by
  unfold EV
  refine ev_bk 2 (S' := (68, [some (.ref a0), some (.ref a1), some (vI x2), some (vI x3)], [vI 100, vI x3], hp S, 0, 0)) rfl ?_
  refine mv_icmp 97 rfl rfl (fun c => ?_) (fun c => ?_)
  · have F := F.1 c
    obtain ⟨rfl, rfl⟩ := F
    exact ev_ret rfl rfl
  · have F := F.2 c
    refine ev_bk 3 (S' := (74, [some (.ref a0), some (.ref a1), some (vI x2), some (vI x3)], [vI x3, vI x2, .ref a1], hp S, 0, 0)) rfl ?_
    refine mv_iadd rfl ?_
    obtain ⟨b1, F⟩ := F
    refine mv_ial rfl (ha1) b1 ?_
    refine mv_if 97 rfl rfl (fun c => ?_) (fun c => ?_)
    · have F := F.1 c
      obtain ⟨rfl, rfl⟩ := F
      exact ev_ret rfl rfl
    · have F := F.2 c
      refine ev_bk 1 (S' := (80, [some (.ref a0), some (.ref a1), some (vI x2), some (vI x3)], [.ref a0], hp S, 0, 0)) rfl ?_
      refine mv_gfR rfl rfl (ha0.1) (by decide) rfl ?_
      refine ev_bk 3 (S' := (86, [some (.ref a0), some (.ref a1), some (vI x2), some (vI x3)], [vI x3, vI x2, .ref a1, .ref (a0 + 5)], hp S, 0, 0)) rfl ?_
      refine mv_iadd rfl ?_
      obtain ⟨b2, F⟩ := F
      refine mv_ial rfl (ha1) b2 ?_
      obtain ⟨S3, e4, F⟩ := F
      refine mv_calv (as := [vI (S.1 a1 (w32 (x2 + x3)))]) (rest := []) e4 (ha0.2.2.2.2.2.1) rfl rfl rfl ⟨rfl, rfl⟩ rfl rfl rfl rfl rfl ?_
      refine mv_inc (lv' := [some (.ref a0), some (.ref a1), some (vI x2), some (vI (x3 + 1))]) 3 1 rfl rfl rfl rfl ?_
      refine mv_goto 65 rfl rfl ?_
      exact F
theorem vc_Shelf_readBench {q : Nat × (Nat → Int32)} {S S' : ms} {r : Option Value} (a0 : Nat) (ha0 : isShelf a0)
    (F : ((8 ≤ w32 (S.1 9 2)) → EV q 199 23 [some (.ref a0), some (.ref 9), some (vI 0), none] [] S r S') ∧ ((¬ 8 ≤ w32 (S.1 9 2)) → ∃ (S1 : ms), EV q 126 0 [some (.ref 9), some (vI 1), some (vI (S.1 9 2))] [] S none S1 ∧ r = none ∧ S' = S1)) : EV q 199 0 [some (.ref a0), some (.ref 9), none, none] [] S r S' := by
  unfold EV
  refine ev_bk 1 (S' := (1, [some (.ref a0), some (.ref 9), none, none], [.ref 9], hp S, 0, 0)) rfl ?_
  refine mv_gfI rfl rfl (sh_9) (by decide) rfl ?_
  refine mv_gs (k := 8) rfl rfl ?_
  refine mv_slen (k := 8) rfl rfl (by decide) ?_
  refine mv_icmp 21 rfl rfl (fun c => ?_) (fun c => ?_)
  · have F := F.1 c
    refine ev_bk 2 (S' := (23, [some (.ref a0), some (.ref 9), some (vI 0), none], [], hp S, 0, 0)) rfl ?_
    exact F
  · have F := F.2 c
    refine ev_bk 3 (S' := (14, [some (.ref a0), some (.ref 9), none, none], [.ref 9, vI 1, .ref 9], hp S, 0, 0)) rfl ?_
    refine mv_gfI rfl rfl (sh_9) (by decide) rfl ?_
    obtain ⟨S1, e2, F⟩ := F
    refine mv_calv (as := [vI 1, vI (S.1 9 2)]) (rest := []) e2 (sh_9) rfl rfl rfl ⟨rfl, rfl⟩ rfl rfl rfl rfl rfl ?_
    obtain ⟨rfl, rfl⟩ := F
    exact ev_ret rfl rfl
theorem vc_Shelf_readBench_23 {q : Nat × (Nat → Int32)} {S S' : ms} {r : Option Value} (x2 : Int) (a0 : Nat) (ha0 : isShelf a0)
    (F : ((8 ≤ w32 x2) → EV q 199 65 [some (.ref a0), some (.ref 9), some (vI 8), some (vI 0)] [] S r S') ∧ ((¬ 8 ≤ w32 x2) → (0 ≤ w32 x2 ∧ w32 x2 < (6000 : Nat)) ∧ (0 ≤ w32 x2 ∧ w32 x2 < (8 : Nat)) ∧ ((w32 (S.1 2 (w32 x2)) = w32 (sS 8 (w32 x2))) → EV q 199 52 [some (.ref a0), some (.ref 9), some (vI x2), none] [] S r S') ∧ ((¬ w32 (S.1 2 (w32 x2)) = w32 (sS 8 (w32 x2))) → ∃ (S3 : ms), EV q 126 0 [some (.ref 9), some (vI 110), some (vI 0)] [] S none S3 ∧ EV q 199 52 [some (.ref a0), some (.ref 9), some (vI x2), none] [] S3 r S'))) : EV q 199 23 [some (.ref a0), some (.ref 9), some (vI x2), none] [] S r S' := by
  unfold EV
  refine ev_bk 1 (S' := (24, [some (.ref a0), some (.ref 9), some (vI x2), none], [vI x2], hp S, 0, 0)) rfl ?_
  refine mv_gs (k := 8) rfl rfl ?_
  refine mv_slen (k := 8) rfl rfl (by decide) ?_
  refine mv_icmp 58 rfl rfl (fun c => ?_) (fun c => ?_)
  · have F := F.1 c
    refine mv_gs (k := 8) rfl rfl ?_
    refine mv_slen (k := 8) rfl rfl (by decide) ?_
    refine ev_bk 3 (S' := (65, [some (.ref a0), some (.ref 9), some (vI 8), some (vI 0)], [], hp S, 0, 0)) rfl ?_
    exact F
  · have F := F.2 c
    refine ev_bk 1 (S' := (32, [some (.ref a0), some (.ref 9), some (vI x2), none], [.ref 9], hp S, 0, 0)) rfl ?_
    refine mv_gfR rfl rfl (sh_9) (by decide) rfl ?_
    refine ev_bk 1 (S' := (36, [some (.ref a0), some (.ref 9), some (vI x2), none], [vI x2, .ref 2], hp S, 0, 0)) rfl ?_
    obtain ⟨b1, F⟩ := F
    refine mv_ial rfl (sh_2) b1 ?_
    refine mv_gs (k := 8) rfl rfl ?_
    refine ev_bk 1 (S' := (41, [some (.ref a0), some (.ref 9), some (vI x2), none], [vI x2, .ref (en_b + 8), vI (S.1 2 (w32 x2))], hp S, 0, 0)) rfl ?_
    obtain ⟨b2, F⟩ := F
    refine mv_sal (k := 8) rfl rfl (by decide) b2 ?_
    refine mv_icmp 52 rfl rfl (fun c => ?_) (fun c => ?_)
    · have F := F.1 c
      exact F
    · have F := F.2 c
      refine ev_bk 3 (S' := (49, [some (.ref a0), some (.ref 9), some (vI x2), none], [vI 0, vI 110, .ref 9], hp S, 0, 0)) rfl ?_
      obtain ⟨S3, e4, F⟩ := F
      refine mv_calv (as := [vI 110, vI 0]) (rest := []) e4 (sh_9) rfl rfl rfl ⟨rfl, rfl⟩ rfl rfl rfl rfl rfl ?_
      exact F
theorem vc_Shelf_readBench_52 {q : Nat × (Nat → Int32)} {S S' : ms} {r : Option Value} (x2 : Int) (a0 : Nat) (ha0 : isShelf a0)
    (F : EV q 199 23 [some (.ref a0), some (.ref 9), some (vI (x2 + 1)), none] [] S r S') : EV q 199 52 [some (.ref a0), some (.ref 9), some (vI x2), none] [] S r S' := by
  unfold EV
  refine mv_inc (lv' := [some (.ref a0), some (.ref 9), some (vI (x2 + 1)), none]) 2 1 rfl rfl rfl rfl ?_
  refine mv_goto 23 rfl rfl ?_
  exact F
theorem vc_Shelf_readBench_65 {q : Nat × (Nat → Int32)} {S S' : ms} {r : Option Value} (x2 x3 : Int) (a0 : Nat) (ha0 : isShelf a0)
    (F : ((16 < w32 x3) → r = none ∧ S' = S) ∧ ((¬ 16 < w32 x3) → ((¬ w32 (S.1 9 5) = 0) → r = none ∧ S' = S) ∧ ((¬ (¬ w32 (S.1 9 5) = 0)) → ((w32 (S.1 9 2) ≤ w32 x2) → r = none ∧ S' = S) ∧ ((¬ w32 (S.1 9 2) ≤ w32 x2) → ((w32 x2 ≤ w32 ((S.1 9 2) - 60)) → ∃ (z3 : Int) (S1 : ms), EV q 200 0 [some (.ref a0), some (.ref 9), some (vI x2), none, none, none, none, none, none, none] [] S (some (vI z3)) S1 ∧ EV q 199 116 [some (.ref a0), some (.ref 9), some (vI z3), some (vI x3)] [] S1 r S') ∧ ((¬ w32 x2 ≤ w32 ((S.1 9 2) - 60)) → ∃ (S4 : ms), EV q 126 0 [some (.ref 9), some (vI 1), some (vI (S.1 9 2))] [] S none S4 ∧ EV q 199 116 [some (.ref a0), some (.ref 9), some (vI x2), some (vI x3)] [] S4 r S'))))) : EV q 199 65 [some (.ref a0), some (.ref 9), some (vI x2), some (vI x3)] [] S r S' := by
  unfold EV
  refine ev_bk 2 (S' := (68, [some (.ref a0), some (.ref 9), some (vI x2), some (vI x3)], [vI 16, vI x3], hp S, 0, 0)) rfl ?_
  refine mv_icmp 122 rfl rfl (fun c => ?_) (fun c => ?_)
  · have F := F.1 c
    obtain ⟨rfl, rfl⟩ := F
    exact ev_ret rfl rfl
  · have F := F.2 c
    refine ev_bk 1 (S' := (72, [some (.ref a0), some (.ref 9), some (vI x2), some (vI x3)], [.ref 9], hp S, 0, 0)) rfl ?_
    refine mv_gfI rfl rfl (sh_9) (by decide) rfl ?_
    refine mv_if 122 rfl rfl (fun c => ?_) (fun c => ?_)
    · have F := F.1 c
      obtain ⟨rfl, rfl⟩ := F
      exact ev_ret rfl rfl
    · have F := F.2 c
      refine ev_bk 2 (S' := (80, [some (.ref a0), some (.ref 9), some (vI x2), some (vI x3)], [.ref 9, vI x2], hp S, 0, 0)) rfl ?_
      refine mv_gfI rfl rfl (sh_9) (by decide) rfl ?_
      refine mv_icmp 122 rfl rfl (fun c => ?_) (fun c => ?_)
      · have F := F.1 c
        obtain ⟨rfl, rfl⟩ := F
        exact ev_ret rfl rfl
      · have F := F.2 c
        refine ev_bk 2 (S' := (88, [some (.ref a0), some (.ref 9), some (vI x2), some (vI x3)], [.ref 9, vI x2], hp S, 0, 0)) rfl ?_
        refine mv_gfI rfl rfl (sh_9) (by decide) rfl ?_
        refine ev_bk 1 (S' := (93, [some (.ref a0), some (.ref 9), some (vI x2), some (vI x3)], [vI 60, vI (S.1 9 2), vI x2], hp S, 0, 0)) rfl ?_
        refine mv_isub rfl ?_
        refine mv_icmp 109 rfl rfl (fun c => ?_) (fun c => ?_)
        · have F := F.1 c
          refine ev_bk 3 (S' := (112, [some (.ref a0), some (.ref 9), some (vI x2), some (vI x3)], [vI x2, .ref 9, .ref a0], hp S, 0, 0)) rfl ?_
          obtain ⟨z3, S1, e2, F⟩ := F
          refine mv_calv (as := [.ref 9, vI x2]) (rest := []) e2 (ha0.1) rfl rfl rfl ⟨rfl, rfl⟩ rfl rfl rfl rfl rfl ?_
          refine ev_bk 1 (S' := (116, [some (.ref a0), some (.ref 9), some (vI z3), some (vI x3)], [], hp S1, 0, 0)) rfl ?_
          exact F
        · have F := F.2 c
          refine ev_bk 3 (S' := (100, [some (.ref a0), some (.ref 9), some (vI x2), some (vI x3)], [.ref 9, vI 1, .ref 9], hp S, 0, 0)) rfl ?_
          refine mv_gfI rfl rfl (sh_9) (by decide) rfl ?_
          obtain ⟨S4, e5, F⟩ := F
          refine mv_calv (as := [vI 1, vI (S.1 9 2)]) (rest := []) e5 (sh_9) rfl rfl rfl ⟨rfl, rfl⟩ rfl rfl rfl rfl rfl ?_
          refine mv_goto 116 rfl rfl ?_
          exact F
theorem vc_Shelf_readBench_116 {q : Nat × (Nat → Int32)} {S S' : ms} {r : Option Value} (x2 x3 : Int) (a0 : Nat) (ha0 : isShelf a0)
    (F : EV q 199 65 [some (.ref a0), some (.ref 9), some (vI x2), some (vI (x3 + 1))] [] S r S') : EV q 199 116 [some (.ref a0), some (.ref 9), some (vI x2), some (vI x3)] [] S r S' := by
  unfold EV
  refine mv_inc (lv' := [some (.ref a0), some (.ref 9), some (vI x2), some (vI (x3 + 1))]) 3 1 rfl rfl rfl rfl ?_
  refine mv_goto 65 rfl rfl ?_
  exact F
theorem vc_Shelf_readBenchRow {q : Nat × (Nat → Int32)} {S S' : ms} {r : Option Value} (x2 : Int) (a0 : Nat) (ha0 : isShelf a0)
    (F : ∃ (z3 : Int) (S1 : ms), EV q 201 0 [some (.ref 2), some (vI (x2 + 16)), some (vI 12), some (vI 10), none, none, none] [] S (some (vL z3)) S1 ∧ ∃ (z6 : Int) (S4 : ms), EV q 201 0 [some (.ref 2), some (vI (x2 + 40)), some (vI 8), some (vI 8), none, none, none] [] S1 (some (vL z6)) S4 ∧ ∃ (z9 : Int) (S7 : ms), EV q 201 0 [some (.ref 2), some (vI (x2 + 48)), some (vI 10), some (vI 10), none, none, none] [] S4 (some (vL z9)) S7 ∧ (0 ≤ w32 (x2 + 58) ∧ w32 (x2 + 58) < (6000 : Nat)) ∧ ((¬ w32 (S7.1 2 (w32 (x2 + 58))) = 96) → EV q 200 78 [some (.ref a0), some (.ref 9), some (vI x2), some (vL z3), none, some (vL z6), none, some (vL z9), none, none] [] S7 r S') ∧ ((¬ (¬ w32 (S7.1 2 (w32 (x2 + 58))) = 96)) → (0 ≤ w32 (x2 + 59) ∧ w32 (x2 + 59) < (6000 : Nat)) ∧ ((w32 (S7.1 2 (w32 (x2 + 59))) = 10) → EV q 200 85 [some (.ref a0), some (.ref 9), some (vI x2), some (vL z3), none, some (vL z6), none, some (vL z9), none, none] [] S7 r S') ∧ ((¬ w32 (S7.1 2 (w32 (x2 + 59))) = 10) → EV q 200 78 [some (.ref a0), some (.ref 9), some (vI x2), some (vL z3), none, some (vL z6), none, some (vL z9), none, none] [] S7 r S'))) : EV q 200 0 [some (.ref a0), some (.ref 9), some (vI x2), none, none, none, none, none, none, none] [] S r S' := by
  unfold EV
  refine ev_bk 1 (S' := (1, [some (.ref a0), some (.ref 9), some (vI x2), none, none, none, none, none, none, none], [.ref 9], hp S, 0, 0)) rfl ?_
  refine mv_gfR rfl rfl (sh_9) (by decide) rfl ?_
  refine ev_bk 2 (S' := (7, [some (.ref a0), some (.ref 9), some (vI x2), none, none, none, none, none, none, none], [vI 16, vI x2, .ref 2], hp S, 0, 0)) rfl ?_
  refine mv_iadd rfl ?_
  refine ev_bk 2 (S' := (12, [some (.ref a0), some (.ref 9), some (vI x2), none, none, none, none, none, none, none], [vI 10, vI 12, vI (x2 + 16), .ref 2], hp S, 0, 0)) rfl ?_
  obtain ⟨z3, S1, e2, F⟩ := F
  refine mv_cals (as := [.ref 2, vI (x2 + 16), vI 12, vI 10]) (rest := []) e2 rfl rfl rfl ⟨rfl, rfl, rfl⟩ rfl rfl rfl rfl ?_
  refine ev_bk 2 (S' := (17, [some (.ref a0), some (.ref 9), some (vI x2), some (vL z3), none, none, none, none, none, none], [.ref 9], hp S1, 0, 0)) rfl ?_
  refine mv_gfR rfl rfl (sh_9) (by decide) rfl ?_
  refine ev_bk 2 (S' := (23, [some (.ref a0), some (.ref 9), some (vI x2), some (vL z3), none, none, none, none, none, none], [vI 40, vI x2, .ref 2], hp S1, 0, 0)) rfl ?_
  refine mv_iadd rfl ?_
  refine ev_bk 2 (S' := (28, [some (.ref a0), some (.ref 9), some (vI x2), some (vL z3), none, none, none, none, none, none], [vI 8, vI 8, vI (x2 + 40), .ref 2], hp S1, 0, 0)) rfl ?_
  obtain ⟨z6, S4, e5, F⟩ := F
  refine mv_cals (as := [.ref 2, vI (x2 + 40), vI 8, vI 8]) (rest := []) e5 rfl rfl rfl ⟨rfl, rfl, rfl⟩ rfl rfl rfl rfl ?_
  refine ev_bk 2 (S' := (34, [some (.ref a0), some (.ref 9), some (vI x2), some (vL z3), none, some (vL z6), none, none, none, none], [.ref 9], hp S4, 0, 0)) rfl ?_
  refine mv_gfR rfl rfl (sh_9) (by decide) rfl ?_
  refine ev_bk 2 (S' := (40, [some (.ref a0), some (.ref 9), some (vI x2), some (vL z3), none, some (vL z6), none, none, none, none], [vI 48, vI x2, .ref 2], hp S4, 0, 0)) rfl ?_
  refine mv_iadd rfl ?_
  refine ev_bk 2 (S' := (45, [some (.ref a0), some (.ref 9), some (vI x2), some (vL z3), none, some (vL z6), none, none, none, none], [vI 10, vI 10, vI (x2 + 48), .ref 2], hp S4, 0, 0)) rfl ?_
  obtain ⟨z9, S7, e8, F⟩ := F
  refine mv_cals (as := [.ref 2, vI (x2 + 48), vI 10, vI 10]) (rest := []) e8 rfl rfl rfl ⟨rfl, rfl, rfl⟩ rfl rfl rfl rfl ?_
  refine ev_bk 2 (S' := (51, [some (.ref a0), some (.ref 9), some (vI x2), some (vL z3), none, some (vL z6), none, some (vL z9), none, none], [.ref 9], hp S7, 0, 0)) rfl ?_
  refine mv_gfR rfl rfl (sh_9) (by decide) rfl ?_
  refine ev_bk 2 (S' := (57, [some (.ref a0), some (.ref 9), some (vI x2), some (vL z3), none, some (vL z6), none, some (vL z9), none, none], [vI 58, vI x2, .ref 2], hp S7, 0, 0)) rfl ?_
  refine mv_iadd rfl ?_
  obtain ⟨b10, F⟩ := F
  refine mv_ial rfl (sh_2) b10 ?_
  refine ev_bk 1 (S' := (61, [some (.ref a0), some (.ref 9), some (vI x2), some (vL z3), none, some (vL z6), none, some (vL z9), none, none], [vI 96, vI (S7.1 2 (w32 (x2 + 58)))], hp S7, 0, 0)) rfl ?_
  refine mv_icmp 78 rfl rfl (fun c => ?_) (fun c => ?_)
  · have F := F.1 c
    exact F
  · have F := F.2 c
    refine ev_bk 1 (S' := (65, [some (.ref a0), some (.ref 9), some (vI x2), some (vL z3), none, some (vL z6), none, some (vL z9), none, none], [.ref 9], hp S7, 0, 0)) rfl ?_
    refine mv_gfR rfl rfl (sh_9) (by decide) rfl ?_
    refine ev_bk 2 (S' := (71, [some (.ref a0), some (.ref 9), some (vI x2), some (vL z3), none, some (vL z6), none, some (vL z9), none, none], [vI 59, vI x2, .ref 2], hp S7, 0, 0)) rfl ?_
    refine mv_iadd rfl ?_
    obtain ⟨b11, F⟩ := F
    refine mv_ial rfl (sh_2) b11 ?_
    refine ev_bk 1 (S' := (75, [some (.ref a0), some (.ref 9), some (vI x2), some (vL z3), none, some (vL z6), none, some (vL z9), none, none], [vI 10, vI (S7.1 2 (w32 (x2 + 59)))], hp S7, 0, 0)) rfl ?_
    refine mv_icmp 85 rfl rfl (fun c => ?_) (fun c => ?_)
    · have F := F.1 c
      exact F
    · have F := F.2 c
      exact F
theorem vc_Shelf_readBenchRow_78 {q : Nat × (Nat → Int32)} {S S' : ms} {r : Option Value} (x2 x3 x5 x7 : Int) (a0 : Nat) (ha0 : isShelf a0)
    (F : ∃ (S1 : ms), EV q 126 0 [some (.ref 9), some (vI 111), some (vI x2)] [] S none S1 ∧ EV q 200 85 [some (.ref a0), some (.ref 9), some (vI x2), some (vL x3), none, some (vL x5), none, some (vL x7), none, none] [] S1 r S') : EV q 200 78 [some (.ref a0), some (.ref 9), some (vI x2), some (vL x3), none, some (vL x5), none, some (vL x7), none, none] [] S r S' := by
  unfold EV
  refine ev_bk 3 (S' := (82, [some (.ref a0), some (.ref 9), some (vI x2), some (vL x3), none, some (vL x5), none, some (vL x7), none, none], [vI x2, vI 111, .ref 9], hp S, 0, 0)) rfl ?_
  obtain ⟨S1, e2, F⟩ := F
  refine mv_calv (as := [vI 111, vI x2]) (rest := []) e2 (sh_9) rfl rfl rfl ⟨rfl, rfl⟩ rfl rfl rfl rfl rfl ?_
  exact F
theorem vc_Shelf_readBenchRow_85 {q : Nat × (Nat → Int32)} {S S' : ms} {r : Option Value} (x2 x3 x5 x7 : Int) (a0 : Nat) (ha0 : isShelf a0)
    (F : ((w64 x3 < w64 0) → EV q 200 113 [some (.ref a0), some (.ref 9), some (vI x2), some (vL x3), none, some (vL x5), none, some (vL x7), none, none] [] S r S') ∧ ((¬ w64 x3 < w64 0) → ((w64 x5 < w64 0) → EV q 200 113 [some (.ref a0), some (.ref 9), some (vI x2), some (vL x3), none, some (vL x5), none, some (vL x7), none, none] [] S r S') ∧ ((¬ w64 x5 < w64 0) → ((w64 x7 < w64 0) → EV q 200 113 [some (.ref a0), some (.ref 9), some (vI x2), some (vL x3), none, some (vL x5), none, some (vL x7), none, none] [] S r S') ∧ ((¬ w64 x7 < w64 0) → ((w64 x3 ≤ w64 2147483647) → EV q 200 120 [some (.ref a0), some (.ref 9), some (vI x2), some (vL x3), none, some (vL x5), none, some (vL x7), none, none] [] S r S') ∧ ((¬ w64 x3 ≤ w64 2147483647) → EV q 200 113 [some (.ref a0), some (.ref 9), some (vI x2), some (vL x3), none, some (vL x5), none, some (vL x7), none, none] [] S r S'))))) : EV q 200 85 [some (.ref a0), some (.ref 9), some (vI x2), some (vL x3), none, some (vL x5), none, some (vL x7), none, none] [] S r S' := by
  unfold EV
  refine ev_bk 2 (S' := (87, [some (.ref a0), some (.ref 9), some (vI x2), some (vL x3), none, some (vL x5), none, some (vL x7), none, none], [vL 0, vL x3], hp S, 0, 0)) rfl ?_
  refine mv_lif 113 rfl rfl rfl (fun c => ?_) (fun c => ?_)
  · have F := F.1 c
    exact F
  · have F := F.2 c
    refine ev_bk 2 (S' := (94, [some (.ref a0), some (.ref 9), some (vI x2), some (vL x3), none, some (vL x5), none, some (vL x7), none, none], [vL 0, vL x5], hp S, 0, 0)) rfl ?_
    refine mv_lif 113 rfl rfl rfl (fun c => ?_) (fun c => ?_)
    · have F := F.1 c
      exact F
    · have F := F.2 c
      refine ev_bk 2 (S' := (101, [some (.ref a0), some (.ref 9), some (vI x2), some (vL x3), none, some (vL x5), none, some (vL x7), none, none], [vL 0, vL x7], hp S, 0, 0)) rfl ?_
      refine mv_lif 113 rfl rfl rfl (fun c => ?_) (fun c => ?_)
      · have F := F.1 c
        exact F
      · have F := F.2 c
        refine ev_bk 2 (S' := (109, [some (.ref a0), some (.ref 9), some (vI x2), some (vL x3), none, some (vL x5), none, some (vL x7), none, none], [vL 2147483647, vL x3], hp S, 0, 0)) rfl ?_
        refine mv_lif 120 rfl rfl rfl (fun c => ?_) (fun c => ?_)
        · have F := F.1 c
          exact F
        · have F := F.2 c
          exact F
theorem vc_Shelf_readBenchRow_113 {q : Nat × (Nat → Int32)} {S S' : ms} {r : Option Value} (x2 x3 x5 x7 : Int) (a0 : Nat) (ha0 : isShelf a0)
    (F : ∃ (S1 : ms), EV q 126 0 [some (.ref 9), some (vI 112), some (vI x2)] [] S none S1 ∧ EV q 200 120 [some (.ref a0), some (.ref 9), some (vI x2), some (vL x3), none, some (vL x5), none, some (vL x7), none, none] [] S1 r S') : EV q 200 113 [some (.ref a0), some (.ref 9), some (vI x2), some (vL x3), none, some (vL x5), none, some (vL x7), none, none] [] S r S' := by
  unfold EV
  refine ev_bk 3 (S' := (117, [some (.ref a0), some (.ref 9), some (vI x2), some (vL x3), none, some (vL x5), none, some (vL x7), none, none], [vI x2, vI 112, .ref 9], hp S, 0, 0)) rfl ?_
  obtain ⟨S1, e2, F⟩ := F
  refine mv_calv (as := [vI 112, vI x2]) (rest := []) e2 (sh_9) rfl rfl rfl ⟨rfl, rfl⟩ rfl rfl rfl rfl rfl ?_
  exact F
theorem vc_Shelf_readBenchRow_120 {q : Nat × (Nat → Int32)} {S S' : ms} {r : Option Value} (x2 x3 x5 x7 : Int) (a0 : Nat) (ha0 : isShelf a0)
    (F : ∃ (z3 : Int) (S1 : ms), EV q 202 0 [some (.ref a0), some (.ref 2), some (vI x2), none] [] S (some (vI z3)) S1 ∧ ((¬ w32 z3 = 0) → EV q 200 139 [some (.ref a0), some (.ref 9), some (vI x2), some (vL x3), none, some (vL x5), none, some (vL x7), none, none] [] S1 r S') ∧ ((¬ (¬ w32 z3 = 0)) → ∃ (S4 : ms), EV q 126 0 [some (.ref 9), some (vI 103), some (vI x2)] [] S1 none S4 ∧ EV q 200 139 [some (.ref a0), some (.ref 9), some (vI x2), some (vL x3), none, some (vL x5), none, some (vL x7), none, none] [] S4 r S')) : EV q 200 120 [some (.ref a0), some (.ref 9), some (vI x2), some (vL x3), none, some (vL x5), none, some (vL x7), none, none] [] S r S' := by
  unfold EV
  refine ev_bk 2 (S' := (122, [some (.ref a0), some (.ref 9), some (vI x2), some (vL x3), none, some (vL x5), none, some (vL x7), none, none], [.ref 9, .ref a0], hp S, 0, 0)) rfl ?_
  refine mv_gfR rfl rfl (sh_9) (by decide) rfl ?_
  refine ev_bk 1 (S' := (126, [some (.ref a0), some (.ref 9), some (vI x2), some (vL x3), none, some (vL x5), none, some (vL x7), none, none], [vI x2, .ref 2, .ref a0], hp S, 0, 0)) rfl ?_
  obtain ⟨z3, S1, e2, F⟩ := F
  refine mv_calv (as := [.ref 2, vI x2]) (rest := []) e2 (ha0.1) rfl rfl rfl ⟨rfl, rfl⟩ rfl rfl rfl rfl rfl ?_
  refine mv_if 139 rfl rfl (fun c => ?_) (fun c => ?_)
  · have F := F.1 c
    exact F
  · have F := F.2 c
    refine ev_bk 3 (S' := (136, [some (.ref a0), some (.ref 9), some (vI x2), some (vL x3), none, some (vL x5), none, some (vL x7), none, none], [vI x2, vI 103, .ref 9], hp S1, 0, 0)) rfl ?_
    obtain ⟨S4, e5, F⟩ := F
    refine mv_calv (as := [vI 103, vI x2]) (rest := []) e5 (sh_9) rfl rfl rfl ⟨rfl, rfl⟩ rfl rfl rfl rfl rfl ?_
    exact F
theorem vc_Shelf_readBenchRow_139 {q : Nat × (Nat → Int32)} {S S' : ms} {r : Option Value} (x2 x3 x5 x7 : Int) (a0 : Nat) (ha0 : isShelf a0)
    (F : ((16 ≤ w32 (S.1 a0 4)) → EV q 200 157 [some (.ref a0), some (.ref 9), some (vI x2), some (vL x3), none, some (vL x5), none, some (vL x7), none, none] [] S r S') ∧ ((¬ 16 ≤ w32 (S.1 a0 4)) → ((w64 x7 ≤ w64 6000) → EV q 200 164 [some (.ref a0), some (.ref 9), some (vI x2), some (vL x3), none, some (vL x5), none, some (vL x7), none, none] [] S r S') ∧ ((¬ w64 x7 ≤ w64 6000) → EV q 200 157 [some (.ref a0), some (.ref 9), some (vI x2), some (vL x3), none, some (vL x5), none, some (vL x7), none, none] [] S r S'))) : EV q 200 139 [some (.ref a0), some (.ref 9), some (vI x2), some (vL x3), none, some (vL x5), none, some (vL x7), none, none] [] S r S' := by
  unfold EV
  refine ev_bk 1 (S' := (140, [some (.ref a0), some (.ref 9), some (vI x2), some (vL x3), none, some (vL x5), none, some (vL x7), none, none], [.ref a0], hp S, 0, 0)) rfl ?_
  refine mv_gfI rfl rfl (ha0.1) (by decide) rfl ?_
  refine ev_bk 1 (S' := (145, [some (.ref a0), some (.ref 9), some (vI x2), some (vL x3), none, some (vL x5), none, some (vL x7), none, none], [vI 16, vI (S.1 a0 4)], hp S, 0, 0)) rfl ?_
  refine mv_icmp 157 rfl rfl (fun c => ?_) (fun c => ?_)
  · have F := F.1 c
    exact F
  · have F := F.2 c
    refine ev_bk 2 (S' := (153, [some (.ref a0), some (.ref 9), some (vI x2), some (vL x3), none, some (vL x5), none, some (vL x7), none, none], [vL 6000, vL x7], hp S, 0, 0)) rfl ?_
    refine mv_lif 164 rfl rfl rfl (fun c => ?_) (fun c => ?_)
    · have F := F.1 c
      exact F
    · have F := F.2 c
      exact F
theorem vc_Shelf_readBenchRow_157 {q : Nat × (Nat → Int32)} {S S' : ms} {r : Option Value} (x2 x3 x5 x7 : Int) (a0 : Nat) (ha0 : isShelf a0)
    (F : ∃ (S1 : ms), EV q 126 0 [some (.ref 9), some (vI 104), some (vI x2)] [] S none S1 ∧ EV q 200 164 [some (.ref a0), some (.ref 9), some (vI x2), some (vL x3), none, some (vL x5), none, some (vL x7), none, none] [] S1 r S') : EV q 200 157 [some (.ref a0), some (.ref 9), some (vI x2), some (vL x3), none, some (vL x5), none, some (vL x7), none, none] [] S r S' := by
  unfold EV
  refine ev_bk 3 (S' := (161, [some (.ref a0), some (.ref 9), some (vI x2), some (vL x3), none, some (vL x5), none, some (vL x7), none, none], [vI x2, vI 104, .ref 9], hp S, 0, 0)) rfl ?_
  obtain ⟨S1, e2, F⟩ := F
  refine mv_calv (as := [vI 104, vI x2]) (rest := []) e2 (sh_9) rfl rfl rfl ⟨rfl, rfl⟩ rfl rfl rfl rfl rfl ?_
  exact F
theorem vc_Shelf_readBenchRow_164 {q : Nat × (Nat → Int32)} {S S' : ms} {r : Option Value} (x2 x3 x5 x7 : Int) (a0 : Nat) (ha0 : isShelf a0)
    (F : ((w64 x7 ≤ w64 (w32 ((S.1 9 2) - (x2 + 60)))) → EV q 200 193 [some (.ref a0), some (.ref 9), some (vI x2), some (vL x3), none, some (vL x5), none, some (vL x7), none, some (vI (x2 + 60))] [] S r S') ∧ ((¬ w64 x7 ≤ w64 (w32 ((S.1 9 2) - (x2 + 60)))) → ∃ (S1 : ms), EV q 126 0 [some (.ref 9), some (vI 1), some (vI (S.1 9 2))] [] S none S1 ∧ EV q 200 193 [some (.ref a0), some (.ref 9), some (vI x2), some (vL x3), none, some (vL x5), none, some (vL x7), none, some (vI (x2 + 60))] [] S1 r S')) : EV q 200 164 [some (.ref a0), some (.ref 9), some (vI x2), some (vL x3), none, some (vL x5), none, some (vL x7), none, none] [] S r S' := by
  unfold EV
  refine ev_bk 2 (S' := (167, [some (.ref a0), some (.ref 9), some (vI x2), some (vL x3), none, some (vL x5), none, some (vL x7), none, none], [vI 60, vI x2], hp S, 0, 0)) rfl ?_
  refine mv_iadd rfl ?_
  refine ev_bk 3 (S' := (173, [some (.ref a0), some (.ref 9), some (vI x2), some (vL x3), none, some (vL x5), none, some (vL x7), none, some (vI (x2 + 60))], [.ref 9, vL x7], hp S, 0, 0)) rfl ?_
  refine mv_gfI rfl rfl (sh_9) (by decide) rfl ?_
  refine ev_bk 1 (S' := (178, [some (.ref a0), some (.ref 9), some (vI x2), some (vL x3), none, some (vL x5), none, some (vL x7), none, some (vI (x2 + 60))], [vI (x2 + 60), vI (S.1 9 2), vL x7], hp S, 0, 0)) rfl ?_
  refine mv_isub rfl ?_
  refine mv_i2l rfl ?_
  refine mv_lif 193 rfl rfl rfl (fun c => ?_) (fun c => ?_)
  · have F := F.1 c
    exact F
  · have F := F.2 c
    refine ev_bk 3 (S' := (187, [some (.ref a0), some (.ref 9), some (vI x2), some (vL x3), none, some (vL x5), none, some (vL x7), none, some (vI (x2 + 60))], [.ref 9, vI 1, .ref 9], hp S, 0, 0)) rfl ?_
    refine mv_gfI rfl rfl (sh_9) (by decide) rfl ?_
    obtain ⟨S1, e2, F⟩ := F
    refine mv_calv (as := [vI 1, vI (S.1 9 2)]) (rest := []) e2 (sh_9) rfl rfl rfl ⟨rfl, rfl⟩ rfl rfl rfl rfl rfl ?_
    exact F
theorem vc_Shelf_readBenchRow_193 {q : Nat × (Nat → Int32)} {S S' : ms} {r : Option Value} (x2 x3 x5 x7 x9 : Int) (a0 : Nat) (ha0 : isShelf a0)
    (F : ((¬ w32 (S.1 9 5) = 0) → r = some (vI x9) ∧ S' = S) ∧ ((¬ (¬ w32 (S.1 9 5) = 0)) → ∃ (S1 : ms), EV q 180 0 [some (.ref a0), some (.ref (a0 + 5)), some (vI (x5 % 512)), some (vI x3), some (.ref 2), some (vI x9), some (vI x7)] [] S none S1 ∧ r = some (vI (x9 + ((Int.tdiv (w32 (x7 + 1)) (w32 2)) * 2))) ∧ S' = S1)) : EV q 200 193 [some (.ref a0), some (.ref 9), some (vI x2), some (vL x3), none, some (vL x5), none, some (vL x7), none, some (vI x9)] [] S r S' := by
  unfold EV
  refine ev_bk 1 (S' := (194, [some (.ref a0), some (.ref 9), some (vI x2), some (vL x3), none, some (vL x5), none, some (vL x7), none, some (vI x9)], [.ref 9], hp S, 0, 0)) rfl ?_
  refine mv_gfI rfl rfl (sh_9) (by decide) rfl ?_
  refine mv_if 240 rfl rfl (fun c => ?_) (fun c => ?_)
  · have F := F.1 c
    refine ev_bk 1 (S' := (242, [some (.ref a0), some (.ref 9), some (vI x2), some (vL x3), none, some (vL x5), none, some (vL x7), none, some (vI x9)], [vI x9], hp S, 0, 0)) rfl ?_
    obtain ⟨rfl, rfl⟩ := F
    exact ev_ret rfl rfl
  · have F := F.2 c
    refine ev_bk 2 (S' := (202, [some (.ref a0), some (.ref 9), some (vI x2), some (vL x3), none, some (vL x5), none, some (vL x7), none, some (vI x9)], [.ref a0, .ref a0], hp S, 0, 0)) rfl ?_
    refine mv_gfR rfl rfl (ha0.1) (by decide) rfl ?_
    refine ev_bk 1 (S' := (207, [some (.ref a0), some (.ref 9), some (vI x2), some (vL x3), none, some (vL x5), none, some (vL x7), none, some (vI x9)], [vL x5, .ref (a0 + 5), .ref a0], hp S, 0, 0)) rfl ?_
    refine mv_l2i rfl ?_
    refine ev_bk 1 (S' := (211, [some (.ref a0), some (.ref 9), some (vI x2), some (vL x3), none, some (vL x5), none, some (vL x7), none, some (vI x9)], [vI 511, vI x5, .ref (a0 + 5), .ref a0], hp S, 0, 0)) rfl ?_
    refine mv_iandm 512 9 (by decide) rfl rfl rfl ?_
    refine ev_bk 1 (S' := (213, [some (.ref a0), some (.ref 9), some (vI x2), some (vL x3), none, some (vL x5), none, some (vL x7), none, some (vI x9)], [vL x3, vI (x5 % 512), .ref (a0 + 5), .ref a0], hp S, 0, 0)) rfl ?_
    refine mv_l2i rfl ?_
    refine ev_bk 1 (S' := (215, [some (.ref a0), some (.ref 9), some (vI x2), some (vL x3), none, some (vL x5), none, some (vL x7), none, some (vI x9)], [.ref 9, vI x3, vI (x5 % 512), .ref (a0 + 5), .ref a0], hp S, 0, 0)) rfl ?_
    refine mv_gfR rfl rfl (sh_9) (by decide) rfl ?_
    refine ev_bk 2 (S' := (222, [some (.ref a0), some (.ref 9), some (vI x2), some (vL x3), none, some (vL x5), none, some (vL x7), none, some (vI x9)], [vL x7, vI x9, .ref 2, vI x3, vI (x5 % 512), .ref (a0 + 5), .ref a0], hp S, 0, 0)) rfl ?_
    refine mv_l2i rfl ?_
    obtain ⟨S1, e2, F⟩ := F
    refine mv_calv (as := [.ref (a0 + 5), vI (x5 % 512), vI x3, .ref 2, vI x9, vI x7]) (rest := []) e2 (ha0.1) rfl rfl rfl ⟨rfl, rfl⟩ rfl rfl rfl rfl rfl ?_
    refine ev_bk 2 (S' := (230, [some (.ref a0), some (.ref 9), some (vI x2), some (vL x3), none, some (vL x5), none, some (vL x7), none, some (vI x9)], [vL x7, vI x9], hp S1, 0, 0)) rfl ?_
    refine mv_l2i rfl ?_
    refine ev_bk 1 (S' := (232, [some (.ref a0), some (.ref 9), some (vI x2), some (vL x3), none, some (vL x5), none, some (vL x7), none, some (vI x9)], [vI 1, vI x7, vI x9], hp S1, 0, 0)) rfl ?_
    refine mv_iadd rfl ?_
    refine ev_bk 1 (S' := (234, [some (.ref a0), some (.ref 9), some (vI x2), some (vL x3), none, some (vL x5), none, some (vL x7), none, some (vI x9)], [vI 2, vI (x7 + 1), vI x9], hp S1, 0, 0)) rfl ?_
    refine mv_idiv (by decide) rfl ?_
    refine ev_bk 1 (S' := (236, [some (.ref a0), some (.ref 9), some (vI x2), some (vL x3), none, some (vL x5), none, some (vL x7), none, some (vI x9)], [vI 2, vI (Int.tdiv (w32 (x7 + 1)) (w32 2)), vI x9], hp S1, 0, 0)) rfl ?_
    refine mv_imul rfl ?_
    refine mv_iadd rfl ?_
    refine ev_bk 2 (S' := (242, [some (.ref a0), some (.ref 9), some (vI x2), some (vL x3), none, some (vL x5), none, some (vL x7), none, some (vI (x9 + ((Int.tdiv (w32 (x7 + 1)) (w32 2)) * 2)))], [vI (x9 + ((Int.tdiv (w32 (x7 + 1)) (w32 2)) * 2))], hp S1, 0, 0)) rfl ?_
    obtain ⟨rfl, rfl⟩ := F
    exact ev_ret rfl rfl
theorem vc_Shelf_figures {q : Nat × (Nat → Int32)} {S S' : ms} {r : Option Value} (x1 x2 x3 : Int) (a0 na0 : Nat) (ha0 : SH a0 = (0, na0, []))
    (F : EV q 201 8 [some (.ref a0), some (vI x1), some (vI x2), some (vI x3), some (vL ((-1))), none, some (vI 0)] [] S r S') : EV q 201 0 [some (.ref a0), some (vI x1), some (vI x2), some (vI x3), none, none, none] [] S r S' := by
  unfold EV
  refine ev_bk 4 (S' := (8, [some (.ref a0), some (vI x1), some (vI x2), some (vI x3), some (vL ((-1))), none, some (vI 0)], [], hp S, 0, 0)) rfl ?_
  exact F
theorem vc_Shelf_figures_8 {q : Nat × (Nat → Int32)} {S S' : ms} {r : Option Value} (x1 x2 x3 x4 x6 : Int) (a0 na0 : Nat) (ha0 : SH a0 = (0, na0, []))
    (F : ((w32 x2 ≤ w32 x6) → EV q 201 67 [some (.ref a0), some (vI x1), some (vI x2), some (vI x3), some (vL x4), none, some (vI x6)] [] S r S') ∧ ((¬ w32 x2 ≤ w32 x6) → (0 ≤ w32 (x1 + x6) ∧ w32 (x1 + x6) < (na0 : Nat)) ∧ ((w32 (S.1 a0 (w32 (x1 + x6))) < 48) → EV q 201 67 [some (.ref a0), some (vI x1), some (vI x2), some (vI x3), some (vL x4), none, some (vI x6)] [] S r S') ∧ ((¬ w32 (S.1 a0 (w32 (x1 + x6))) < 48) → (0 ≤ w32 (x1 + x6) ∧ w32 (x1 + x6) < (na0 : Nat)) ∧ ((w32 (48 + x3) ≤ w32 (S.1 a0 (w32 (x1 + x6)))) → EV q 201 67 [some (.ref a0), some (vI x1), some (vI x2), some (vI x3), some (vL x4), none, some (vI x6)] [] S r S') ∧ ((¬ w32 (48 + x3) ≤ w32 (S.1 a0 (w32 (x1 + x6)))) → (0 ≤ w32 (x1 + x6) ∧ w32 (x1 + x6) < (na0 : Nat)) ∧ EV q 201 8 [some (.ref a0), some (vI x1), some (vI x2), some (vI x3), some (vL ((((max (w64 x4) (w64 0)) * (w32 x3)) + (w32 (S.1 a0 (w32 (x1 + x6))))) - 48)), none, some (vI (x6 + 1))] [] S r S')))) : EV q 201 8 [some (.ref a0), some (vI x1), some (vI x2), some (vI x3), some (vL x4), none, some (vI x6)] [] S r S' := by
  unfold EV
  refine ev_bk 2 (S' := (11, [some (.ref a0), some (vI x1), some (vI x2), some (vI x3), some (vL x4), none, some (vI x6)], [vI x2, vI x6], hp S, 0, 0)) rfl ?_
  refine mv_icmp 67 rfl rfl (fun c => ?_) (fun c => ?_)
  · have F := F.1 c
    exact F
  · have F := F.2 c
    refine ev_bk 3 (S' := (18, [some (.ref a0), some (vI x1), some (vI x2), some (vI x3), some (vL x4), none, some (vI x6)], [vI x6, vI x1, .ref a0], hp S, 0, 0)) rfl ?_
    refine mv_iadd rfl ?_
    obtain ⟨b1, F⟩ := F
    refine mv_ial rfl (ha0) b1 ?_
    refine ev_bk 1 (S' := (22, [some (.ref a0), some (vI x1), some (vI x2), some (vI x3), some (vL x4), none, some (vI x6)], [vI 48, vI (S.1 a0 (w32 (x1 + x6)))], hp S, 0, 0)) rfl ?_
    refine mv_icmp 67 rfl rfl (fun c => ?_) (fun c => ?_)
    · have F := F.1 c
      exact F
    · have F := F.2 c
      refine ev_bk 3 (S' := (29, [some (.ref a0), some (vI x1), some (vI x2), some (vI x3), some (vL x4), none, some (vI x6)], [vI x6, vI x1, .ref a0], hp S, 0, 0)) rfl ?_
      refine mv_iadd rfl ?_
      obtain ⟨b2, F⟩ := F
      refine mv_ial rfl (ha0) b2 ?_
      refine ev_bk 2 (S' := (34, [some (.ref a0), some (vI x1), some (vI x2), some (vI x3), some (vL x4), none, some (vI x6)], [vI x3, vI 48, vI (S.1 a0 (w32 (x1 + x6)))], hp S, 0, 0)) rfl ?_
      refine mv_iadd rfl ?_
      refine mv_icmp 67 rfl rfl (fun c => ?_) (fun c => ?_)
      · have F := F.1 c
        exact F
      · have F := F.2 c
        refine ev_bk 2 (S' := (41, [some (.ref a0), some (vI x1), some (vI x2), some (vI x3), some (vL x4), none, some (vI x6)], [vL 0, vL x4], hp S, 0, 0)) rfl ?_
        refine mv_lmax rfl rfl rfl ?_
        refine ev_bk 1 (S' := (45, [some (.ref a0), some (vI x1), some (vI x2), some (vI x3), some (vL x4), none, some (vI x6)], [vI x3, vL (max (w64 x4) (w64 0))], hp S, 0, 0)) rfl ?_
        refine mv_i2l rfl ?_
        refine mv_lmul rfl ?_
        refine ev_bk 3 (S' := (51, [some (.ref a0), some (vI x1), some (vI x2), some (vI x3), some (vL x4), none, some (vI x6)], [vI x6, vI x1, .ref a0, vL ((max (w64 x4) (w64 0)) * (w32 x3))], hp S, 0, 0)) rfl ?_
        refine mv_iadd rfl ?_
        obtain ⟨b3, F⟩ := F
        refine mv_ial rfl (ha0) b3 ?_
        refine mv_i2l rfl ?_
        refine mv_ladd rfl ?_
        refine ev_bk 1 (S' := (58, [some (.ref a0), some (vI x1), some (vI x2), some (vI x3), some (vL x4), none, some (vI x6)], [vL 48, vL (((max (w64 x4) (w64 0)) * (w32 x3)) + (w32 (S.1 a0 (w32 (x1 + x6)))))], hp S, 0, 0)) rfl ?_
        refine mv_lsub rfl ?_
        refine ev_bk 1 (S' := (61, [some (.ref a0), some (vI x1), some (vI x2), some (vI x3), some (vL ((((max (w64 x4) (w64 0)) * (w32 x3)) + (w32 (S.1 a0 (w32 (x1 + x6))))) - 48)), none, some (vI x6)], [], hp S, 0, 0)) rfl ?_
        refine mv_inc (lv' := [some (.ref a0), some (vI x1), some (vI x2), some (vI x3), some (vL ((((max (w64 x4) (w64 0)) * (w32 x3)) + (w32 (S.1 a0 (w32 (x1 + x6))))) - 48)), none, some (vI (x6 + 1))]) 6 1 rfl rfl rfl rfl ?_
        refine mv_goto 8 rfl rfl ?_
        exact F
theorem vc_Shelf_figures_67 {q : Nat × (Nat → Int32)} {S S' : ms} {r : Option Value} (x1 x2 x3 x4 x6 : Int) (a0 na0 : Nat) (ha0 : SH a0 = (0, na0, []))
    (F : ((w32 x2 ≤ w32 x6) → EV q 201 90 [some (.ref a0), some (vI x1), some (vI x2), some (vI x3), some (vL x4), none, some (vI x6)] [] S r S') ∧ ((¬ w32 x2 ≤ w32 x6) → (0 ≤ w32 (x1 + x6) ∧ w32 (x1 + x6) < (na0 : Nat)) ∧ ((¬ w32 (S.1 a0 (w32 (x1 + x6))) = 32) → EV q 201 90 [some (.ref a0), some (vI x1), some (vI x2), some (vI x3), some (vL x4), none, some (vI x6)] [] S r S') ∧ ((¬ (¬ w32 (S.1 a0 (w32 (x1 + x6))) = 32)) → EV q 201 67 [some (.ref a0), some (vI x1), some (vI x2), some (vI x3), some (vL x4), none, some (vI (x6 + 1))] [] S r S'))) : EV q 201 67 [some (.ref a0), some (vI x1), some (vI x2), some (vI x3), some (vL x4), none, some (vI x6)] [] S r S' := by
  unfold EV
  refine ev_bk 2 (S' := (70, [some (.ref a0), some (vI x1), some (vI x2), some (vI x3), some (vL x4), none, some (vI x6)], [vI x2, vI x6], hp S, 0, 0)) rfl ?_
  refine mv_icmp 90 rfl rfl (fun c => ?_) (fun c => ?_)
  · have F := F.1 c
    exact F
  · have F := F.2 c
    refine ev_bk 3 (S' := (77, [some (.ref a0), some (vI x1), some (vI x2), some (vI x3), some (vL x4), none, some (vI x6)], [vI x6, vI x1, .ref a0], hp S, 0, 0)) rfl ?_
    refine mv_iadd rfl ?_
    obtain ⟨b1, F⟩ := F
    refine mv_ial rfl (ha0) b1 ?_
    refine ev_bk 1 (S' := (81, [some (.ref a0), some (vI x1), some (vI x2), some (vI x3), some (vL x4), none, some (vI x6)], [vI 32, vI (S.1 a0 (w32 (x1 + x6)))], hp S, 0, 0)) rfl ?_
    refine mv_icmp 90 rfl rfl (fun c => ?_) (fun c => ?_)
    · have F := F.1 c
      exact F
    · have F := F.2 c
      refine mv_inc (lv' := [some (.ref a0), some (vI x1), some (vI x2), some (vI x3), some (vL x4), none, some (vI (x6 + 1))]) 6 1 rfl rfl rfl rfl ?_
      refine mv_goto 67 rfl rfl ?_
      exact F
theorem vc_Shelf_figures_90 {q : Nat × (Nat → Int32)} {S S' : ms} {r : Option Value} (x1 x2 x3 x4 x6 : Int) (a0 na0 : Nat) (ha0 : SH a0 = (0, na0, []))
    (F : ((¬ w32 x6 = w32 x2) → r = some (vL ((-1))) ∧ S' = S) ∧ ((¬ (¬ w32 x6 = w32 x2)) → r = some (vL x4) ∧ S' = S)) : EV q 201 90 [some (.ref a0), some (vI x1), some (vI x2), some (vI x3), some (vL x4), none, some (vI x6)] [] S r S' := by
  unfold EV
  refine ev_bk 2 (S' := (93, [some (.ref a0), some (vI x1), some (vI x2), some (vI x3), some (vL x4), none, some (vI x6)], [vI x2, vI x6], hp S, 0, 0)) rfl ?_
  refine mv_icmp 101 rfl rfl (fun c => ?_) (fun c => ?_)
  · have F := F.1 c
    refine ev_bk 1 (S' := (104, [some (.ref a0), some (vI x1), some (vI x2), some (vI x3), some (vL x4), none, some (vI x6)], [vL ((-1))], hp S, 0, 0)) rfl ?_
    obtain ⟨rfl, rfl⟩ := F
    exact ev_ret rfl rfl
  · have F := F.2 c
    refine ev_bk 1 (S' := (98, [some (.ref a0), some (vI x1), some (vI x2), some (vI x3), some (vL x4), none, some (vI x6)], [vL x4], hp S, 0, 0)) rfl ?_
    refine mv_goto 104 rfl rfl ?_
    obtain ⟨rfl, rfl⟩ := F
    exact ev_ret rfl rfl
theorem vc_Shelf_benchLabel {q : Nat × (Nat → Int32)} {S S' : ms} {r : Option Value} (x2 : Int) (a0 : Nat) (ha0 : isShelf a0) (a1 na1 : Nat) (ha1 : SH a1 = (0, na1, []))
    (F : ∃ (S1 : ms), EV q 37 0 [some (.ref (a0 + 5))] [] S none S1 ∧ EV q 202 9 [some (.ref a0), some (.ref a1), some (vI x2), some (vI 0)] [] S1 r S') : EV q 202 0 [some (.ref a0), some (.ref a1), some (vI x2), none] [] S r S' := by
  unfold EV
  refine ev_bk 1 (S' := (1, [some (.ref a0), some (.ref a1), some (vI x2), none], [.ref a0], hp S, 0, 0)) rfl ?_
  refine mv_gfR rfl rfl (ha0.1) (by decide) rfl ?_
  obtain ⟨S1, e2, F⟩ := F
  refine mv_calv (as := []) (rest := []) e2 (ha0.2.2.2.2.2.1) rfl rfl rfl ⟨rfl, rfl⟩ rfl rfl rfl rfl rfl ?_
  refine ev_bk 2 (S' := (9, [some (.ref a0), some (.ref a1), some (vI x2), some (vI 0)], [], hp S1, 0, 0)) rfl ?_
  exact F
theorem vc_Shelf_benchLabel_9 {q : Nat × (Nat → Int32)} {S S' : ms} {r : Option Value} (x2 x3 : Int) (a0 : Nat) (ha0 : isShelf a0) (a1 na1 : Nat) (ha1 : SH a1 = (0, na1, []))
    (F : ((16 ≤ w32 x3) → EV q 202 53 [some (.ref a0), some (.ref a1), some (vI x2), some (vI x3)] [] S r S') ∧ ((¬ 16 ≤ w32 x3) → (0 ≤ w32 (x2 + x3) ∧ w32 (x2 + x3) < (na1 : Nat)) ∧ ((w32 (S.1 a1 (w32 (x2 + x3))) = 47) → EV q 202 53 [some (.ref a0), some (.ref a1), some (vI x2), some (vI x3)] [] S r S') ∧ ((¬ w32 (S.1 a1 (w32 (x2 + x3))) = 47) → (0 ≤ w32 (x2 + x3) ∧ w32 (x2 + x3) < (na1 : Nat)) ∧ ((¬ w32 (S.1 a1 (w32 (x2 + x3))) = 0) → (0 ≤ w32 (x2 + x3) ∧ w32 (x2 + x3) < (na1 : Nat)) ∧ ∃ (S4 : ms), EV q 19 0 [some (.ref (a0 + 5)), some (vI (S.1 a1 (w32 (x2 + x3))))] [] S none S4 ∧ EV q 202 9 [some (.ref a0), some (.ref a1), some (vI x2), some (vI (x3 + 1))] [] S4 r S') ∧ ((¬ (¬ w32 (S.1 a1 (w32 (x2 + x3))) = 0)) → r = some (vI 0) ∧ S' = S)))) : EV q 202 9 [some (.ref a0), some (.ref a1), some (vI x2), some (vI x3)] [] S r S' := by
  unfold EV
  refine ev_bk 2 (S' := (12, [some (.ref a0), some (.ref a1), some (vI x2), some (vI x3)], [vI 16, vI x3], hp S, 0, 0)) rfl ?_
  refine mv_icmp 53 rfl rfl (fun c => ?_) (fun c => ?_)
  · have F := F.1 c
    exact F
  · have F := F.2 c
    refine ev_bk 3 (S' := (18, [some (.ref a0), some (.ref a1), some (vI x2), some (vI x3)], [vI x3, vI x2, .ref a1], hp S, 0, 0)) rfl ?_
    refine mv_iadd rfl ?_
    obtain ⟨b1, F⟩ := F
    refine mv_ial rfl (ha1) b1 ?_
    refine ev_bk 1 (S' := (22, [some (.ref a0), some (.ref a1), some (vI x2), some (vI x3)], [vI 47, vI (S.1 a1 (w32 (x2 + x3)))], hp S, 0, 0)) rfl ?_
    refine mv_icmp 53 rfl rfl (fun c => ?_) (fun c => ?_)
    · have F := F.1 c
      exact F
    · have F := F.2 c
      refine ev_bk 3 (S' := (28, [some (.ref a0), some (.ref a1), some (vI x2), some (vI x3)], [vI x3, vI x2, .ref a1], hp S, 0, 0)) rfl ?_
      refine mv_iadd rfl ?_
      obtain ⟨b2, F⟩ := F
      refine mv_ial rfl (ha1) b2 ?_
      refine mv_if 35 rfl rfl (fun c => ?_) (fun c => ?_)
      · have F := F.1 c
        refine ev_bk 1 (S' := (36, [some (.ref a0), some (.ref a1), some (vI x2), some (vI x3)], [.ref a0], hp S, 0, 0)) rfl ?_
        refine mv_gfR rfl rfl (ha0.1) (by decide) rfl ?_
        refine ev_bk 3 (S' := (42, [some (.ref a0), some (.ref a1), some (vI x2), some (vI x3)], [vI x3, vI x2, .ref a1, .ref (a0 + 5)], hp S, 0, 0)) rfl ?_
        refine mv_iadd rfl ?_
        obtain ⟨b3, F⟩ := F
        refine mv_ial rfl (ha1) b3 ?_
        obtain ⟨S4, e5, F⟩ := F
        refine mv_calv (as := [vI (S.1 a1 (w32 (x2 + x3)))]) (rest := []) e5 (ha0.2.2.2.2.2.1) rfl rfl rfl ⟨rfl, rfl⟩ rfl rfl rfl rfl rfl ?_
        refine mv_inc (lv' := [some (.ref a0), some (.ref a1), some (vI x2), some (vI (x3 + 1))]) 3 1 rfl rfl rfl rfl ?_
        refine mv_goto 9 rfl rfl ?_
        exact F
      · have F := F.2 c
        refine ev_bk 1 (S' := (34, [some (.ref a0), some (.ref a1), some (vI x2), some (vI x3)], [vI 0], hp S, 0, 0)) rfl ?_
        obtain ⟨rfl, rfl⟩ := F
        exact ev_ret rfl rfl
theorem vc_Shelf_benchLabel_53 {q : Nat × (Nat → Int32)} {S S' : ms} {r : Option Value} (x2 x3 : Int) (a0 : Nat) (ha0 : isShelf a0) (a1 na1 : Nat) (ha1 : SH a1 = (0, na1, []))
    (F : ((w32 x3 ≤ 0) → r = some (vI 0) ∧ S' = S) ∧ ((¬ w32 x3 ≤ 0) → ((16 ≤ w32 x3) → r = some (vI 0) ∧ S' = S) ∧ ((¬ 16 ≤ w32 x3) → r = some (vI 1) ∧ S' = S))) : EV q 202 53 [some (.ref a0), some (.ref a1), some (vI x2), some (vI x3)] [] S r S' := by
  unfold EV
  refine ev_bk 1 (S' := (54, [some (.ref a0), some (.ref a1), some (vI x2), some (vI x3)], [vI x3], hp S, 0, 0)) rfl ?_
  refine mv_if 67 rfl rfl (fun c => ?_) (fun c => ?_)
  · have F := F.1 c
    refine ev_bk 1 (S' := (68, [some (.ref a0), some (.ref a1), some (vI x2), some (vI x3)], [vI 0], hp S, 0, 0)) rfl ?_
    obtain ⟨rfl, rfl⟩ := F
    exact ev_ret rfl rfl
  · have F := F.2 c
    refine ev_bk 2 (S' := (60, [some (.ref a0), some (.ref a1), some (vI x2), some (vI x3)], [vI 16, vI x3], hp S, 0, 0)) rfl ?_
    refine mv_icmp 67 rfl rfl (fun c => ?_) (fun c => ?_)
    · have F := F.1 c
      refine ev_bk 1 (S' := (68, [some (.ref a0), some (.ref a1), some (vI x2), some (vI x3)], [vI 0], hp S, 0, 0)) rfl ?_
      obtain ⟨rfl, rfl⟩ := F
      exact ev_ret rfl rfl
    · have F := F.2 c
      refine ev_bk 1 (S' := (64, [some (.ref a0), some (.ref a1), some (vI x2), some (vI x3)], [vI 1], hp S, 0, 0)) rfl ?_
      refine mv_goto 68 rfl rfl ?_
      obtain ⟨rfl, rfl⟩ := F
      exact ev_ret rfl rfl
theorem vc_Shelf_readBox {q : Nat × (Nat → Int32)} {S S' : ms} {r : Option Value} (a0 : Nat) (ha0 : isShelf a0)
    (F : ∃ (S1 : ms), EV q 204 0 [some (.ref 9), some (vI (max (w32 0) (w32 ((S.1 9 2) - 22)))), none] [] S none S1 ∧ ((w32 (S1.1 9 5) = 0) → ∃ (z5 : Int) (S3 : ms), EV q 155 0 [some (.ref 2), some (vI ((max (w32 0) (w32 ((S.1 9 2) - 22))) + 8)), some (vI 2), none, none, none] [] S1 (some (vL z5)) S3 ∧ ∃ (z8 : Int) (S6 : ms), EV q 155 0 [some (.ref 2), some (vI ((max (w32 0) (w32 ((S.1 9 2) - 22))) + 16)), some (vI 4), none, none, none] [] S3 (some (vL z8)) S6 ∧ EV q 203 61 [some (.ref a0), some (.ref 9), some (.ref 2), some (vI (max (w32 0) (w32 ((S.1 9 2) - 22)))), some (vI z5), some (vI z8), some (vI z8), some (vI 0)] [] S6 r S') ∧ ((¬ w32 (S1.1 9 5) = 0) → r = none ∧ S' = S1)) : EV q 203 0 [some (.ref a0), some (.ref 9), none, none, none, none, none, none] [] S r S' := by
  unfold EV
  refine ev_bk 1 (S' := (1, [some (.ref a0), some (.ref 9), none, none, none, none, none, none], [.ref 9], hp S, 0, 0)) rfl ?_
  refine mv_gfR rfl rfl (sh_9) (by decide) rfl ?_
  refine ev_bk 3 (S' := (7, [some (.ref a0), some (.ref 9), some (.ref 2), none, none, none, none, none], [.ref 9, vI 0], hp S, 0, 0)) rfl ?_
  refine mv_gfI rfl rfl (sh_9) (by decide) rfl ?_
  refine ev_bk 1 (S' := (12, [some (.ref a0), some (.ref 9), some (.ref 2), none, none, none, none, none], [vI 22, vI (S.1 9 2), vI 0], hp S, 0, 0)) rfl ?_
  refine mv_isub rfl ?_
  refine mv_max rfl rfl rfl ?_
  refine ev_bk 3 (S' := (19, [some (.ref a0), some (.ref 9), some (.ref 2), some (vI (max (w32 0) (w32 ((S.1 9 2) - 22)))), none, none, none, none], [vI (max (w32 0) (w32 ((S.1 9 2) - 22))), .ref 9], hp S, 0, 0)) rfl ?_
  obtain ⟨S1, e2, F⟩ := F
  refine mv_cals (as := [.ref 9, vI (max (w32 0) (w32 ((S.1 9 2) - 22)))]) (rest := []) e2 rfl rfl rfl ⟨rfl, rfl, rfl⟩ rfl rfl rfl rfl ?_
  refine ev_bk 1 (S' := (23, [some (.ref a0), some (.ref 9), some (.ref 2), some (vI (max (w32 0) (w32 ((S.1 9 2) - 22)))), none, none, none, none], [.ref 9], hp S1, 0, 0)) rfl ?_
  refine mv_gfI rfl rfl (sh_9) (by decide) rfl ?_
  refine mv_if 30 rfl rfl (fun c => ?_) (fun c => ?_)
  · have F := F.1 c
    refine ev_bk 3 (S' := (34, [some (.ref a0), some (.ref 9), some (.ref 2), some (vI (max (w32 0) (w32 ((S.1 9 2) - 22)))), none, none, none, none], [vI 8, vI (max (w32 0) (w32 ((S.1 9 2) - 22))), .ref 2], hp S1, 0, 0)) rfl ?_
    refine mv_iadd rfl ?_
    refine ev_bk 1 (S' := (36, [some (.ref a0), some (.ref 9), some (.ref 2), some (vI (max (w32 0) (w32 ((S.1 9 2) - 22)))), none, none, none, none], [vI 2, vI ((max (w32 0) (w32 ((S.1 9 2) - 22))) + 8), .ref 2], hp S1, 0, 0)) rfl ?_
    obtain ⟨z5, S3, e4, F⟩ := F
    refine mv_cals (as := [.ref 2, vI ((max (w32 0) (w32 ((S.1 9 2) - 22))) + 8), vI 2]) (rest := []) e4 rfl rfl rfl ⟨rfl, rfl, rfl⟩ rfl rfl rfl rfl ?_
    refine mv_l2i rfl ?_
    refine ev_bk 4 (S' := (46, [some (.ref a0), some (.ref 9), some (.ref 2), some (vI (max (w32 0) (w32 ((S.1 9 2) - 22)))), some (vI z5), none, none, none], [vI 16, vI (max (w32 0) (w32 ((S.1 9 2) - 22))), .ref 2], hp S3, 0, 0)) rfl ?_
    refine mv_iadd rfl ?_
    refine ev_bk 1 (S' := (48, [some (.ref a0), some (.ref 9), some (.ref 2), some (vI (max (w32 0) (w32 ((S.1 9 2) - 22)))), some (vI z5), none, none, none], [vI 4, vI ((max (w32 0) (w32 ((S.1 9 2) - 22))) + 16), .ref 2], hp S3, 0, 0)) rfl ?_
    obtain ⟨z8, S6, e7, F⟩ := F
    refine mv_cals (as := [.ref 2, vI ((max (w32 0) (w32 ((S.1 9 2) - 22))) + 16), vI 4]) (rest := []) e7 rfl rfl rfl ⟨rfl, rfl, rfl⟩ rfl rfl rfl rfl ?_
    refine mv_l2i rfl ?_
    refine ev_bk 5 (S' := (61, [some (.ref a0), some (.ref 9), some (.ref 2), some (vI (max (w32 0) (w32 ((S.1 9 2) - 22)))), some (vI z5), some (vI z8), some (vI z8), some (vI 0)], [], hp S6, 0, 0)) rfl ?_
    exact F
  · have F := F.2 c
    obtain ⟨rfl, rfl⟩ := F
    exact ev_ret rfl rfl
theorem vc_Shelf_readBox_61 {q : Nat × (Nat → Int32)} {S S' : ms} {r : Option Value} (x3 x4 x5 x6 x7 : Int) (a0 : Nat) (ha0 : isShelf a0)
    (F : ((w32 x4 ≤ w32 x7) → EV q 203 132 [some (.ref a0), some (.ref 9), some (.ref 2), some (vI x3), some (vI x4), some (vI x5), some (vI x6), some (vI x7)] [] S r S') ∧ ((¬ w32 x4 ≤ w32 x7) → ((16 ≤ w32 x7) → EV q 203 132 [some (.ref a0), some (.ref 9), some (.ref 2), some (vI x3), some (vI x4), some (vI x5), some (vI x6), some (vI x7)] [] S r S') ∧ ((¬ 16 ≤ w32 x7) → ∃ (S1 : ms), EV q 205 0 [some (.ref a0), some (.ref 9), some (vI x6), some (vI x3), none, none, none, none, none] [] S none S1 ∧ ((¬ w32 (S1.1 9 5) = 0) → EV q 203 99 [some (.ref a0), some (.ref 9), some (.ref 2), some (vI x3), some (vI x4), some (vI x5), some (vI x6), some (vI x7)] [] S1 r S') ∧ ((¬ (¬ w32 (S1.1 9 5) = 0)) → ∃ (S3 : ms), EV q 206 0 [some (.ref a0), some (.ref 9), some (vI x6), some (vI x5), none, none, none, none, none, none, none, none, none, none, none, none, none] [] S1 none S3 ∧ EV q 203 99 [some (.ref a0), some (.ref 9), some (.ref 2), some (vI x3), some (vI x4), some (vI x5), some (vI x6), some (vI x7)] [] S3 r S')))) : EV q 203 61 [some (.ref a0), some (.ref 9), some (.ref 2), some (vI x3), some (vI x4), some (vI x5), some (vI x6), some (vI x7)] [] S r S' := by
  unfold EV
  refine ev_bk 2 (S' := (65, [some (.ref a0), some (.ref 9), some (.ref 2), some (vI x3), some (vI x4), some (vI x5), some (vI x6), some (vI x7)], [vI x4, vI x7], hp S, 0, 0)) rfl ?_
  refine mv_icmp 132 rfl rfl (fun c => ?_) (fun c => ?_)
  · have F := F.1 c
    exact F
  · have F := F.2 c
    refine ev_bk 2 (S' := (72, [some (.ref a0), some (.ref 9), some (.ref 2), some (vI x3), some (vI x4), some (vI x5), some (vI x6), some (vI x7)], [vI 16, vI x7], hp S, 0, 0)) rfl ?_
    refine mv_icmp 132 rfl rfl (fun c => ?_) (fun c => ?_)
    · have F := F.1 c
      exact F
    · have F := F.2 c
      refine ev_bk 4 (S' := (80, [some (.ref a0), some (.ref 9), some (.ref 2), some (vI x3), some (vI x4), some (vI x5), some (vI x6), some (vI x7)], [vI x3, vI x6, .ref 9, .ref a0], hp S, 0, 0)) rfl ?_
      obtain ⟨S1, e2, F⟩ := F
      refine mv_calv (as := [.ref 9, vI x6, vI x3]) (rest := []) e2 (ha0.1) rfl rfl rfl ⟨rfl, rfl⟩ rfl rfl rfl rfl rfl ?_
      refine ev_bk 1 (S' := (84, [some (.ref a0), some (.ref 9), some (.ref 2), some (vI x3), some (vI x4), some (vI x5), some (vI x6), some (vI x7)], [.ref 9], hp S1, 0, 0)) rfl ?_
      refine mv_gfI rfl rfl (sh_9) (by decide) rfl ?_
      refine mv_if 99 rfl rfl (fun c => ?_) (fun c => ?_)
      · have F := F.1 c
        exact F
      · have F := F.2 c
        refine ev_bk 4 (S' := (96, [some (.ref a0), some (.ref 9), some (.ref 2), some (vI x3), some (vI x4), some (vI x5), some (vI x6), some (vI x7)], [vI x5, vI x6, .ref 9, .ref a0], hp S1, 0, 0)) rfl ?_
        obtain ⟨S3, e4, F⟩ := F
        refine mv_calv (as := [.ref 9, vI x6, vI x5]) (rest := []) e4 (ha0.1) rfl rfl rfl ⟨rfl, rfl⟩ rfl rfl rfl rfl rfl ?_
        exact F
theorem vc_Shelf_readBox_99 {q : Nat × (Nat → Int32)} {S S' : ms} {r : Option Value} (x3 x4 x5 x6 x7 : Int) (a0 : Nat) (ha0 : isShelf a0)
    (F : ((w32 (S.1 9 5) = 0) → ∃ (z3 : Int) (S1 : ms), EV q 155 0 [some (.ref 2), some (vI (x6 + 28)), some (vI 2), none, none, none] [] S (some (vL z3)) S1 ∧ EV q 203 61 [some (.ref a0), some (.ref 9), some (.ref 2), some (vI x3), some (vI x4), some (vI x5), some (vI (x6 + (46 + z3))), some (vI (x7 + 1))] [] S1 r S') ∧ ((¬ w32 (S.1 9 5) = 0) → r = none ∧ S' = S)) : EV q 203 99 [some (.ref a0), some (.ref 9), some (.ref 2), some (vI x3), some (vI x4), some (vI x5), some (vI x6), some (vI x7)] [] S r S' := by
  unfold EV
  refine ev_bk 1 (S' := (100, [some (.ref a0), some (.ref 9), some (.ref 2), some (vI x3), some (vI x4), some (vI x5), some (vI x6), some (vI x7)], [.ref 9], hp S, 0, 0)) rfl ?_
  refine mv_gfI rfl rfl (sh_9) (by decide) rfl ?_
  refine mv_if 107 rfl rfl (fun c => ?_) (fun c => ?_)
  · have F := F.1 c
    refine ev_bk 5 (S' := (116, [some (.ref a0), some (.ref 9), some (.ref 2), some (vI x3), some (vI x4), some (vI x5), some (vI x6), some (vI x7)], [vI 28, vI x6, .ref 2, vI 46, vI x6], hp S, 0, 0)) rfl ?_
    refine mv_iadd rfl ?_
    refine ev_bk 1 (S' := (118, [some (.ref a0), some (.ref 9), some (.ref 2), some (vI x3), some (vI x4), some (vI x5), some (vI x6), some (vI x7)], [vI 2, vI (x6 + 28), .ref 2, vI 46, vI x6], hp S, 0, 0)) rfl ?_
    obtain ⟨z3, S1, e2, F⟩ := F
    refine mv_cals (as := [.ref 2, vI (x6 + 28), vI 2]) (rest := [vI 46, vI x6]) e2 rfl rfl rfl ⟨rfl, rfl, rfl⟩ rfl rfl rfl rfl ?_
    refine mv_l2i rfl ?_
    refine mv_iadd rfl ?_
    refine mv_iadd rfl ?_
    refine ev_bk 1 (S' := (126, [some (.ref a0), some (.ref 9), some (.ref 2), some (vI x3), some (vI x4), some (vI x5), some (vI (x6 + (46 + z3))), some (vI x7)], [], hp S1, 0, 0)) rfl ?_
    refine mv_inc (lv' := [some (.ref a0), some (.ref 9), some (.ref 2), some (vI x3), some (vI x4), some (vI x5), some (vI (x6 + (46 + z3))), some (vI (x7 + 1))]) 7 1 rfl rfl rfl rfl ?_
    refine mv_goto 61 rfl rfl ?_
    exact F
  · have F := F.2 c
    obtain ⟨rfl, rfl⟩ := F
    exact ev_ret rfl rfl
theorem vc_Shelf_readBox_132 {q : Nat × (Nat → Int32)} {S S' : ms} {r : Option Value} (x3 x4 x5 x6 x7 : Int) (a0 : Nat) (ha0 : isShelf a0)
    (F : ((w32 x3 ≤ w32 x6) → r = none ∧ S' = S) ∧ ((¬ w32 x3 ≤ w32 x6) → ∃ (S1 : ms), EV q 126 0 [some (.ref 9), some (vI 122), some (vI x6)] [] S none S1 ∧ r = none ∧ S' = S1)) : EV q 203 132 [some (.ref a0), some (.ref 9), some (.ref 2), some (vI x3), some (vI x4), some (vI x5), some (vI x6), some (vI x7)] [] S r S' := by
  unfold EV
  refine ev_bk 2 (S' := (135, [some (.ref a0), some (.ref 9), some (.ref 2), some (vI x3), some (vI x4), some (vI x5), some (vI x6), some (vI x7)], [vI x3, vI x6], hp S, 0, 0)) rfl ?_
  refine mv_icmp 146 rfl rfl (fun c => ?_) (fun c => ?_)
  · have F := F.1 c
    obtain ⟨rfl, rfl⟩ := F
    exact ev_ret rfl rfl
  · have F := F.2 c
    refine ev_bk 3 (S' := (143, [some (.ref a0), some (.ref 9), some (.ref 2), some (vI x3), some (vI x4), some (vI x5), some (vI x6), some (vI x7)], [vI x6, vI 122, .ref 9], hp S, 0, 0)) rfl ?_
    obtain ⟨S1, e2, F⟩ := F
    refine mv_calv (as := [vI 122, vI x6]) (rest := []) e2 (sh_9) rfl rfl rfl ⟨rfl, rfl⟩ rfl rfl rfl rfl rfl ?_
    obtain ⟨rfl, rfl⟩ := F
    exact ev_ret rfl rfl
theorem vc_Shelf_boxEnd {q : Nat × (Nat → Int32)} {S S' : ms} {r : Option Value} (x1 : Int)
    (F : ((w32 (S.1 9 2) < 22) → EV q 204 76 [some (.ref 9), some (vI x1), some (.ref 2)] [] S r S') ∧ ((¬ w32 (S.1 9 2) < 22) → ∃ (z3 : Int) (S1 : ms), EV q 155 0 [some (.ref 2), some (vI x1), some (vI 4), none, none, none] [] S (some (vL z3)) S1 ∧ ((¬ w64 z3 = w64 101010256) → EV q 204 76 [some (.ref 9), some (vI x1), some (.ref 2)] [] S1 r S') ∧ ((¬ (¬ w64 z3 = w64 101010256)) → ∃ (z6 : Int) (S4 : ms), EV q 155 0 [some (.ref 2), some (vI (x1 + 4)), some (vI 4), none, none, none] [] S1 (some (vL z6)) S4 ∧ ((¬ w64 z6 = w64 0) → EV q 204 76 [some (.ref 9), some (vI x1), some (.ref 2)] [] S4 r S') ∧ ((¬ (¬ w64 z6 = w64 0)) → ∃ (z9 : Int) (S7 : ms), EV q 155 0 [some (.ref 2), some (vI (x1 + 20)), some (vI 2), none, none, none] [] S4 (some (vL z9)) S7 ∧ ((¬ w64 z9 = w64 0) → EV q 204 76 [some (.ref 9), some (vI x1), some (.ref 2)] [] S7 r S') ∧ ((¬ (¬ w64 z9 = w64 0)) → ∃ (z12 : Int) (S10 : ms), EV q 155 0 [some (.ref 2), some (vI (x1 + 8)), some (vI 2), none, none, none] [] S7 (some (vL z12)) S10 ∧ ∃ (z15 : Int) (S13 : ms), EV q 155 0 [some (.ref 2), some (vI (x1 + 10)), some (vI 2), none, none, none] [] S10 (some (vL z15)) S13 ∧ ((w64 z12 = w64 z15) → ∃ (z18 : Int) (S16 : ms), EV q 155 0 [some (.ref 2), some (vI (x1 + 8)), some (vI 2), none, none, none] [] S13 (some (vL z18)) S16 ∧ ((w64 z18 ≤ w64 16) → EV q 204 107 [some (.ref 9), some (vI x1), some (.ref 2)] [] S16 r S') ∧ ((¬ w64 z18 ≤ w64 16) → ∃ (S19 : ms), EV q 126 0 [some (.ref 9), some (vI 104), some (vI x1)] [] S16 none S19 ∧ EV q 204 107 [some (.ref 9), some (vI x1), some (.ref 2)] [] S19 r S')) ∧ ((¬ w64 z12 = w64 z15) → EV q 204 76 [some (.ref 9), some (vI x1), some (.ref 2)] [] S13 r S')))))) : EV q 204 0 [some (.ref 9), some (vI x1), none] [] S r S' := by
  unfold EV
  refine ev_bk 1 (S' := (1, [some (.ref 9), some (vI x1), none], [.ref 9], hp S, 0, 0)) rfl ?_
  refine mv_gfR rfl rfl (sh_9) (by decide) rfl ?_
  refine ev_bk 2 (S' := (6, [some (.ref 9), some (vI x1), some (.ref 2)], [.ref 9], hp S, 0, 0)) rfl ?_
  refine mv_gfI rfl rfl (sh_9) (by decide) rfl ?_
  refine ev_bk 1 (S' := (11, [some (.ref 9), some (vI x1), some (.ref 2)], [vI 22, vI (S.1 9 2)], hp S, 0, 0)) rfl ?_
  refine mv_icmp 76 rfl rfl (fun c => ?_) (fun c => ?_)
  · have F := F.1 c
    exact F
  · have F := F.2 c
    refine ev_bk 3 (S' := (17, [some (.ref 9), some (vI x1), some (.ref 2)], [vI 4, vI x1, .ref 2], hp S, 0, 0)) rfl ?_
    obtain ⟨z3, S1, e2, F⟩ := F
    refine mv_cals (as := [.ref 2, vI x1, vI 4]) (rest := []) e2 rfl rfl rfl ⟨rfl, rfl, rfl⟩ rfl rfl rfl rfl ?_
    refine ev_bk 1 (S' := (23, [some (.ref 9), some (vI x1), some (.ref 2)], [vL 101010256, vL z3], hp S1, 0, 0)) rfl ?_
    refine mv_lif 76 rfl rfl rfl (fun c => ?_) (fun c => ?_)
    · have F := F.1 c
      exact F
    · have F := F.2 c
      refine ev_bk 3 (S' := (30, [some (.ref 9), some (vI x1), some (.ref 2)], [vI 4, vI x1, .ref 2], hp S1, 0, 0)) rfl ?_
      refine mv_iadd rfl ?_
      refine ev_bk 1 (S' := (32, [some (.ref 9), some (vI x1), some (.ref 2)], [vI 4, vI (x1 + 4), .ref 2], hp S1, 0, 0)) rfl ?_
      obtain ⟨z6, S4, e5, F⟩ := F
      refine mv_cals (as := [.ref 2, vI (x1 + 4), vI 4]) (rest := []) e5 rfl rfl rfl ⟨rfl, rfl, rfl⟩ rfl rfl rfl rfl ?_
      refine ev_bk 1 (S' := (36, [some (.ref 9), some (vI x1), some (.ref 2)], [vL 0, vL z6], hp S4, 0, 0)) rfl ?_
      refine mv_lif 76 rfl rfl rfl (fun c => ?_) (fun c => ?_)
      · have F := F.1 c
        exact F
      · have F := F.2 c
        refine ev_bk 3 (S' := (44, [some (.ref 9), some (vI x1), some (.ref 2)], [vI 20, vI x1, .ref 2], hp S4, 0, 0)) rfl ?_
        refine mv_iadd rfl ?_
        refine ev_bk 1 (S' := (46, [some (.ref 9), some (vI x1), some (.ref 2)], [vI 2, vI (x1 + 20), .ref 2], hp S4, 0, 0)) rfl ?_
        obtain ⟨z9, S7, e8, F⟩ := F
        refine mv_cals (as := [.ref 2, vI (x1 + 20), vI 2]) (rest := []) e8 rfl rfl rfl ⟨rfl, rfl, rfl⟩ rfl rfl rfl rfl ?_
        refine ev_bk 1 (S' := (50, [some (.ref 9), some (vI x1), some (.ref 2)], [vL 0, vL z9], hp S7, 0, 0)) rfl ?_
        refine mv_lif 76 rfl rfl rfl (fun c => ?_) (fun c => ?_)
        · have F := F.1 c
          exact F
        · have F := F.2 c
          refine ev_bk 3 (S' := (58, [some (.ref 9), some (vI x1), some (.ref 2)], [vI 8, vI x1, .ref 2], hp S7, 0, 0)) rfl ?_
          refine mv_iadd rfl ?_
          refine ev_bk 1 (S' := (60, [some (.ref 9), some (vI x1), some (.ref 2)], [vI 2, vI (x1 + 8), .ref 2], hp S7, 0, 0)) rfl ?_
          obtain ⟨z12, S10, e11, F⟩ := F
          refine mv_cals (as := [.ref 2, vI (x1 + 8), vI 2]) (rest := []) e11 rfl rfl rfl ⟨rfl, rfl, rfl⟩ rfl rfl rfl rfl ?_
          refine ev_bk 3 (S' := (67, [some (.ref 9), some (vI x1), some (.ref 2)], [vI 10, vI x1, .ref 2, vL z12], hp S10, 0, 0)) rfl ?_
          refine mv_iadd rfl ?_
          refine ev_bk 1 (S' := (69, [some (.ref 9), some (vI x1), some (.ref 2)], [vI 2, vI (x1 + 10), .ref 2, vL z12], hp S10, 0, 0)) rfl ?_
          obtain ⟨z15, S13, e14, F⟩ := F
          refine mv_cals (as := [.ref 2, vI (x1 + 10), vI 2]) (rest := [vL z12]) e14 rfl rfl rfl ⟨rfl, rfl, rfl⟩ rfl rfl rfl rfl ?_
          refine mv_lif 84 rfl rfl rfl (fun c => ?_) (fun c => ?_)
          · have F := F.1 c
            refine ev_bk 3 (S' := (88, [some (.ref 9), some (vI x1), some (.ref 2)], [vI 8, vI x1, .ref 2], hp S13, 0, 0)) rfl ?_
            refine mv_iadd rfl ?_
            refine ev_bk 1 (S' := (90, [some (.ref 9), some (vI x1), some (.ref 2)], [vI 2, vI (x1 + 8), .ref 2], hp S13, 0, 0)) rfl ?_
            obtain ⟨z18, S16, e17, F⟩ := F
            refine mv_cals (as := [.ref 2, vI (x1 + 8), vI 2]) (rest := []) e17 rfl rfl rfl ⟨rfl, rfl, rfl⟩ rfl rfl rfl rfl ?_
            refine ev_bk 1 (S' := (96, [some (.ref 9), some (vI x1), some (.ref 2)], [vL 16, vL z18], hp S16, 0, 0)) rfl ?_
            refine mv_lif 107 rfl rfl rfl (fun c => ?_) (fun c => ?_)
            · have F := F.1 c
              exact F
            · have F := F.2 c
              refine ev_bk 3 (S' := (104, [some (.ref 9), some (vI x1), some (.ref 2)], [vI x1, vI 104, .ref 9], hp S16, 0, 0)) rfl ?_
              obtain ⟨S19, e20, F⟩ := F
              refine mv_calv (as := [vI 104, vI x1]) (rest := []) e20 (sh_9) rfl rfl rfl ⟨rfl, rfl⟩ rfl rfl rfl rfl rfl ?_
              exact F
          · have F := F.2 c
            exact F
theorem vc_Shelf_boxEnd_76 {q : Nat × (Nat → Int32)} {S S' : ms} {r : Option Value} (x1 : Int)
    (F : ∃ (S1 : ms), EV q 126 0 [some (.ref 9), some (vI 120), some (vI x1)] [] S none S1 ∧ r = none ∧ S' = S1) : EV q 204 76 [some (.ref 9), some (vI x1), some (.ref 2)] [] S r S' := by
  unfold EV
  refine ev_bk 3 (S' := (80, [some (.ref 9), some (vI x1), some (.ref 2)], [vI x1, vI 120, .ref 9], hp S, 0, 0)) rfl ?_
  obtain ⟨S1, e2, F⟩ := F
  refine mv_calv (as := [vI 120, vI x1]) (rest := []) e2 (sh_9) rfl rfl rfl ⟨rfl, rfl⟩ rfl rfl rfl rfl rfl ?_
  obtain ⟨rfl, rfl⟩ := F
  exact ev_ret rfl rfl
theorem vc_Shelf_boxEnd_107 {q : Nat × (Nat → Int32)} {S S' : ms} {r : Option Value} (x1 : Int)
    (F : ∃ (z3 : Int) (S1 : ms), EV q 155 0 [some (.ref 2), some (vI (x1 + 12)), some (vI 4), none, none, none] [] S (some (vL z3)) S1 ∧ ∃ (z6 : Int) (S4 : ms), EV q 155 0 [some (.ref 2), some (vI (x1 + 16)), some (vI 4), none, none, none] [] S1 (some (vL z6)) S4 ∧ ((w64 (z3 + z6) = w64 (w32 x1)) → r = none ∧ S' = S4) ∧ ((¬ w64 (z3 + z6) = w64 (w32 x1)) → ∃ (S7 : ms), EV q 126 0 [some (.ref 9), some (vI 121), some (vI x1)] [] S4 none S7 ∧ r = none ∧ S' = S7)) : EV q 204 107 [some (.ref 9), some (vI x1), some (.ref 2)] [] S r S' := by
  unfold EV
  refine ev_bk 3 (S' := (111, [some (.ref 9), some (vI x1), some (.ref 2)], [vI 12, vI x1, .ref 2], hp S, 0, 0)) rfl ?_
  refine mv_iadd rfl ?_
  refine ev_bk 1 (S' := (113, [some (.ref 9), some (vI x1), some (.ref 2)], [vI 4, vI (x1 + 12), .ref 2], hp S, 0, 0)) rfl ?_
  obtain ⟨z3, S1, e2, F⟩ := F
  refine mv_cals (as := [.ref 2, vI (x1 + 12), vI 4]) (rest := []) e2 rfl rfl rfl ⟨rfl, rfl, rfl⟩ rfl rfl rfl rfl ?_
  refine ev_bk 3 (S' := (120, [some (.ref 9), some (vI x1), some (.ref 2)], [vI 16, vI x1, .ref 2, vL z3], hp S1, 0, 0)) rfl ?_
  refine mv_iadd rfl ?_
  refine ev_bk 1 (S' := (122, [some (.ref 9), some (vI x1), some (.ref 2)], [vI 4, vI (x1 + 16), .ref 2, vL z3], hp S1, 0, 0)) rfl ?_
  obtain ⟨z6, S4, e5, F⟩ := F
  refine mv_cals (as := [.ref 2, vI (x1 + 16), vI 4]) (rest := [vL z3]) e5 rfl rfl rfl ⟨rfl, rfl, rfl⟩ rfl rfl rfl rfl ?_
  refine mv_ladd rfl ?_
  refine ev_bk 1 (S' := (127, [some (.ref 9), some (vI x1), some (.ref 2)], [vI x1, vL (z3 + z6)], hp S4, 0, 0)) rfl ?_
  refine mv_i2l rfl ?_
  refine mv_lif 139 rfl rfl rfl (fun c => ?_) (fun c => ?_)
  · have F := F.1 c
    obtain ⟨rfl, rfl⟩ := F
    exact ev_ret rfl rfl
  · have F := F.2 c
    refine ev_bk 3 (S' := (136, [some (.ref 9), some (vI x1), some (.ref 2)], [vI x1, vI 121, .ref 9], hp S4, 0, 0)) rfl ?_
    obtain ⟨S7, e8, F⟩ := F
    refine mv_calv (as := [vI 121, vI x1]) (rest := []) e8 (sh_9) rfl rfl rfl ⟨rfl, rfl⟩ rfl rfl rfl rfl rfl ?_
    obtain ⟨rfl, rfl⟩ := F
    exact ev_ret rfl rfl
theorem vc_Shelf_boxRow {q : Nat × (Nat → Int32)} {S S' : ms} {r : Option Value} (x2 x3 : Int) (a0 : Nat) (ha0 : isShelf a0)
    (F : ((w32 (x3 - 46) < w32 x2) → EV q 205 49 [some (.ref a0), some (.ref 9), some (vI x2), some (vI x3), some (.ref 2), none, none, none, none] [] S r S') ∧ ((¬ w32 (x3 - 46) < w32 x2) → ∃ (z3 : Int) (S1 : ms), EV q 155 0 [some (.ref 2), some (vI x2), some (vI 4), none, none, none] [] S (some (vL z3)) S1 ∧ ((¬ w64 z3 = w64 33639248) → EV q 205 49 [some (.ref a0), some (.ref 9), some (vI x2), some (vI x3), some (.ref 2), none, none, none, none] [] S1 r S') ∧ ((¬ (¬ w64 z3 = w64 33639248)) → ∃ (z6 : Int) (S4 : ms), EV q 155 0 [some (.ref 2), some (vI (x2 + 28)), some (vI 2), none, none, none] [] S1 (some (vL z6)) S4 ∧ ((w64 z6 ≤ w64 (w32 ((x3 - 46) - x2))) → ∃ (z9 : Int) (S7 : ms), EV q 155 0 [some (.ref 2), some (vI (x2 + 10)), some (vI 2), none, none, none] [] S4 (some (vL z9)) S7 ∧ ((w64 z9 = w64 0) → EV q 205 85 [some (.ref a0), some (.ref 9), some (vI x2), some (vI x3), some (.ref 2), some (vL z9), none, none, none] [] S7 r S') ∧ ((¬ w64 z9 = w64 0) → ((¬ w64 z9 = w64 8) → EV q 205 165 [some (.ref a0), some (.ref 9), some (vI x2), some (vI x3), some (.ref 2), some (vL z9), none, none, none] [] S7 r S') ∧ ((¬ (¬ w64 z9 = w64 8)) → EV q 205 85 [some (.ref a0), some (.ref 9), some (vI x2), some (vI x3), some (.ref 2), some (vL z9), none, none, none] [] S7 r S'))) ∧ ((¬ w64 z6 ≤ w64 (w32 ((x3 - 46) - x2))) → EV q 205 49 [some (.ref a0), some (.ref 9), some (vI x2), some (vI x3), some (.ref 2), none, none, none, none] [] S4 r S')))) : EV q 205 0 [some (.ref a0), some (.ref 9), some (vI x2), some (vI x3), none, none, none, none, none] [] S r S' := by
  unfold EV
  refine ev_bk 1 (S' := (1, [some (.ref a0), some (.ref 9), some (vI x2), some (vI x3), none, none, none, none, none], [.ref 9], hp S, 0, 0)) rfl ?_
  refine mv_gfR rfl rfl (sh_9) (by decide) rfl ?_
  refine ev_bk 4 (S' := (10, [some (.ref a0), some (.ref 9), some (vI x2), some (vI x3), some (.ref 2), none, none, none, none], [vI 46, vI x3, vI x2], hp S, 0, 0)) rfl ?_
  refine mv_isub rfl ?_
  refine mv_icmp 49 rfl rfl (fun c => ?_) (fun c => ?_)
  · have F := F.1 c
    exact F
  · have F := F.2 c
    refine ev_bk 3 (S' := (18, [some (.ref a0), some (.ref 9), some (vI x2), some (vI x3), some (.ref 2), none, none, none, none], [vI 4, vI x2, .ref 2], hp S, 0, 0)) rfl ?_
    obtain ⟨z3, S1, e2, F⟩ := F
    refine mv_cals (as := [.ref 2, vI x2, vI 4]) (rest := []) e2 rfl rfl rfl ⟨rfl, rfl, rfl⟩ rfl rfl rfl rfl ?_
    refine ev_bk 1 (S' := (24, [some (.ref a0), some (.ref 9), some (vI x2), some (vI x3), some (.ref 2), none, none, none, none], [vL 33639248, vL z3], hp S1, 0, 0)) rfl ?_
    refine mv_lif 49 rfl rfl rfl (fun c => ?_) (fun c => ?_)
    · have F := F.1 c
      exact F
    · have F := F.2 c
      refine ev_bk 3 (S' := (33, [some (.ref a0), some (.ref 9), some (vI x2), some (vI x3), some (.ref 2), none, none, none, none], [vI 28, vI x2, .ref 2], hp S1, 0, 0)) rfl ?_
      refine mv_iadd rfl ?_
      refine ev_bk 1 (S' := (35, [some (.ref a0), some (.ref 9), some (vI x2), some (vI x3), some (.ref 2), none, none, none, none], [vI 2, vI (x2 + 28), .ref 2], hp S1, 0, 0)) rfl ?_
      obtain ⟨z6, S4, e5, F⟩ := F
      refine mv_cals (as := [.ref 2, vI (x2 + 28), vI 2]) (rest := []) e5 rfl rfl rfl ⟨rfl, rfl, rfl⟩ rfl rfl rfl rfl ?_
      refine ev_bk 2 (S' := (41, [some (.ref a0), some (.ref 9), some (vI x2), some (vI x3), some (.ref 2), none, none, none, none], [vI 46, vI x3, vL z6], hp S4, 0, 0)) rfl ?_
      refine mv_isub rfl ?_
      refine ev_bk 1 (S' := (43, [some (.ref a0), some (.ref 9), some (vI x2), some (vI x3), some (.ref 2), none, none, none, none], [vI x2, vI (x3 - 46), vL z6], hp S4, 0, 0)) rfl ?_
      refine mv_isub rfl ?_
      refine mv_i2l rfl ?_
      refine mv_lif 57 rfl rfl rfl (fun c => ?_) (fun c => ?_)
      · have F := F.1 c
        refine ev_bk 3 (S' := (62, [some (.ref a0), some (.ref 9), some (vI x2), some (vI x3), some (.ref 2), none, none, none, none], [vI 10, vI x2, .ref 2], hp S4, 0, 0)) rfl ?_
        refine mv_iadd rfl ?_
        refine ev_bk 1 (S' := (64, [some (.ref a0), some (.ref 9), some (vI x2), some (vI x3), some (.ref 2), none, none, none, none], [vI 2, vI (x2 + 10), .ref 2], hp S4, 0, 0)) rfl ?_
        obtain ⟨z9, S7, e8, F⟩ := F
        refine mv_cals (as := [.ref 2, vI (x2 + 10), vI 2]) (rest := []) e8 rfl rfl rfl ⟨rfl, rfl, rfl⟩ rfl rfl rfl rfl ?_
        refine ev_bk 3 (S' := (72, [some (.ref a0), some (.ref 9), some (vI x2), some (vI x3), some (.ref 2), some (vL z9), none, none, none], [vL 0, vL z9], hp S7, 0, 0)) rfl ?_
        refine mv_lif 85 rfl rfl rfl (fun c => ?_) (fun c => ?_)
        · have F := F.1 c
          exact F
        · have F := F.2 c
          refine ev_bk 2 (S' := (81, [some (.ref a0), some (.ref 9), some (vI x2), some (vI x3), some (.ref 2), some (vL z9), none, none, none], [vL 8, vL z9], hp S7, 0, 0)) rfl ?_
          refine mv_lif 165 rfl rfl rfl (fun c => ?_) (fun c => ?_)
          · have F := F.1 c
            exact F
          · have F := F.2 c
            exact F
      · have F := F.2 c
        exact F
theorem vc_Shelf_boxRow_49 {q : Nat × (Nat → Int32)} {S S' : ms} {r : Option Value} (x2 x3 : Int) (a0 : Nat) (ha0 : isShelf a0)
    (F : ∃ (S1 : ms), EV q 126 0 [some (.ref 9), some (vI 122), some (vI x2)] [] S none S1 ∧ r = none ∧ S' = S1) : EV q 205 49 [some (.ref a0), some (.ref 9), some (vI x2), some (vI x3), some (.ref 2), none, none, none, none] [] S r S' := by
  unfold EV
  refine ev_bk 3 (S' := (53, [some (.ref a0), some (.ref 9), some (vI x2), some (vI x3), some (.ref 2), none, none, none, none], [vI x2, vI 122, .ref 9], hp S, 0, 0)) rfl ?_
  obtain ⟨S1, e2, F⟩ := F
  refine mv_calv (as := [vI 122, vI x2]) (rest := []) e2 (sh_9) rfl rfl rfl ⟨rfl, rfl⟩ rfl rfl rfl rfl rfl ?_
  obtain ⟨rfl, rfl⟩ := F
  exact ev_ret rfl rfl
theorem vc_Shelf_boxRow_85 {q : Nat × (Nat → Int32)} {S S' : ms} {r : Option Value} (x2 x3 x5 : Int) (a0 : Nat) (ha0 : isShelf a0)
    (F : ∃ (z3 : Int) (S1 : ms), EV q 155 0 [some (.ref 2), some (vI (x2 + 8)), some (vI 2), none, none, none] [] S (some (vL z3)) S1 ∧ ((¬ w64 z3 = w64 0) → EV q 205 165 [some (.ref a0), some (.ref 9), some (vI x2), some (vI x3), some (.ref 2), some (vL x5), none, none, none] [] S1 r S') ∧ ((¬ (¬ w64 z3 = w64 0)) → ∃ (z6 : Int) (S4 : ms), EV q 155 0 [some (.ref 2), some (vI (x2 + 30)), some (vI 8), none, none, none] [] S1 (some (vL z6)) S4 ∧ ((¬ w64 z6 = w64 0) → EV q 205 165 [some (.ref a0), some (.ref 9), some (vI x2), some (vI x3), some (.ref 2), some (vL x5), none, none, none] [] S4 r S') ∧ ((¬ (¬ w64 z6 = w64 0)) → ∃ (z9 : Int) (S7 : ms), EV q 155 0 [some (.ref 2), some (vI (x2 + 38)), some (vI 2), none, none, none] [] S4 (some (vL z9)) S7 ∧ ((¬ w64 z9 = w64 0) → EV q 205 165 [some (.ref a0), some (.ref 9), some (vI x2), some (vI x3), some (.ref 2), some (vL x5), none, none, none] [] S7 r S') ∧ ((¬ (¬ w64 z9 = w64 0)) → ∃ (z12 : Int) (S10 : ms), EV q 155 0 [some (.ref 2), some (vI (x2 + 40)), some (vI 2), none, none, none] [] S7 (some (vL z12)) S10 ∧ ((w64 511 < w64 z12) → EV q 205 165 [some (.ref a0), some (.ref 9), some (vI x2), some (vI x3), some (.ref 2), some (vL x5), none, none, none] [] S10 r S') ∧ ((¬ w64 511 < w64 z12) → ∃ (z15 : Int) (S13 : ms), EV q 155 0 [some (.ref 2), some (vI (x2 + 12)), some (vI 4), none, none, none] [] S10 (some (vL z15)) S13 ∧ ((w64 z15 ≤ w64 2147483647) → EV q 205 172 [some (.ref a0), some (.ref 9), some (vI x2), some (vI x3), some (.ref 2), some (vL x5), none, none, none] [] S13 r S') ∧ ((¬ w64 z15 ≤ w64 2147483647) → EV q 205 165 [some (.ref a0), some (.ref 9), some (vI x2), some (vI x3), some (.ref 2), some (vL x5), none, none, none] [] S13 r S')))))) : EV q 205 85 [some (.ref a0), some (.ref 9), some (vI x2), some (vI x3), some (.ref 2), some (vL x5), none, none, none] [] S r S' := by
  unfold EV
  refine ev_bk 3 (S' := (90, [some (.ref a0), some (.ref 9), some (vI x2), some (vI x3), some (.ref 2), some (vL x5), none, none, none], [vI 8, vI x2, .ref 2], hp S, 0, 0)) rfl ?_
  refine mv_iadd rfl ?_
  refine ev_bk 1 (S' := (92, [some (.ref a0), some (.ref 9), some (vI x2), some (vI x3), some (.ref 2), some (vL x5), none, none, none], [vI 2, vI (x2 + 8), .ref 2], hp S, 0, 0)) rfl ?_
  obtain ⟨z3, S1, e2, F⟩ := F
  refine mv_cals (as := [.ref 2, vI (x2 + 8), vI 2]) (rest := []) e2 rfl rfl rfl ⟨rfl, rfl, rfl⟩ rfl rfl rfl rfl ?_
  refine ev_bk 1 (S' := (96, [some (.ref a0), some (.ref 9), some (vI x2), some (vI x3), some (.ref 2), some (vL x5), none, none, none], [vL 0, vL z3], hp S1, 0, 0)) rfl ?_
  refine mv_lif 165 rfl rfl rfl (fun c => ?_) (fun c => ?_)
  · have F := F.1 c
    exact F
  · have F := F.2 c
    refine ev_bk 3 (S' := (105, [some (.ref a0), some (.ref 9), some (vI x2), some (vI x3), some (.ref 2), some (vL x5), none, none, none], [vI 30, vI x2, .ref 2], hp S1, 0, 0)) rfl ?_
    refine mv_iadd rfl ?_
    refine ev_bk 1 (S' := (108, [some (.ref a0), some (.ref 9), some (vI x2), some (vI x3), some (.ref 2), some (vL x5), none, none, none], [vI 8, vI (x2 + 30), .ref 2], hp S1, 0, 0)) rfl ?_
    obtain ⟨z6, S4, e5, F⟩ := F
    refine mv_cals (as := [.ref 2, vI (x2 + 30), vI 8]) (rest := []) e5 rfl rfl rfl ⟨rfl, rfl, rfl⟩ rfl rfl rfl rfl ?_
    refine ev_bk 1 (S' := (112, [some (.ref a0), some (.ref 9), some (vI x2), some (vI x3), some (.ref 2), some (vL x5), none, none, none], [vL 0, vL z6], hp S4, 0, 0)) rfl ?_
    refine mv_lif 165 rfl rfl rfl (fun c => ?_) (fun c => ?_)
    · have F := F.1 c
      exact F
    · have F := F.2 c
      refine ev_bk 3 (S' := (121, [some (.ref a0), some (.ref 9), some (vI x2), some (vI x3), some (.ref 2), some (vL x5), none, none, none], [vI 38, vI x2, .ref 2], hp S4, 0, 0)) rfl ?_
      refine mv_iadd rfl ?_
      refine ev_bk 1 (S' := (123, [some (.ref a0), some (.ref 9), some (vI x2), some (vI x3), some (.ref 2), some (vL x5), none, none, none], [vI 2, vI (x2 + 38), .ref 2], hp S4, 0, 0)) rfl ?_
      obtain ⟨z9, S7, e8, F⟩ := F
      refine mv_cals (as := [.ref 2, vI (x2 + 38), vI 2]) (rest := []) e8 rfl rfl rfl ⟨rfl, rfl, rfl⟩ rfl rfl rfl rfl ?_
      refine ev_bk 1 (S' := (127, [some (.ref a0), some (.ref 9), some (vI x2), some (vI x3), some (.ref 2), some (vL x5), none, none, none], [vL 0, vL z9], hp S7, 0, 0)) rfl ?_
      refine mv_lif 165 rfl rfl rfl (fun c => ?_) (fun c => ?_)
      · have F := F.1 c
        exact F
      · have F := F.2 c
        refine ev_bk 3 (S' := (136, [some (.ref a0), some (.ref 9), some (vI x2), some (vI x3), some (.ref 2), some (vL x5), none, none, none], [vI 40, vI x2, .ref 2], hp S7, 0, 0)) rfl ?_
        refine mv_iadd rfl ?_
        refine ev_bk 1 (S' := (138, [some (.ref a0), some (.ref 9), some (vI x2), some (vI x3), some (.ref 2), some (vL x5), none, none, none], [vI 2, vI (x2 + 40), .ref 2], hp S7, 0, 0)) rfl ?_
        obtain ⟨z12, S10, e11, F⟩ := F
        refine mv_cals (as := [.ref 2, vI (x2 + 40), vI 2]) (rest := []) e11 rfl rfl rfl ⟨rfl, rfl, rfl⟩ rfl rfl rfl rfl ?_
        refine ev_bk 1 (S' := (144, [some (.ref a0), some (.ref 9), some (vI x2), some (vI x3), some (.ref 2), some (vL x5), none, none, none], [vL 511, vL z12], hp S10, 0, 0)) rfl ?_
        refine mv_lif 165 rfl rfl rfl (fun c => ?_) (fun c => ?_)
        · have F := F.1 c
          exact F
        · have F := F.2 c
          refine ev_bk 3 (S' := (153, [some (.ref a0), some (.ref 9), some (vI x2), some (vI x3), some (.ref 2), some (vL x5), none, none, none], [vI 12, vI x2, .ref 2], hp S10, 0, 0)) rfl ?_
          refine mv_iadd rfl ?_
          refine ev_bk 1 (S' := (155, [some (.ref a0), some (.ref 9), some (vI x2), some (vI x3), some (.ref 2), some (vL x5), none, none, none], [vI 4, vI (x2 + 12), .ref 2], hp S10, 0, 0)) rfl ?_
          obtain ⟨z15, S13, e14, F⟩ := F
          refine mv_cals (as := [.ref 2, vI (x2 + 12), vI 4]) (rest := []) e14 rfl rfl rfl ⟨rfl, rfl, rfl⟩ rfl rfl rfl rfl ?_
          refine ev_bk 1 (S' := (161, [some (.ref a0), some (.ref 9), some (vI x2), some (vI x3), some (.ref 2), some (vL x5), none, none, none], [vL 2147483647, vL z15], hp S13, 0, 0)) rfl ?_
          refine mv_lif 172 rfl rfl rfl (fun c => ?_) (fun c => ?_)
          · have F := F.1 c
            exact F
          · have F := F.2 c
            exact F
theorem vc_Shelf_boxRow_165 {q : Nat × (Nat → Int32)} {S S' : ms} {r : Option Value} (x2 x3 x5 : Int) (a0 : Nat) (ha0 : isShelf a0)
    (F : ∃ (S1 : ms), EV q 126 0 [some (.ref 9), some (vI 123), some (vI x2)] [] S none S1 ∧ EV q 205 172 [some (.ref a0), some (.ref 9), some (vI x2), some (vI x3), some (.ref 2), some (vL x5), none, none, none] [] S1 r S') : EV q 205 165 [some (.ref a0), some (.ref 9), some (vI x2), some (vI x3), some (.ref 2), some (vL x5), none, none, none] [] S r S' := by
  unfold EV
  refine ev_bk 3 (S' := (169, [some (.ref a0), some (.ref 9), some (vI x2), some (vI x3), some (.ref 2), some (vL x5), none, none, none], [vI x2, vI 123, .ref 9], hp S, 0, 0)) rfl ?_
  obtain ⟨S1, e2, F⟩ := F
  refine mv_calv (as := [vI 123, vI x2]) (rest := []) e2 (sh_9) rfl rfl rfl ⟨rfl, rfl⟩ rfl rfl rfl rfl rfl ?_
  exact F
theorem vc_Shelf_boxRow_172 {q : Nat × (Nat → Int32)} {S S' : ms} {r : Option Value} (x2 x3 x5 : Int) (a0 : Nat) (ha0 : isShelf a0)
    (F : ∃ (S1 : ms), EV q 37 0 [some (.ref (a0 + 5))] [] S none S1 ∧ ∃ (z5 : Int) (S3 : ms), EV q 155 0 [some (.ref 2), some (vI (x2 + 28)), some (vI 2), none, none, none] [] S1 (some (vL z5)) S3 ∧ EV q 205 195 [some (.ref a0), some (.ref 9), some (vI x2), some (vI x3), some (.ref 2), some (vL x5), none, some (vI z5), some (vI 0)] [] S3 r S') : EV q 205 172 [some (.ref a0), some (.ref 9), some (vI x2), some (vI x3), some (.ref 2), some (vL x5), none, none, none] [] S r S' := by
  unfold EV
  refine ev_bk 1 (S' := (173, [some (.ref a0), some (.ref 9), some (vI x2), some (vI x3), some (.ref 2), some (vL x5), none, none, none], [.ref a0], hp S, 0, 0)) rfl ?_
  refine mv_gfR rfl rfl (ha0.1) (by decide) rfl ?_
  obtain ⟨S1, e2, F⟩ := F
  refine mv_calv (as := []) (rest := []) e2 (ha0.2.2.2.2.2.1) rfl rfl rfl ⟨rfl, rfl⟩ rfl rfl rfl rfl rfl ?_
  refine ev_bk 3 (S' := (184, [some (.ref a0), some (.ref 9), some (vI x2), some (vI x3), some (.ref 2), some (vL x5), none, none, none], [vI 28, vI x2, .ref 2], hp S1, 0, 0)) rfl ?_
  refine mv_iadd rfl ?_
  refine ev_bk 1 (S' := (186, [some (.ref a0), some (.ref 9), some (vI x2), some (vI x3), some (.ref 2), some (vL x5), none, none, none], [vI 2, vI (x2 + 28), .ref 2], hp S1, 0, 0)) rfl ?_
  obtain ⟨z5, S3, e4, F⟩ := F
  refine mv_cals (as := [.ref 2, vI (x2 + 28), vI 2]) (rest := []) e4 rfl rfl rfl ⟨rfl, rfl, rfl⟩ rfl rfl rfl rfl ?_
  refine mv_l2i rfl ?_
  refine ev_bk 3 (S' := (195, [some (.ref a0), some (.ref 9), some (vI x2), some (vI x3), some (.ref 2), some (vL x5), none, some (vI z5), some (vI 0)], [], hp S3, 0, 0)) rfl ?_
  exact F
theorem vc_Shelf_boxRow_195 {q : Nat × (Nat → Int32)} {S S' : ms} {r : Option Value} (x2 x3 x5 x7 x8 : Int) (a0 : Nat) (ha0 : isShelf a0)
    (F : ((w32 x7 ≤ w32 x8) → ((w32 x7 = 0) → EV q 205 260 [some (.ref a0), some (.ref 9), some (vI x2), some (vI x3), some (.ref 2), some (vL x5), none, some (vI x7), some (vI x8)] [] S r S') ∧ ((¬ w32 x7 = 0) → ((w32 (S.1 (a0 + 5) 2) = 0) → EV q 205 267 [some (.ref a0), some (.ref 9), some (vI x2), some (vI x3), some (.ref 2), some (vL x5), none, some (vI x7), some (vI x8)] [] S r S') ∧ ((¬ w32 (S.1 (a0 + 5) 2) = 0) → EV q 205 260 [some (.ref a0), some (.ref 9), some (vI x2), some (vI x3), some (.ref 2), some (vL x5), none, some (vI x7), some (vI x8)] [] S r S'))) ∧ ((¬ w32 x7 ≤ w32 x8) → (0 ≤ w32 (x2 + 46 + x8) ∧ w32 (x2 + 46 + x8) < (6000 : Nat)) ∧ ∃ (S2 : ms), EV q 19 0 [some (.ref (a0 + 5)), some (vI (S.1 2 (w32 (x2 + 46 + x8))))] [] S none S2 ∧ (0 ≤ w32 (x2 + 46 + x8) ∧ w32 (x2 + 46 + x8) < (6000 : Nat)) ∧ ((¬ w32 (S2.1 2 (w32 (x2 + 46 + x8))) = 0) → EV q 205 239 [some (.ref a0), some (.ref 9), some (vI x2), some (vI x3), some (.ref 2), some (vL x5), none, some (vI x7), some (vI x8)] [] S2 r S') ∧ ((¬ (¬ w32 (S2.1 2 (w32 (x2 + 46 + x8))) = 0)) → ∃ (S5 : ms), EV q 126 0 [some (.ref 9), some (vI 103), some (vI x2)] [] S2 none S5 ∧ EV q 205 239 [some (.ref a0), some (.ref 9), some (vI x2), some (vI x3), some (.ref 2), some (vL x5), none, some (vI x7), some (vI x8)] [] S5 r S'))) : EV q 205 195 [some (.ref a0), some (.ref 9), some (vI x2), some (vI x3), some (.ref 2), some (vL x5), none, some (vI x7), some (vI x8)] [] S r S' := by
  unfold EV
  refine ev_bk 2 (S' := (199, [some (.ref a0), some (.ref 9), some (vI x2), some (vI x3), some (.ref 2), some (vL x5), none, some (vI x7), some (vI x8)], [vI x7, vI x8], hp S, 0, 0)) rfl ?_
  refine mv_icmp 245 rfl rfl (fun c => ?_) (fun c => ?_)
  · have F := F.1 c
    refine ev_bk 1 (S' := (247, [some (.ref a0), some (.ref 9), some (vI x2), some (vI x3), some (.ref 2), some (vL x5), none, some (vI x7), some (vI x8)], [vI x7], hp S, 0, 0)) rfl ?_
    refine mv_if 260 rfl rfl (fun c => ?_) (fun c => ?_)
    · have F := F.1 c
      exact F
    · have F := F.2 c
      refine ev_bk 1 (S' := (251, [some (.ref a0), some (.ref 9), some (vI x2), some (vI x3), some (.ref 2), some (vL x5), none, some (vI x7), some (vI x8)], [.ref a0], hp S, 0, 0)) rfl ?_
      refine mv_gfR rfl rfl (ha0.1) (by decide) rfl ?_
      refine mv_gfI rfl rfl (ha0.2.2.2.2.2.1) (by decide) rfl ?_
      refine mv_if 267 rfl rfl (fun c => ?_) (fun c => ?_)
      · have F := F.1 c
        exact F
      · have F := F.2 c
        exact F
  · have F := F.2 c
    refine ev_bk 1 (S' := (203, [some (.ref a0), some (.ref 9), some (vI x2), some (vI x3), some (.ref 2), some (vL x5), none, some (vI x7), some (vI x8)], [.ref a0], hp S, 0, 0)) rfl ?_
    refine mv_gfR rfl rfl (ha0.1) (by decide) rfl ?_
    refine ev_bk 3 (S' := (211, [some (.ref a0), some (.ref 9), some (vI x2), some (vI x3), some (.ref 2), some (vL x5), none, some (vI x7), some (vI x8)], [vI 46, vI x2, .ref 2, .ref (a0 + 5)], hp S, 0, 0)) rfl ?_
    refine mv_iadd rfl ?_
    refine ev_bk 1 (S' := (214, [some (.ref a0), some (.ref 9), some (vI x2), some (vI x3), some (.ref 2), some (vL x5), none, some (vI x7), some (vI x8)], [vI x8, vI (x2 + 46), .ref 2, .ref (a0 + 5)], hp S, 0, 0)) rfl ?_
    refine mv_iadd rfl ?_
    obtain ⟨b1, F⟩ := F
    refine mv_ial rfl (sh_2) b1 ?_
    obtain ⟨S2, e3, F⟩ := F
    refine mv_calv (as := [vI (S.1 2 (w32 (x2 + 46 + x8)))]) (rest := []) e3 (ha0.2.2.2.2.2.1) rfl rfl rfl ⟨rfl, rfl⟩ rfl rfl rfl rfl rfl ?_
    refine ev_bk 3 (S' := (224, [some (.ref a0), some (.ref 9), some (vI x2), some (vI x3), some (.ref 2), some (vL x5), none, some (vI x7), some (vI x8)], [vI 46, vI x2, .ref 2], hp S2, 0, 0)) rfl ?_
    refine mv_iadd rfl ?_
    refine ev_bk 1 (S' := (227, [some (.ref a0), some (.ref 9), some (vI x2), some (vI x3), some (.ref 2), some (vL x5), none, some (vI x7), some (vI x8)], [vI x8, vI (x2 + 46), .ref 2], hp S2, 0, 0)) rfl ?_
    refine mv_iadd rfl ?_
    obtain ⟨b4, F⟩ := F
    refine mv_ial rfl (sh_2) b4 ?_
    refine mv_if 239 rfl rfl (fun c => ?_) (fun c => ?_)
    · have F := F.1 c
      exact F
    · have F := F.2 c
      refine ev_bk 3 (S' := (236, [some (.ref a0), some (.ref 9), some (vI x2), some (vI x3), some (.ref 2), some (vL x5), none, some (vI x7), some (vI x8)], [vI x2, vI 103, .ref 9], hp S2, 0, 0)) rfl ?_
      obtain ⟨S5, e6, F⟩ := F
      refine mv_calv (as := [vI 103, vI x2]) (rest := []) e6 (sh_9) rfl rfl rfl ⟨rfl, rfl⟩ rfl rfl rfl rfl rfl ?_
      exact F
theorem vc_Shelf_boxRow_239 {q : Nat × (Nat → Int32)} {S S' : ms} {r : Option Value} (x2 x3 x5 x7 x8 : Int) (a0 : Nat) (ha0 : isShelf a0)
    (F : EV q 205 195 [some (.ref a0), some (.ref 9), some (vI x2), some (vI x3), some (.ref 2), some (vL x5), none, some (vI x7), some (vI (x8 + 1))] [] S r S') : EV q 205 239 [some (.ref a0), some (.ref 9), some (vI x2), some (vI x3), some (.ref 2), some (vL x5), none, some (vI x7), some (vI x8)] [] S r S' := by
  unfold EV
  refine mv_inc (lv' := [some (.ref a0), some (.ref 9), some (vI x2), some (vI x3), some (.ref 2), some (vL x5), none, some (vI x7), some (vI (x8 + 1))]) 8 1 rfl rfl rfl rfl ?_
  refine mv_goto 195 rfl rfl ?_
  exact F
theorem vc_Shelf_boxRow_260 {q : Nat × (Nat → Int32)} {S S' : ms} {r : Option Value} (x2 x3 x5 x7 x8 : Int) (a0 : Nat) (ha0 : isShelf a0)
    (F : ∃ (S1 : ms), EV q 126 0 [some (.ref 9), some (vI 103), some (vI x2)] [] S none S1 ∧ EV q 205 267 [some (.ref a0), some (.ref 9), some (vI x2), some (vI x3), some (.ref 2), some (vL x5), none, some (vI x7), some (vI x8)] [] S1 r S') : EV q 205 260 [some (.ref a0), some (.ref 9), some (vI x2), some (vI x3), some (.ref 2), some (vL x5), none, some (vI x7), some (vI x8)] [] S r S' := by
  unfold EV
  refine ev_bk 3 (S' := (264, [some (.ref a0), some (.ref 9), some (vI x2), some (vI x3), some (.ref 2), some (vL x5), none, some (vI x7), some (vI x8)], [vI x2, vI 103, .ref 9], hp S, 0, 0)) rfl ?_
  obtain ⟨S1, e2, F⟩ := F
  refine mv_calv (as := [vI 103, vI x2]) (rest := []) e2 (sh_9) rfl rfl rfl ⟨rfl, rfl⟩ rfl rfl rfl rfl rfl ?_
  exact F
theorem vc_Shelf_boxRow_267 {q : Nat × (Nat → Int32)} {S S' : ms} {r : Option Value} (x2 x3 x5 x7 x8 : Int) (a0 : Nat) (ha0 : isShelf a0)
    (F : ∃ (z3 : Int) (S1 : ms), EV q 155 0 [some (.ref 2), some (vI (x2 + 24)), some (vI 4), none, none, none] [] S (some (vL z3)) S1 ∧ ((w64 z3 ≤ w64 6000) → r = none ∧ S' = S1) ∧ ((¬ w64 z3 ≤ w64 6000) → ∃ (S4 : ms), EV q 126 0 [some (.ref 9), some (vI 104), some (vI x2)] [] S1 none S4 ∧ r = none ∧ S' = S4)) : EV q 205 267 [some (.ref a0), some (.ref 9), some (vI x2), some (vI x3), some (.ref 2), some (vL x5), none, some (vI x7), some (vI x8)] [] S r S' := by
  unfold EV
  refine ev_bk 3 (S' := (272, [some (.ref a0), some (.ref 9), some (vI x2), some (vI x3), some (.ref 2), some (vL x5), none, some (vI x7), some (vI x8)], [vI 24, vI x2, .ref 2], hp S, 0, 0)) rfl ?_
  refine mv_iadd rfl ?_
  refine ev_bk 1 (S' := (274, [some (.ref a0), some (.ref 9), some (vI x2), some (vI x3), some (.ref 2), some (vL x5), none, some (vI x7), some (vI x8)], [vI 4, vI (x2 + 24), .ref 2], hp S, 0, 0)) rfl ?_
  obtain ⟨z3, S1, e2, F⟩ := F
  refine mv_cals (as := [.ref 2, vI (x2 + 24), vI 4]) (rest := []) e2 rfl rfl rfl ⟨rfl, rfl, rfl⟩ rfl rfl rfl rfl ?_
  refine ev_bk 1 (S' := (280, [some (.ref a0), some (.ref 9), some (vI x2), some (vI x3), some (.ref 2), some (vL x5), none, some (vI x7), some (vI x8)], [vL 6000, vL z3], hp S1, 0, 0)) rfl ?_
  refine mv_lif 291 rfl rfl rfl (fun c => ?_) (fun c => ?_)
  · have F := F.1 c
    obtain ⟨rfl, rfl⟩ := F
    exact ev_ret rfl rfl
  · have F := F.2 c
    refine ev_bk 3 (S' := (288, [some (.ref a0), some (.ref 9), some (vI x2), some (vI x3), some (.ref 2), some (vL x5), none, some (vI x7), some (vI x8)], [vI x2, vI 104, .ref 9], hp S1, 0, 0)) rfl ?_
    obtain ⟨S4, e5, F⟩ := F
    refine mv_calv (as := [vI 104, vI x2]) (rest := []) e5 (sh_9) rfl rfl rfl ⟨rfl, rfl⟩ rfl rfl rfl rfl rfl ?_
    obtain ⟨rfl, rfl⟩ := F
    exact ev_ret rfl rfl
theorem vc_Shelf_boxText {q : Nat × (Nat → Int32)} {S S' : ms} {r : Option Value} (x2 x3 : Int) (a0 : Nat) (ha0 : isShelf a0)
    (F : ∃ (z3 : Int) (S1 : ms), EV q 155 0 [some (.ref 2), some (vI (x2 + 42)), some (vI 4), none, none, none] [] S (some (vL z3)) S1 ∧ ∃ (z6 : Int) (S4 : ms), EV q 155 0 [some (.ref 2), some (vI (x2 + 20)), some (vI 4), none, none, none] [] S1 (some (vL z6)) S4 ∧ ∃ (z9 : Int) (S7 : ms), EV q 155 0 [some (.ref 2), some (vI (x2 + 24)), some (vI 4), none, none, none] [] S4 (some (vL z9)) S7 ∧ ((w64 (w32 x3) < w64 ((z3 + 30 + (w32 (S7.1 (a0 + 5) 1))) + z6)) → EV q 206 89 [some (.ref a0), some (.ref 9), some (vI x2), some (vI x3), some (.ref 2), some (vL z3), none, some (vI (min (w64 z3) (w64 2147483647))), some (vL z6), none, some (vL z9), none, none, none, none, none, none] [] S7 r S') ∧ ((¬ w64 (w32 x3) < w64 ((z3 + 30 + (w32 (S7.1 (a0 + 5) 1))) + z6)) → ∃ (z12 : Int) (S10 : ms), EV q 207 0 [some (.ref a0), some (.ref 2), some (vI (min (w64 z3) (w64 2147483647))), some (vI x2), none, none] [] S7 (some (vI z12)) S10 ∧ ((¬ w32 z12 = 0) → ∃ (z15 : Int) (S13 : ms), EV q 155 0 [some (.ref 2), some (vI (x2 + 10)), some (vI 2), none, none, none] [] S10 (some (vL z15)) S13 ∧ ((¬ w64 z15 = w64 8) → EV q 206 120 [some (.ref a0), some (.ref 9), some (vI x2), some (vI x3), some (.ref 2), some (vL z3), none, some (vI (min (w64 z3) (w64 2147483647))), some (vL z6), none, some (vL z9), none, none, none, none, none, none] [vI 0] S13 r S') ∧ ((¬ (¬ w64 z15 = w64 8)) → EV q 206 120 [some (.ref a0), some (.ref 9), some (vI x2), some (vI x3), some (.ref 2), some (vL z3), none, some (vI (min (w64 z3) (w64 2147483647))), some (vL z6), none, some (vL z9), none, none, none, none, none, none] [vI 1] S13 r S')) ∧ ((¬ (¬ w32 z12 = 0)) → EV q 206 89 [some (.ref a0), some (.ref 9), some (vI x2), some (vI x3), some (.ref 2), some (vL z3), none, some (vI (min (w64 z3) (w64 2147483647))), some (vL z6), none, some (vL z9), none, none, none, none, none, none] [] S10 r S'))) : EV q 206 0 [some (.ref a0), some (.ref 9), some (vI x2), some (vI x3), none, none, none, none, none, none, none, none, none, none, none, none, none] [] S r S' := by
  unfold EV
  refine ev_bk 1 (S' := (1, [some (.ref a0), some (.ref 9), some (vI x2), some (vI x3), none, none, none, none, none, none, none, none, none, none, none, none, none], [.ref 9], hp S, 0, 0)) rfl ?_
  refine mv_gfR rfl rfl (sh_9) (by decide) rfl ?_
  refine ev_bk 4 (S' := (11, [some (.ref a0), some (.ref 9), some (vI x2), some (vI x3), some (.ref 2), none, none, none, none, none, none, none, none, none, none, none, none], [vI 42, vI x2, .ref 2], hp S, 0, 0)) rfl ?_
  refine mv_iadd rfl ?_
  refine ev_bk 1 (S' := (13, [some (.ref a0), some (.ref 9), some (vI x2), some (vI x3), some (.ref 2), none, none, none, none, none, none, none, none, none, none, none, none], [vI 4, vI (x2 + 42), .ref 2], hp S, 0, 0)) rfl ?_
  obtain ⟨z3, S1, e2, F⟩ := F
  refine mv_cals (as := [.ref 2, vI (x2 + 42), vI 4]) (rest := []) e2 rfl rfl rfl ⟨rfl, rfl, rfl⟩ rfl rfl rfl rfl ?_
  refine ev_bk 3 (S' := (23, [some (.ref a0), some (.ref 9), some (vI x2), some (vI x3), some (.ref 2), some (vL z3), none, none, none, none, none, none, none, none, none, none, none], [vL 2147483647, vL z3], hp S1, 0, 0)) rfl ?_
  refine mv_lmin rfl rfl rfl ?_
  refine mv_l2i rfl ?_
  refine ev_bk 4 (S' := (34, [some (.ref a0), some (.ref 9), some (vI x2), some (vI x3), some (.ref 2), some (vL z3), none, some (vI (min (w64 z3) (w64 2147483647))), none, none, none, none, none, none, none, none, none], [vI 20, vI x2, .ref 2], hp S1, 0, 0)) rfl ?_
  refine mv_iadd rfl ?_
  refine ev_bk 1 (S' := (36, [some (.ref a0), some (.ref 9), some (vI x2), some (vI x3), some (.ref 2), some (vL z3), none, some (vI (min (w64 z3) (w64 2147483647))), none, none, none, none, none, none, none, none, none], [vI 4, vI (x2 + 20), .ref 2], hp S1, 0, 0)) rfl ?_
  obtain ⟨z6, S4, e5, F⟩ := F
  refine mv_cals (as := [.ref 2, vI (x2 + 20), vI 4]) (rest := []) e5 rfl rfl rfl ⟨rfl, rfl, rfl⟩ rfl rfl rfl rfl ?_
  refine ev_bk 4 (S' := (46, [some (.ref a0), some (.ref 9), some (vI x2), some (vI x3), some (.ref 2), some (vL z3), none, some (vI (min (w64 z3) (w64 2147483647))), some (vL z6), none, none, none, none, none, none, none, none], [vI 24, vI x2, .ref 2], hp S4, 0, 0)) rfl ?_
  refine mv_iadd rfl ?_
  refine ev_bk 1 (S' := (48, [some (.ref a0), some (.ref 9), some (vI x2), some (vI x3), some (.ref 2), some (vL z3), none, some (vI (min (w64 z3) (w64 2147483647))), some (vL z6), none, none, none, none, none, none, none, none], [vI 4, vI (x2 + 24), .ref 2], hp S4, 0, 0)) rfl ?_
  obtain ⟨z9, S7, e8, F⟩ := F
  refine mv_cals (as := [.ref 2, vI (x2 + 24), vI 4]) (rest := []) e8 rfl rfl rfl ⟨rfl, rfl, rfl⟩ rfl rfl rfl rfl ?_
  refine ev_bk 3 (S' := (58, [some (.ref a0), some (.ref 9), some (vI x2), some (vI x3), some (.ref 2), some (vL z3), none, some (vI (min (w64 z3) (w64 2147483647))), some (vL z6), none, some (vL z9), none, none, none, none, none, none], [vL 30, vL z3], hp S7, 0, 0)) rfl ?_
  refine mv_ladd rfl ?_
  refine ev_bk 1 (S' := (60, [some (.ref a0), some (.ref 9), some (vI x2), some (vI x3), some (.ref 2), some (vL z3), none, some (vI (min (w64 z3) (w64 2147483647))), some (vL z6), none, some (vL z9), none, none, none, none, none, none], [.ref a0, vL (z3 + 30)], hp S7, 0, 0)) rfl ?_
  refine mv_gfR rfl rfl (ha0.1) (by decide) rfl ?_
  refine mv_gfI rfl rfl (ha0.2.2.2.2.2.1) (by decide) rfl ?_
  refine mv_i2l rfl ?_
  refine mv_ladd rfl ?_
  refine ev_bk 1 (S' := (70, [some (.ref a0), some (.ref 9), some (vI x2), some (vI x3), some (.ref 2), some (vL z3), none, some (vI (min (w64 z3) (w64 2147483647))), some (vL z6), none, some (vL z9), none, none, none, none, none, none], [vL z6, vL (z3 + 30 + (w32 (S7.1 (a0 + 5) 1)))], hp S7, 0, 0)) rfl ?_
  refine mv_ladd rfl ?_
  refine ev_bk 1 (S' := (72, [some (.ref a0), some (.ref 9), some (vI x2), some (vI x3), some (.ref 2), some (vL z3), none, some (vI (min (w64 z3) (w64 2147483647))), some (vL z6), none, some (vL z9), none, none, none, none, none, none], [vI x3, vL ((z3 + 30 + (w32 (S7.1 (a0 + 5) 1))) + z6)], hp S7, 0, 0)) rfl ?_
  refine mv_i2l rfl ?_
  refine mv_lif 89 rfl rfl rfl (fun c => ?_) (fun c => ?_)
  · have F := F.1 c
    exact F
  · have F := F.2 c
    refine ev_bk 4 (S' := (83, [some (.ref a0), some (.ref 9), some (vI x2), some (vI x3), some (.ref 2), some (vL z3), none, some (vI (min (w64 z3) (w64 2147483647))), some (vL z6), none, some (vL z9), none, none, none, none, none, none], [vI x2, vI (min (w64 z3) (w64 2147483647)), .ref 2, .ref a0], hp S7, 0, 0)) rfl ?_
    obtain ⟨z12, S10, e11, F⟩ := F
    refine mv_calv (as := [.ref 2, vI (min (w64 z3) (w64 2147483647)), vI x2]) (rest := []) e11 (ha0.1) rfl rfl rfl ⟨rfl, rfl⟩ rfl rfl rfl rfl rfl ?_
    refine mv_if 98 rfl rfl (fun c => ?_) (fun c => ?_)
    · have F := F.1 c
      refine ev_bk 3 (S' := (103, [some (.ref a0), some (.ref 9), some (vI x2), some (vI x3), some (.ref 2), some (vL z3), none, some (vI (min (w64 z3) (w64 2147483647))), some (vL z6), none, some (vL z9), none, none, none, none, none, none], [vI 10, vI x2, .ref 2], hp S10, 0, 0)) rfl ?_
      refine mv_iadd rfl ?_
      refine ev_bk 1 (S' := (105, [some (.ref a0), some (.ref 9), some (vI x2), some (vI x3), some (.ref 2), some (vL z3), none, some (vI (min (w64 z3) (w64 2147483647))), some (vL z6), none, some (vL z9), none, none, none, none, none, none], [vI 2, vI (x2 + 10), .ref 2], hp S10, 0, 0)) rfl ?_
      obtain ⟨z15, S13, e14, F⟩ := F
      refine mv_cals (as := [.ref 2, vI (x2 + 10), vI 2]) (rest := []) e14 rfl rfl rfl ⟨rfl, rfl, rfl⟩ rfl rfl rfl rfl ?_
      refine ev_bk 1 (S' := (111, [some (.ref a0), some (.ref 9), some (vI x2), some (vI x3), some (.ref 2), some (vL z3), none, some (vI (min (w64 z3) (w64 2147483647))), some (vL z6), none, some (vL z9), none, none, none, none, none, none], [vL 8, vL z15], hp S13, 0, 0)) rfl ?_
      refine mv_lif 119 rfl rfl rfl (fun c => ?_) (fun c => ?_)
      · have F := F.1 c
        refine ev_bk 1 (S' := (120, [some (.ref a0), some (.ref 9), some (vI x2), some (vI x3), some (.ref 2), some (vL z3), none, some (vI (min (w64 z3) (w64 2147483647))), some (vL z6), none, some (vL z9), none, none, none, none, none, none], [vI 0], hp S13, 0, 0)) rfl ?_
        exact F
      · have F := F.2 c
        refine ev_bk 1 (S' := (116, [some (.ref a0), some (.ref 9), some (vI x2), some (vI x3), some (.ref 2), some (vL z3), none, some (vI (min (w64 z3) (w64 2147483647))), some (vL z6), none, some (vL z9), none, none, none, none, none, none], [vI 1], hp S13, 0, 0)) rfl ?_
        refine mv_goto 120 rfl rfl ?_
        exact F
    · have F := F.2 c
      exact F
theorem vc_Shelf_boxText_89 {q : Nat × (Nat → Int32)} {S S' : ms} {r : Option Value} (x2 x3 x5 x7 x8 x10 : Int) (a0 : Nat) (ha0 : isShelf a0)
    (F : ∃ (S1 : ms), EV q 126 0 [some (.ref 9), some (vI 124), some (vI x7)] [] S none S1 ∧ r = none ∧ S' = S1) : EV q 206 89 [some (.ref a0), some (.ref 9), some (vI x2), some (vI x3), some (.ref 2), some (vL x5), none, some (vI x7), some (vL x8), none, some (vL x10), none, none, none, none, none, none] [] S r S' := by
  unfold EV
  refine ev_bk 3 (S' := (94, [some (.ref a0), some (.ref 9), some (vI x2), some (vI x3), some (.ref 2), some (vL x5), none, some (vI x7), some (vL x8), none, some (vL x10), none, none, none, none, none, none], [vI x7, vI 124, .ref 9], hp S, 0, 0)) rfl ?_
  obtain ⟨S1, e2, F⟩ := F
  refine mv_calv (as := [vI 124, vI x7]) (rest := []) e2 (sh_9) rfl rfl rfl ⟨rfl, rfl⟩ rfl rfl rfl rfl rfl ?_
  obtain ⟨rfl, rfl⟩ := F
  exact ev_ret rfl rfl
theorem vc_Shelf_boxText_120 {q : Nat × (Nat → Int32)} {S S' : ms} {r : Option Value} (x2 x3 x5 x7 x8 x10 y0 : Int) (a0 : Nat) (ha0 : isShelf a0)
    (F : ((¬ w32 y0 = 0) → EV q 206 144 [some (.ref a0), some (.ref 9), some (vI x2), some (vI x3), some (.ref 2), some (vL x5), none, some (vI x7), some (vL x8), none, some (vL x10), none, some (vI y0), none, none, none, none] [] S r S') ∧ ((¬ (¬ w32 y0 = 0)) → ((w64 x8 = w64 x10) → EV q 206 144 [some (.ref a0), some (.ref 9), some (vI x2), some (vI x3), some (.ref 2), some (vL x5), none, some (vI x7), some (vL x8), none, some (vL x10), none, some (vI y0), none, none, none, none] [] S r S') ∧ ((¬ w64 x8 = w64 x10) → ∃ (S1 : ms), EV q 126 0 [some (.ref 9), some (vI 125), some (vI x7)] [] S none S1 ∧ r = none ∧ S' = S1))) : EV q 206 120 [some (.ref a0), some (.ref 9), some (vI x2), some (vI x3), some (.ref 2), some (vL x5), none, some (vI x7), some (vL x8), none, some (vL x10), none, none, none, none, none, none] [vI y0] S r S' := by
  unfold EV
  refine ev_bk 2 (S' := (124, [some (.ref a0), some (.ref 9), some (vI x2), some (vI x3), some (.ref 2), some (vL x5), none, some (vI x7), some (vL x8), none, some (vL x10), none, some (vI y0), none, none, none, none], [vI y0], hp S, 0, 0)) rfl ?_
  refine mv_if 144 rfl rfl (fun c => ?_) (fun c => ?_)
  · have F := F.1 c
    exact F
  · have F := F.2 c
    refine ev_bk 2 (S' := (131, [some (.ref a0), some (.ref 9), some (vI x2), some (vI x3), some (.ref 2), some (vL x5), none, some (vI x7), some (vL x8), none, some (vL x10), none, some (vI y0), none, none, none, none], [vL x10, vL x8], hp S, 0, 0)) rfl ?_
    refine mv_lif 144 rfl rfl rfl (fun c => ?_) (fun c => ?_)
    · have F := F.1 c
      exact F
    · have F := F.2 c
      refine ev_bk 3 (S' := (140, [some (.ref a0), some (.ref 9), some (vI x2), some (vI x3), some (.ref 2), some (vL x5), none, some (vI x7), some (vL x8), none, some (vL x10), none, some (vI y0), none, none, none, none], [vI x7, vI 125, .ref 9], hp S, 0, 0)) rfl ?_
      obtain ⟨S1, e2, F⟩ := F
      refine mv_calv (as := [vI 125, vI x7]) (rest := []) e2 (sh_9) rfl rfl rfl ⟨rfl, rfl⟩ rfl rfl rfl rfl rfl ?_
      obtain ⟨rfl, rfl⟩ := F
      exact ev_ret rfl rfl
theorem vc_Shelf_boxText_144 {q : Nat × (Nat → Int32)} {S S' : ms} {r : Option Value} (x2 x3 x5 x7 x8 x10 x12 : Int) (a0 : Nat) (ha0 : isShelf a0)
    (F : ((w32 x12 = 0) → EV q 206 228 [some (.ref a0), some (.ref 9), some (vI x2), some (vI x3), some (.ref 2), some (vL x5), none, some (vI x7), some (vL x8), none, some (vL x10), none, some (vI x12), some (vI (x7 + 30 + (S.1 (a0 + 5) 1))), some (vI x10), none, none] [] S r S') ∧ ((¬ w32 x12 = 0) → ∃ (S1 : ms), EV q 37 0 [some (.ref 7)] [] S none S1 ∧ ∃ (S3 : ms), EV q 156 0 [some (.ref 9), some (vI (x7 + 30 + (S.1 (a0 + 5) 1))), some (vI ((x7 + 30 + (S.1 (a0 + 5) 1)) + x8))] [] S1 none S3 ∧ ∃ (S5 : ms), EV q 129 0 [some (.ref 30), some (.ref 9), some (vI 32768), none, none] [] S3 none S5 ∧ ∃ (S7 : ms), EV q 125 0 [some (.ref 9)] [] S5 none S7 ∧ ∃ (S9 : ms), EV q 156 0 [some (.ref 9), some (vI (x7 + 30 + (S.1 (a0 + 5) 1))), some (vI (S.1 9 2))] [] S7 none S9 ∧ EV q 206 228 [some (.ref a0), some (.ref 9), some (vI x2), some (vI x3), some (.ref 2), some (vL x5), none, some (vI x7), some (vL x8), none, some (vL x10), none, some (vI x12), some (vI 0), some (vI (S9.1 7 1)), none, none] [] S9 r S')) : EV q 206 144 [some (.ref a0), some (.ref 9), some (vI x2), some (vI x3), some (.ref 2), some (vL x5), none, some (vI x7), some (vL x8), none, some (vL x10), none, some (vI x12), none, none, none, none] [] S r S' := by
  unfold EV
  refine ev_bk 2 (S' := (148, [some (.ref a0), some (.ref 9), some (vI x2), some (vI x3), some (.ref 2), some (vL x5), none, some (vI x7), some (vL x8), none, some (vL x10), none, some (vI x12), none, none, none, none], [vI 30, vI x7], hp S, 0, 0)) rfl ?_
  refine mv_iadd rfl ?_
  refine ev_bk 1 (S' := (150, [some (.ref a0), some (.ref 9), some (vI x2), some (vI x3), some (.ref 2), some (vL x5), none, some (vI x7), some (vL x8), none, some (vL x10), none, some (vI x12), none, none, none, none], [.ref a0, vI (x7 + 30)], hp S, 0, 0)) rfl ?_
  refine mv_gfR rfl rfl (ha0.1) (by decide) rfl ?_
  refine mv_gfI rfl rfl (ha0.2.2.2.2.2.1) (by decide) rfl ?_
  refine mv_iadd rfl ?_
  refine ev_bk 2 (S' := (161, [some (.ref a0), some (.ref 9), some (vI x2), some (vI x3), some (.ref 2), some (vL x5), none, some (vI x7), some (vL x8), none, some (vL x10), none, some (vI x12), some (vI (x7 + 30 + (S.1 (a0 + 5) 1))), none, none, none], [vL x10], hp S, 0, 0)) rfl ?_
  refine mv_l2i rfl ?_
  refine ev_bk 2 (S' := (166, [some (.ref a0), some (.ref 9), some (vI x2), some (vI x3), some (.ref 2), some (vL x5), none, some (vI x7), some (vL x8), none, some (vL x10), none, some (vI x12), some (vI (x7 + 30 + (S.1 (a0 + 5) 1))), some (vI x10), none, none], [vI x12], hp S, 0, 0)) rfl ?_
  refine mv_if 228 rfl rfl (fun c => ?_) (fun c => ?_)
  · have F := F.1 c
    exact F
  · have F := F.2 c
    refine ev_bk 1 (S' := (170, [some (.ref a0), some (.ref 9), some (vI x2), some (vI x3), some (.ref 2), some (vL x5), none, some (vI x7), some (vL x8), none, some (vL x10), none, some (vI x12), some (vI (x7 + 30 + (S.1 (a0 + 5) 1))), some (vI x10), none, none], [.ref 9], hp S, 0, 0)) rfl ?_
    refine mv_gfI rfl rfl (sh_9) (by decide) rfl ?_
    refine ev_bk 2 (S' := (176, [some (.ref a0), some (.ref 9), some (vI x2), some (vI x3), some (.ref 2), some (vL x5), none, some (vI x7), some (vL x8), none, some (vL x10), none, some (vI x12), some (vI (x7 + 30 + (S.1 (a0 + 5) 1))), some (vI x10), some (vI (S.1 9 2)), none], [.ref a0], hp S, 0, 0)) rfl ?_
    refine mv_gfR rfl rfl (ha0.1) (by decide) rfl ?_
    obtain ⟨S1, e2, F⟩ := F
    refine mv_calv (as := []) (rest := []) e2 (sh_7) rfl rfl rfl ⟨rfl, rfl⟩ rfl rfl rfl rfl rfl ?_
    refine ev_bk 4 (S' := (189, [some (.ref a0), some (.ref 9), some (vI x2), some (vI x3), some (.ref 2), some (vL x5), none, some (vI x7), some (vL x8), none, some (vL x10), none, some (vI x12), some (vI (x7 + 30 + (S.1 (a0 + 5) 1))), some (vI x10), some (vI (S.1 9 2)), none], [vL x8, vI (x7 + 30 + (S.1 (a0 + 5) 1)), vI (x7 + 30 + (S.1 (a0 + 5) 1)), .ref 9], hp S1, 0, 0)) rfl ?_
    refine mv_l2i rfl ?_
    refine mv_iadd rfl ?_
    obtain ⟨S3, e4, F⟩ := F
    refine mv_calv (as := [vI (x7 + 30 + (S.1 (a0 + 5) 1)), vI ((x7 + 30 + (S.1 (a0 + 5) 1)) + x8)]) (rest := []) e4 (sh_9) rfl rfl rfl ⟨rfl, rfl⟩ rfl rfl rfl rfl rfl ?_
    refine ev_bk 1 (S' := (195, [some (.ref a0), some (.ref 9), some (vI x2), some (vI x3), some (.ref 2), some (vL x5), none, some (vI x7), some (vL x8), none, some (vL x10), none, some (vI x12), some (vI (x7 + 30 + (S.1 (a0 + 5) 1))), some (vI x10), some (vI (S.1 9 2)), none], [.ref a0], hp S3, 0, 0)) rfl ?_
    refine mv_gfR rfl rfl (ha0.1) (by decide) rfl ?_
    refine ev_bk 2 (S' := (201, [some (.ref a0), some (.ref 9), some (vI x2), some (vI x3), some (.ref 2), some (vL x5), none, some (vI x7), some (vL x8), none, some (vL x10), none, some (vI x12), some (vI (x7 + 30 + (S.1 (a0 + 5) 1))), some (vI x10), some (vI (S.1 9 2)), none], [vI 32768, .ref 9, .ref 30], hp S3, 0, 0)) rfl ?_
    obtain ⟨S5, e6, F⟩ := F
    refine mv_calv (as := [.ref 9, vI 32768]) (rest := []) e6 (sh_30) rfl rfl rfl ⟨rfl, rfl⟩ rfl rfl rfl rfl rfl ?_
    refine ev_bk 1 (S' := (205, [some (.ref a0), some (.ref 9), some (vI x2), some (vI x3), some (.ref 2), some (vL x5), none, some (vI x7), some (vL x8), none, some (vL x10), none, some (vI x12), some (vI (x7 + 30 + (S.1 (a0 + 5) 1))), some (vI x10), some (vI (S.1 9 2)), none], [.ref 9], hp S5, 0, 0)) rfl ?_
    obtain ⟨S7, e8, F⟩ := F
    refine mv_calv (as := []) (rest := []) e8 (sh_9) rfl rfl rfl ⟨rfl, rfl⟩ rfl rfl rfl rfl rfl ?_
    refine ev_bk 3 (S' := (213, [some (.ref a0), some (.ref 9), some (vI x2), some (vI x3), some (.ref 2), some (vL x5), none, some (vI x7), some (vL x8), none, some (vL x10), none, some (vI x12), some (vI (x7 + 30 + (S.1 (a0 + 5) 1))), some (vI x10), some (vI (S.1 9 2)), none], [vI (S.1 9 2), vI (x7 + 30 + (S.1 (a0 + 5) 1)), .ref 9], hp S7, 0, 0)) rfl ?_
    obtain ⟨S9, e10, F⟩ := F
    refine mv_calv (as := [vI (x7 + 30 + (S.1 (a0 + 5) 1)), vI (S.1 9 2)]) (rest := []) e10 (sh_9) rfl rfl rfl ⟨rfl, rfl⟩ rfl rfl rfl rfl rfl ?_
    refine ev_bk 3 (S' := (220, [some (.ref a0), some (.ref 9), some (vI x2), some (vI x3), some (.ref 2), some (vL x5), none, some (vI x7), some (vL x8), none, some (vL x10), none, some (vI x12), some (vI 0), some (vI x10), some (vI (S.1 9 2)), none], [.ref a0], hp S9, 0, 0)) rfl ?_
    refine mv_gfR rfl rfl (ha0.1) (by decide) rfl ?_
    refine mv_gfI rfl rfl (sh_7) (by decide) rfl ?_
    refine ev_bk 1 (S' := (228, [some (.ref a0), some (.ref 9), some (vI x2), some (vI x3), some (.ref 2), some (vL x5), none, some (vI x7), some (vL x8), none, some (vL x10), none, some (vI x12), some (vI 0), some (vI (S9.1 7 1)), some (vI (S.1 9 2)), none], [], hp S9, 0, 0)) rfl ?_
    exact ev_wk (le_s (le_s (le_s (le_s (le_s (le_s (le_s (le_s (le_s (le_s (le_s (le_s (le_s (le_s (le_s (le_n (le_s le_0))))))))))))))))) F
theorem vc_Shelf_boxText_228 {q : Nat × (Nat → Int32)} {S S' : ms} {r : Option Value} (x2 x3 x5 x7 x8 x10 x12 x13 x14 : Int) (a0 : Nat) (ha0 : isShelf a0)
    (F : ((w32 x12 = 0) → EV q 206 245 [some (.ref a0), some (.ref 9), some (vI x2), some (vI x3), some (.ref 2), some (vL x5), none, some (vI x7), some (vL x8), none, some (vL x10), none, some (vI x12), some (vI x13), some (vI x14), none, none] [.ref 2] S r S') ∧ ((¬ w32 x12 = 0) → EV q 206 245 [some (.ref a0), some (.ref 9), some (vI x2), some (vI x3), some (.ref 2), some (vL x5), none, some (vI x7), some (vL x8), none, some (vL x10), none, some (vI x12), some (vI x13), some (vI x14), none, none] [.ref 8] S r S')) : EV q 206 228 [some (.ref a0), some (.ref 9), some (vI x2), some (vI x3), some (.ref 2), some (vL x5), none, some (vI x7), some (vL x8), none, some (vL x10), none, some (vI x12), some (vI x13), some (vI x14), none, none] [] S r S' := by
  unfold EV
  refine ev_bk 1 (S' := (230, [some (.ref a0), some (.ref 9), some (vI x2), some (vI x3), some (.ref 2), some (vL x5), none, some (vI x7), some (vL x8), none, some (vL x10), none, some (vI x12), some (vI x13), some (vI x14), none, none], [vI x12], hp S, 0, 0)) rfl ?_
  refine mv_if 243 rfl rfl (fun c => ?_) (fun c => ?_)
  · have F := F.1 c
    refine ev_bk 1 (S' := (245, [some (.ref a0), some (.ref 9), some (vI x2), some (vI x3), some (.ref 2), some (vL x5), none, some (vI x7), some (vL x8), none, some (vL x10), none, some (vI x12), some (vI x13), some (vI x14), none, none], [.ref 2], hp S, 0, 0)) rfl ?_
    exact F
  · have F := F.2 c
    refine ev_bk 1 (S' := (234, [some (.ref a0), some (.ref 9), some (vI x2), some (vI x3), some (.ref 2), some (vL x5), none, some (vI x7), some (vL x8), none, some (vL x10), none, some (vI x12), some (vI x13), some (vI x14), none, none], [.ref a0], hp S, 0, 0)) rfl ?_
    refine mv_gfR rfl rfl (ha0.1) (by decide) rfl ?_
    refine mv_gfR rfl rfl (sh_7) (by decide) rfl ?_
    refine mv_goto 245 rfl rfl ?_
    exact F
theorem vc_Shelf_boxText_245 {q : Nat × (Nat → Int32)} {S S' : ms} {r : Option Value} (x2 x3 x5 x7 x8 x10 x12 x13 x14 : Int) (a0 : Nat) (ha0 : isShelf a0) (c0 nc0 : Nat) (hc0 : SH c0 = (0, nc0, []))
    (F : ((¬ w64 (w32 x14) = w64 x10) → EV q 206 287 [some (.ref a0), some (.ref 9), some (vI x2), some (vI x3), some (.ref 2), some (vL x5), none, some (vI x7), some (vL x8), none, some (vL x10), none, some (vI x12), some (vI x13), some (vI x14), some (.ref c0), none] [] S r S') ∧ ((¬ (¬ w64 (w32 x14) = w64 x10)) → ∃ (z3 : Int) (S1 : ms), EV q 28 0 [some (.ref c0), some (vI x13), some (vI (x13 + x14)), none, none] [] S (some (vI z3)) S1 ∧ ∃ (z6 : Int) (S4 : ms), EV q 155 0 [some (.ref 2), some (vI (x2 + 16)), some (vI 4), none, none, none] [] S1 (some (vL z6)) S4 ∧ ((w64 ((w32 z3) % 4294967296) = w64 z6) → EV q 206 295 [some (.ref a0), some (.ref 9), some (vI x2), some (vI x3), some (.ref 2), some (vL x5), none, some (vI x7), some (vL x8), none, some (vL x10), none, some (vI x12), some (vI x13), some (vI x14), some (.ref c0), none] [] S4 r S') ∧ ((¬ w64 ((w32 z3) % 4294967296) = w64 z6) → EV q 206 287 [some (.ref a0), some (.ref 9), some (vI x2), some (vI x3), some (.ref 2), some (vL x5), none, some (vI x7), some (vL x8), none, some (vL x10), none, some (vI x12), some (vI x13), some (vI x14), some (.ref c0), none] [] S4 r S'))) : EV q 206 245 [some (.ref a0), some (.ref 9), some (vI x2), some (vI x3), some (.ref 2), some (vL x5), none, some (vI x7), some (vL x8), none, some (vL x10), none, some (vI x12), some (vI x13), some (vI x14), none, none] [.ref c0] S r S' := by
  unfold EV
  refine ev_bk 2 (S' := (249, [some (.ref a0), some (.ref 9), some (vI x2), some (vI x3), some (.ref 2), some (vL x5), none, some (vI x7), some (vL x8), none, some (vL x10), none, some (vI x12), some (vI x13), some (vI x14), some (.ref c0), none], [vI x14], hp S, 0, 0)) rfl ?_
  refine mv_i2l rfl ?_
  refine ev_bk 1 (S' := (252, [some (.ref a0), some (.ref 9), some (vI x2), some (vI x3), some (.ref 2), some (vL x5), none, some (vI x7), some (vL x8), none, some (vL x10), none, some (vI x12), some (vI x13), some (vI x14), some (.ref c0), none], [vL x10, vL (w32 x14)], hp S, 0, 0)) rfl ?_
  refine mv_lif 287 rfl rfl rfl (fun c => ?_) (fun c => ?_)
  · have F := F.1 c
    exact F
  · have F := F.2 c
    refine ev_bk 4 (S' := (264, [some (.ref a0), some (.ref 9), some (vI x2), some (vI x3), some (.ref 2), some (vL x5), none, some (vI x7), some (vL x8), none, some (vL x10), none, some (vI x12), some (vI x13), some (vI x14), some (.ref c0), none], [vI x14, vI x13, vI x13, .ref c0], hp S, 0, 0)) rfl ?_
    refine mv_iadd rfl ?_
    obtain ⟨z3, S1, e2, F⟩ := F
    refine mv_cals (as := [.ref c0, vI x13, vI (x13 + x14)]) (rest := []) e2 rfl rfl rfl ⟨rfl, rfl, rfl⟩ rfl rfl rfl rfl ?_
    refine mv_i2l rfl ?_
    refine ev_bk 1 (S' := (272, [some (.ref a0), some (.ref 9), some (vI x2), some (vI x3), some (.ref 2), some (vL x5), none, some (vI x7), some (vL x8), none, some (vL x10), none, some (vI x12), some (vI x13), some (vI x14), some (.ref c0), none], [vL 4294967295, vL (w32 z3)], hp S1, 0, 0)) rfl ?_
    refine mv_landm 4294967296 32 (by decide) rfl rfl rfl ?_
    refine ev_bk 3 (S' := (278, [some (.ref a0), some (.ref 9), some (vI x2), some (vI x3), some (.ref 2), some (vL x5), none, some (vI x7), some (vL x8), none, some (vL x10), none, some (vI x12), some (vI x13), some (vI x14), some (.ref c0), none], [vI 16, vI x2, .ref 2, vL ((w32 z3) % 4294967296)], hp S1, 0, 0)) rfl ?_
    refine mv_iadd rfl ?_
    refine ev_bk 1 (S' := (280, [some (.ref a0), some (.ref 9), some (vI x2), some (vI x3), some (.ref 2), some (vL x5), none, some (vI x7), some (vL x8), none, some (vL x10), none, some (vI x12), some (vI x13), some (vI x14), some (.ref c0), none], [vI 4, vI (x2 + 16), .ref 2, vL ((w32 z3) % 4294967296)], hp S1, 0, 0)) rfl ?_
    obtain ⟨z6, S4, e5, F⟩ := F
    refine mv_cals (as := [.ref 2, vI (x2 + 16), vI 4]) (rest := [vL ((w32 z3) % 4294967296)]) e5 rfl rfl rfl ⟨rfl, rfl, rfl⟩ rfl rfl rfl rfl ?_
    refine mv_lif 295 rfl rfl rfl (fun c => ?_) (fun c => ?_)
    · have F := F.1 c
      exact F
    · have F := F.2 c
      exact F
theorem vc_Shelf_boxText_287 {q : Nat × (Nat → Int32)} {S S' : ms} {r : Option Value} (x2 x3 x5 x7 x8 x10 x12 x13 x14 : Int) (a0 : Nat) (ha0 : isShelf a0) (a15 na15 : Nat) (ha15 : SH a15 = (0, na15, []))
    (F : ∃ (S1 : ms), EV q 126 0 [some (.ref 9), some (vI 126), some (vI x7)] [] S none S1 ∧ EV q 206 295 [some (.ref a0), some (.ref 9), some (vI x2), some (vI x3), some (.ref 2), some (vL x5), none, some (vI x7), some (vL x8), none, some (vL x10), none, some (vI x12), some (vI x13), some (vI x14), some (.ref a15), none] [] S1 r S') : EV q 206 287 [some (.ref a0), some (.ref 9), some (vI x2), some (vI x3), some (.ref 2), some (vL x5), none, some (vI x7), some (vL x8), none, some (vL x10), none, some (vI x12), some (vI x13), some (vI x14), some (.ref a15), none] [] S r S' := by
  unfold EV
  refine ev_bk 3 (S' := (292, [some (.ref a0), some (.ref 9), some (vI x2), some (vI x3), some (.ref 2), some (vL x5), none, some (vI x7), some (vL x8), none, some (vL x10), none, some (vI x12), some (vI x13), some (vI x14), some (.ref a15), none], [vI x7, vI 126, .ref 9], hp S, 0, 0)) rfl ?_
  obtain ⟨S1, e2, F⟩ := F
  refine mv_calv (as := [vI 126, vI x7]) (rest := []) e2 (sh_9) rfl rfl rfl ⟨rfl, rfl⟩ rfl rfl rfl rfl rfl ?_
  exact F
theorem vc_Shelf_boxText_295 {q : Nat × (Nat → Int32)} {S S' : ms} {r : Option Value} (x2 x3 x5 x7 x8 x10 x12 x13 x14 : Int) (a0 : Nat) (ha0 : isShelf a0) (a15 na15 : Nat) (ha15 : SH a15 = (0, na15, []))
    (F : ((¬ w32 (S.1 9 5) = 0) → r = none ∧ S' = S) ∧ ((¬ (¬ w32 (S.1 9 5) = 0)) → ∃ (z3 : Int) (S1 : ms), EV q 155 0 [some (.ref 2), some (vI (x2 + 40)), some (vI 2), none, none, none] [] S (some (vL z3)) S1 ∧ ∃ (z6 : Int) (S4 : ms), EV q 155 0 [some (.ref 2), some (vI (x2 + 12)), some (vI 4), none, none, none] [] S1 (some (vL z6)) S4 ∧ ∃ (S7 : ms), EV q 180 0 [some (.ref a0), some (.ref (a0 + 5)), some (vI z3), some (vI z6), some (.ref a15), some (vI x13), some (vI x14)] [] S4 none S7 ∧ r = none ∧ S' = S7)) : EV q 206 295 [some (.ref a0), some (.ref 9), some (vI x2), some (vI x3), some (.ref 2), some (vL x5), none, some (vI x7), some (vL x8), none, some (vL x10), none, some (vI x12), some (vI x13), some (vI x14), some (.ref a15), none] [] S r S' := by
  unfold EV
  refine ev_bk 1 (S' := (296, [some (.ref a0), some (.ref 9), some (vI x2), some (vI x3), some (.ref 2), some (vL x5), none, some (vI x7), some (vL x8), none, some (vL x10), none, some (vI x12), some (vI x13), some (vI x14), some (.ref a15), none], [.ref 9], hp S, 0, 0)) rfl ?_
  refine mv_gfI rfl rfl (sh_9) (by decide) rfl ?_
  refine mv_if 342 rfl rfl (fun c => ?_) (fun c => ?_)
  · have F := F.1 c
    obtain ⟨rfl, rfl⟩ := F
    exact ev_ret rfl rfl
  · have F := F.2 c
    refine ev_bk 3 (S' := (307, [some (.ref a0), some (.ref 9), some (vI x2), some (vI x3), some (.ref 2), some (vL x5), none, some (vI x7), some (vL x8), none, some (vL x10), none, some (vI x12), some (vI x13), some (vI x14), some (.ref a15), none], [vI 40, vI x2, .ref 2], hp S, 0, 0)) rfl ?_
    refine mv_iadd rfl ?_
    refine ev_bk 1 (S' := (309, [some (.ref a0), some (.ref 9), some (vI x2), some (vI x3), some (.ref 2), some (vL x5), none, some (vI x7), some (vL x8), none, some (vL x10), none, some (vI x12), some (vI x13), some (vI x14), some (.ref a15), none], [vI 2, vI (x2 + 40), .ref 2], hp S, 0, 0)) rfl ?_
    obtain ⟨z3, S1, e2, F⟩ := F
    refine mv_cals (as := [.ref 2, vI (x2 + 40), vI 2]) (rest := []) e2 rfl rfl rfl ⟨rfl, rfl, rfl⟩ rfl rfl rfl rfl ?_
    refine mv_l2i rfl ?_
    refine ev_bk 3 (S' := (317, [some (.ref a0), some (.ref 9), some (vI x2), some (vI x3), some (.ref 2), some (vL x5), none, some (vI x7), some (vL x8), none, some (vL x10), none, some (vI x12), some (vI x13), some (vI x14), some (.ref a15), some (vI z3)], [.ref a0, .ref a0], hp S1, 0, 0)) rfl ?_
    refine mv_gfR rfl rfl (ha0.1) (by decide) rfl ?_
    refine ev_bk 4 (S' := (327, [some (.ref a0), some (.ref 9), some (vI x2), some (vI x3), some (.ref 2), some (vL x5), none, some (vI x7), some (vL x8), none, some (vL x10), none, some (vI x12), some (vI x13), some (vI x14), some (.ref a15), some (vI z3)], [vI 12, vI x2, .ref 2, vI z3, .ref (a0 + 5), .ref a0], hp S1, 0, 0)) rfl ?_
    refine mv_iadd rfl ?_
    refine ev_bk 1 (S' := (329, [some (.ref a0), some (.ref 9), some (vI x2), some (vI x3), some (.ref 2), some (vL x5), none, some (vI x7), some (vL x8), none, some (vL x10), none, some (vI x12), some (vI x13), some (vI x14), some (.ref a15), some (vI z3)], [vI 4, vI (x2 + 12), .ref 2, vI z3, .ref (a0 + 5), .ref a0], hp S1, 0, 0)) rfl ?_
    obtain ⟨z6, S4, e5, F⟩ := F
    refine mv_cals (as := [.ref 2, vI (x2 + 12), vI 4]) (rest := [vI z3, .ref (a0 + 5), .ref a0]) e5 rfl rfl rfl ⟨rfl, rfl, rfl⟩ rfl rfl rfl rfl ?_
    refine mv_l2i rfl ?_
    refine ev_bk 3 (S' := (339, [some (.ref a0), some (.ref 9), some (vI x2), some (vI x3), some (.ref 2), some (vL x5), none, some (vI x7), some (vL x8), none, some (vL x10), none, some (vI x12), some (vI x13), some (vI x14), some (.ref a15), some (vI z3)], [vI x14, vI x13, .ref a15, vI z6, vI z3, .ref (a0 + 5), .ref a0], hp S4, 0, 0)) rfl ?_
    obtain ⟨S7, e8, F⟩ := F
    refine mv_calv (as := [.ref (a0 + 5), vI z3, vI z6, .ref a15, vI x13, vI x14]) (rest := []) e8 (ha0.1) rfl rfl rfl ⟨rfl, rfl⟩ rfl rfl rfl rfl rfl ?_
    obtain ⟨rfl, rfl⟩ := F
    exact ev_ret rfl rfl
theorem vc_Shelf_headFits {q : Nat × (Nat → Int32)} {S S' : ms} {r : Option Value} (x2 x3 : Int) (a0 : Nat) (ha0 : isShelf a0) (a1 na1 : Nat) (ha1 : SH a1 = (0, na1, []))
    (F : ∃ (z3 : Int) (S1 : ms), EV q 155 0 [some (.ref a1), some (vI x2), some (vI 4), none, none, none] [] S (some (vL z3)) S1 ∧ ((¬ w64 z3 = w64 67324752) → EV q 207 46 [some (.ref a0), some (.ref a1), some (vI x2), some (vI x3), none, none] [] S1 r S') ∧ ((¬ (¬ w64 z3 = w64 67324752)) → ∃ (z6 : Int) (S4 : ms), EV q 155 0 [some (.ref a1), some (vI (x2 + 4)), some (vI 4), none, none, none] [] S1 (some (vL z6)) S4 ∧ ((¬ w64 z6 = w64 20) → EV q 207 46 [some (.ref a0), some (.ref a1), some (vI x2), some (vI x3), none, none] [] S4 r S') ∧ ((¬ (¬ w64 z6 = w64 20)) → ∃ (z9 : Int) (S7 : ms), EV q 155 0 [some (.ref a1), some (vI (x2 + 28)), some (vI 2), none, none, none] [] S4 (some (vL z9)) S7 ∧ ((¬ w64 z9 = w64 0) → EV q 207 46 [some (.ref a0), some (.ref a1), some (vI x2), some (vI x3), none, none] [] S7 r S') ∧ ((¬ (¬ w64 z9 = w64 0)) → EV q 207 47 [some (.ref a0), some (.ref a1), some (vI x2), some (vI x3), none, none] [vI 1] S7 r S')))) : EV q 207 0 [some (.ref a0), some (.ref a1), some (vI x2), some (vI x3), none, none] [] S r S' := by
  unfold EV
  refine ev_bk 3 (S' := (3, [some (.ref a0), some (.ref a1), some (vI x2), some (vI x3), none, none], [vI 4, vI x2, .ref a1], hp S, 0, 0)) rfl ?_
  obtain ⟨z3, S1, e2, F⟩ := F
  refine mv_cals (as := [.ref a1, vI x2, vI 4]) (rest := []) e2 rfl rfl rfl ⟨rfl, rfl, rfl⟩ rfl rfl rfl rfl ?_
  refine ev_bk 1 (S' := (9, [some (.ref a0), some (.ref a1), some (vI x2), some (vI x3), none, none], [vL 67324752, vL z3], hp S1, 0, 0)) rfl ?_
  refine mv_lif 46 rfl rfl rfl (fun c => ?_) (fun c => ?_)
  · have F := F.1 c
    exact F
  · have F := F.2 c
    refine ev_bk 3 (S' := (16, [some (.ref a0), some (.ref a1), some (vI x2), some (vI x3), none, none], [vI 4, vI x2, .ref a1], hp S1, 0, 0)) rfl ?_
    refine mv_iadd rfl ?_
    refine ev_bk 1 (S' := (18, [some (.ref a0), some (.ref a1), some (vI x2), some (vI x3), none, none], [vI 4, vI (x2 + 4), .ref a1], hp S1, 0, 0)) rfl ?_
    obtain ⟨z6, S4, e5, F⟩ := F
    refine mv_cals (as := [.ref a1, vI (x2 + 4), vI 4]) (rest := []) e5 rfl rfl rfl ⟨rfl, rfl, rfl⟩ rfl rfl rfl rfl ?_
    refine ev_bk 1 (S' := (24, [some (.ref a0), some (.ref a1), some (vI x2), some (vI x3), none, none], [vL 20, vL z6], hp S4, 0, 0)) rfl ?_
    refine mv_lif 46 rfl rfl rfl (fun c => ?_) (fun c => ?_)
    · have F := F.1 c
      exact F
    · have F := F.2 c
      refine ev_bk 3 (S' := (32, [some (.ref a0), some (.ref a1), some (vI x2), some (vI x3), none, none], [vI 28, vI x2, .ref a1], hp S4, 0, 0)) rfl ?_
      refine mv_iadd rfl ?_
      refine ev_bk 1 (S' := (34, [some (.ref a0), some (.ref a1), some (vI x2), some (vI x3), none, none], [vI 2, vI (x2 + 28), .ref a1], hp S4, 0, 0)) rfl ?_
      obtain ⟨z9, S7, e8, F⟩ := F
      refine mv_cals (as := [.ref a1, vI (x2 + 28), vI 2]) (rest := []) e8 rfl rfl rfl ⟨rfl, rfl, rfl⟩ rfl rfl rfl rfl ?_
      refine ev_bk 1 (S' := (38, [some (.ref a0), some (.ref a1), some (vI x2), some (vI x3), none, none], [vL 0, vL z9], hp S7, 0, 0)) rfl ?_
      refine mv_lif 46 rfl rfl rfl (fun c => ?_) (fun c => ?_)
      · have F := F.1 c
        exact F
      · have F := F.2 c
        refine ev_bk 1 (S' := (43, [some (.ref a0), some (.ref a1), some (vI x2), some (vI x3), none, none], [vI 1], hp S7, 0, 0)) rfl ?_
        refine mv_goto 47 rfl rfl ?_
        exact F
theorem vc_Shelf_headFits_46 {q : Nat × (Nat → Int32)} {S S' : ms} {r : Option Value} (x2 x3 : Int) (a0 : Nat) (ha0 : isShelf a0) (a1 na1 : Nat) (ha1 : SH a1 = (0, na1, []))
    (F : EV q 207 47 [some (.ref a0), some (.ref a1), some (vI x2), some (vI x3), none, none] [vI 0] S r S') : EV q 207 46 [some (.ref a0), some (.ref a1), some (vI x2), some (vI x3), none, none] [] S r S' := by
  unfold EV
  refine ev_bk 1 (S' := (47, [some (.ref a0), some (.ref a1), some (vI x2), some (vI x3), none, none], [vI 0], hp S, 0, 0)) rfl ?_
  exact F
theorem vc_Shelf_headFits_47 {q : Nat × (Nat → Int32)} {S S' : ms} {r : Option Value} (x2 x3 y0 : Int) (a0 : Nat) (ha0 : isShelf a0) (a1 na1 : Nat) (ha1 : SH a1 = (0, na1, []))
    (F : EV q 207 52 [some (.ref a0), some (.ref a1), some (vI x2), some (vI x3), some (vI y0), some (vI 0)] [] S r S') : EV q 207 47 [some (.ref a0), some (.ref a1), some (vI x2), some (vI x3), none, none] [vI y0] S r S' := by
  unfold EV
  refine ev_bk 3 (S' := (52, [some (.ref a0), some (.ref a1), some (vI x2), some (vI x3), some (vI y0), some (vI 0)], [], hp S, 0, 0)) rfl ?_
  exact F
theorem vc_Shelf_headFits_52 {q : Nat × (Nat → Int32)} {S S' : ms} {r : Option Value} (x2 x3 x4 x5 : Int) (a0 : Nat) (ha0 : isShelf a0) (a1 na1 : Nat) (ha1 : SH a1 = (0, na1, []))
    (F : ((20 ≤ w32 x5) → EV q 207 99 [some (.ref a0), some (.ref a1), some (vI x2), some (vI x3), some (vI x4), some (vI 0)] [] S r S') ∧ ((¬ 20 ≤ w32 x5) → (0 ≤ w32 (x2 + 8 + x5) ∧ w32 (x2 + 8 + x5) < (na1 : Nat)) ∧ (0 ≤ w32 (x3 + 10 + x5) ∧ w32 (x3 + 10 + x5) < (na1 : Nat)) ∧ ((¬ w32 (S.1 a1 (w32 (x2 + 8 + x5))) = w32 (S.1 a1 (w32 (x3 + 10 + x5)))) → EV q 207 87 [some (.ref a0), some (.ref a1), some (vI x2), some (vI x3), some (vI x4), some (vI x5)] [vI 0, vI x4] S r S') ∧ ((¬ (¬ w32 (S.1 a1 (w32 (x2 + 8 + x5))) = w32 (S.1 a1 (w32 (x3 + 10 + x5))))) → EV q 207 87 [some (.ref a0), some (.ref a1), some (vI x2), some (vI x3), some (vI x4), some (vI x5)] [vI 1, vI x4] S r S'))) : EV q 207 52 [some (.ref a0), some (.ref a1), some (vI x2), some (vI x3), some (vI x4), some (vI x5)] [] S r S' := by
  unfold EV
  refine ev_bk 2 (S' := (56, [some (.ref a0), some (.ref a1), some (vI x2), some (vI x3), some (vI x4), some (vI x5)], [vI 20, vI x5], hp S, 0, 0)) rfl ?_
  refine mv_icmp 96 rfl rfl (fun c => ?_) (fun c => ?_)
  · have F := F.1 c
    refine ev_bk 2 (S' := (99, [some (.ref a0), some (.ref a1), some (vI x2), some (vI x3), some (vI x4), some (vI 0)], [], hp S, 0, 0)) rfl ?_
    exact F
  · have F := F.2 c
    refine ev_bk 4 (S' := (65, [some (.ref a0), some (.ref a1), some (vI x2), some (vI x3), some (vI x4), some (vI x5)], [vI 8, vI x2, .ref a1, vI x4], hp S, 0, 0)) rfl ?_
    refine mv_iadd rfl ?_
    refine ev_bk 1 (S' := (68, [some (.ref a0), some (.ref a1), some (vI x2), some (vI x3), some (vI x4), some (vI x5)], [vI x5, vI (x2 + 8), .ref a1, vI x4], hp S, 0, 0)) rfl ?_
    refine mv_iadd rfl ?_
    obtain ⟨b1, F⟩ := F
    refine mv_ial rfl (ha1) b1 ?_
    refine ev_bk 3 (S' := (74, [some (.ref a0), some (.ref a1), some (vI x2), some (vI x3), some (vI x4), some (vI x5)], [vI 10, vI x3, .ref a1, vI (S.1 a1 (w32 (x2 + 8 + x5))), vI x4], hp S, 0, 0)) rfl ?_
    refine mv_iadd rfl ?_
    refine ev_bk 1 (S' := (77, [some (.ref a0), some (.ref a1), some (vI x2), some (vI x3), some (vI x4), some (vI x5)], [vI x5, vI (x3 + 10), .ref a1, vI (S.1 a1 (w32 (x2 + 8 + x5))), vI x4], hp S, 0, 0)) rfl ?_
    refine mv_iadd rfl ?_
    obtain ⟨b2, F⟩ := F
    refine mv_ial rfl (ha1) b2 ?_
    refine mv_icmp 86 rfl rfl (fun c => ?_) (fun c => ?_)
    · have F := F.1 c
      refine ev_bk 1 (S' := (87, [some (.ref a0), some (.ref a1), some (vI x2), some (vI x3), some (vI x4), some (vI x5)], [vI 0, vI x4], hp S, 0, 0)) rfl ?_
      exact F
    · have F := F.2 c
      refine ev_bk 1 (S' := (83, [some (.ref a0), some (.ref a1), some (vI x2), some (vI x3), some (vI x4), some (vI x5)], [vI 1, vI x4], hp S, 0, 0)) rfl ?_
      refine mv_goto 87 rfl rfl ?_
      exact F
theorem vc_Shelf_headFits_87 {q : Nat × (Nat → Int32)} {S S' : ms} {r : Option Value} (x2 x3 x4 x5 y0 y1 : Int) (a0 : Nat) (ha0 : isShelf a0) (a1 na1 : Nat) (ha1 : SH a1 = (0, na1, []))
    (F : EV q 207 52 [some (.ref a0), some (.ref a1), some (vI x2), some (vI x3), some (vI (bA y1 y0)), some (vI (x5 + 1))] [] S r S') : EV q 207 87 [some (.ref a0), some (.ref a1), some (vI x2), some (vI x3), some (vI x4), some (vI x5)] [vI y0, vI y1] S r S' := by
  unfold EV
  refine mv_iand rfl ?_
  refine ev_bk 1 (S' := (90, [some (.ref a0), some (.ref a1), some (vI x2), some (vI x3), some (vI (bA y1 y0)), some (vI x5)], [], hp S, 0, 0)) rfl ?_
  refine mv_inc (lv' := [some (.ref a0), some (.ref a1), some (vI x2), some (vI x3), some (vI (bA y1 y0)), some (vI (x5 + 1))]) 5 1 rfl rfl rfl rfl ?_
  refine mv_goto 52 rfl rfl ?_
  exact F
theorem vc_Shelf_headFits_99 {q : Nat × (Nat → Int32)} {S S' : ms} {r : Option Value} (x2 x3 x4 x5 : Int) (a0 : Nat) (ha0 : isShelf a0) (a1 na1 : Nat) (ha1 : SH a1 = (0, na1, []))
    (F : ((w32 (S.1 (a0 + 5) 1) ≤ w32 x5) → (x4 = 0 ∨ x4 = 1) ∧ r = some (vI x4) ∧ S' = S) ∧ ((¬ w32 (S.1 (a0 + 5) 1) ≤ w32 x5) → (0 ≤ w32 (x2 + 30 + x5) ∧ w32 (x2 + 30 + x5) < (na1 : Nat)) ∧ (0 ≤ w32 x5 ∧ w32 x5 < (100 : Nat)) ∧ ((¬ w32 (S.1 a1 (w32 (x2 + 30 + x5))) = w32 (S.1 (a0 + 6) (w32 x5))) → EV q 207 140 [some (.ref a0), some (.ref a1), some (vI x2), some (vI x3), some (vI x4), some (vI x5)] [vI 0, vI x4] S r S') ∧ ((¬ (¬ w32 (S.1 a1 (w32 (x2 + 30 + x5))) = w32 (S.1 (a0 + 6) (w32 x5)))) → EV q 207 140 [some (.ref a0), some (.ref a1), some (vI x2), some (vI x3), some (vI x4), some (vI x5)] [vI 1, vI x4] S r S'))) : EV q 207 99 [some (.ref a0), some (.ref a1), some (vI x2), some (vI x3), some (vI x4), some (vI x5)] [] S r S' := by
  unfold EV
  refine ev_bk 2 (S' := (102, [some (.ref a0), some (.ref a1), some (vI x2), some (vI x3), some (vI x4), some (vI x5)], [.ref a0, vI x5], hp S, 0, 0)) rfl ?_
  refine mv_gfR rfl rfl (ha0.1) (by decide) rfl ?_
  refine mv_gfI rfl rfl (ha0.2.2.2.2.2.1) (by decide) rfl ?_
  refine mv_icmp 149 rfl rfl (fun c => ?_) (fun c => ?_)
  · have F := F.1 c
    refine ev_bk 1 (S' := (151, [some (.ref a0), some (.ref a1), some (vI x2), some (vI x3), some (vI x4), some (vI x5)], [vI x4], hp S, 0, 0)) rfl ?_
    obtain ⟨b1, F⟩ := F
    obtain ⟨rfl, rfl⟩ := F
    exact mv_zret b1 rfl rfl
  · have F := F.2 c
    refine ev_bk 4 (S' := (117, [some (.ref a0), some (.ref a1), some (vI x2), some (vI x3), some (vI x4), some (vI x5)], [vI 30, vI x2, .ref a1, vI x4], hp S, 0, 0)) rfl ?_
    refine mv_iadd rfl ?_
    refine ev_bk 1 (S' := (120, [some (.ref a0), some (.ref a1), some (vI x2), some (vI x3), some (vI x4), some (vI x5)], [vI x5, vI (x2 + 30), .ref a1, vI x4], hp S, 0, 0)) rfl ?_
    refine mv_iadd rfl ?_
    obtain ⟨b2, F⟩ := F
    refine mv_ial rfl (ha1) b2 ?_
    refine ev_bk 1 (S' := (123, [some (.ref a0), some (.ref a1), some (vI x2), some (vI x3), some (vI x4), some (vI x5)], [.ref a0, vI (S.1 a1 (w32 (x2 + 30 + x5))), vI x4], hp S, 0, 0)) rfl ?_
    refine mv_gfR rfl rfl (ha0.1) (by decide) rfl ?_
    refine mv_gfR rfl rfl (ha0.2.2.2.2.2.1) (by decide) rfl ?_
    refine ev_bk 1 (S' := (131, [some (.ref a0), some (.ref a1), some (vI x2), some (vI x3), some (vI x4), some (vI x5)], [vI x5, .ref (a0 + 6), vI (S.1 a1 (w32 (x2 + 30 + x5))), vI x4], hp S, 0, 0)) rfl ?_
    obtain ⟨b3, F⟩ := F
    refine mv_ial rfl (ha0.2.2.2.2.2.2.1) b3 ?_
    refine mv_icmp 139 rfl rfl (fun c => ?_) (fun c => ?_)
    · have F := F.1 c
      refine ev_bk 1 (S' := (140, [some (.ref a0), some (.ref a1), some (vI x2), some (vI x3), some (vI x4), some (vI x5)], [vI 0, vI x4], hp S, 0, 0)) rfl ?_
      exact F
    · have F := F.2 c
      refine ev_bk 1 (S' := (136, [some (.ref a0), some (.ref a1), some (vI x2), some (vI x3), some (vI x4), some (vI x5)], [vI 1, vI x4], hp S, 0, 0)) rfl ?_
      refine mv_goto 140 rfl rfl ?_
      exact F
theorem vc_Shelf_headFits_140 {q : Nat × (Nat → Int32)} {S S' : ms} {r : Option Value} (x2 x3 x4 x5 y0 y1 : Int) (a0 : Nat) (ha0 : isShelf a0) (a1 na1 : Nat) (ha1 : SH a1 = (0, na1, []))
    (F : EV q 207 99 [some (.ref a0), some (.ref a1), some (vI x2), some (vI x3), some (vI (bA y1 y0)), some (vI (x5 + 1))] [] S r S') : EV q 207 140 [some (.ref a0), some (.ref a1), some (vI x2), some (vI x3), some (vI x4), some (vI x5)] [vI y0, vI y1] S r S' := by
  unfold EV
  refine mv_iand rfl ?_
  refine ev_bk 1 (S' := (143, [some (.ref a0), some (.ref a1), some (vI x2), some (vI x3), some (vI (bA y1 y0)), some (vI x5)], [], hp S, 0, 0)) rfl ?_
  refine mv_inc (lv' := [some (.ref a0), some (.ref a1), some (vI x2), some (vI x3), some (vI (bA y1 y0)), some (vI (x5 + 1))]) 5 1 rfl rfl rfl rfl ?_
  refine mv_goto 99 rfl rfl ?_
  exact F
theorem vc_Shelf_isUnsafe {q : Nat × (Nat → Int32)} {S S' : ms} {r : Option Value} (x1 : Int) (a0 : Nat) (ha0 : isShelf a0)
    (F : (0 ≤ w32 x1 ∧ w32 x1 < (16 : Nat)) ∧ ∃ (o2 no2 : Nat), sh_r (SH (a0 + 1)).2.2 (w32 x1).toNat = some o2 ∧ isRow o2 no2 ∧ ((w32 (S.1 o2 1) ≤ 0) → EV q 209 34 [some (.ref a0), some (vI x1), some (.ref o2), some (vI 0), some (vI 1), none, none, none] [] S r S') ∧ ((¬ w32 (S.1 o2 1) ≤ 0) → (0 ≤ w32 0 ∧ w32 0 < (no2 : Nat)) ∧ ((¬ w32 (S.1 (o2 + 1) (w32 0)) = 47) → EV q 209 34 [some (.ref a0), some (vI x1), some (.ref o2), some (vI 0), some (vI 1), none, none, none] [] S r S') ∧ ((¬ (¬ w32 (S.1 (o2 + 1) (w32 0)) = 47)) → EV q 209 35 [some (.ref a0), some (vI x1), some (.ref o2), some (vI 0), some (vI 1), none, none, none] [vI 1] S r S'))) : EV q 209 0 [some (.ref a0), some (vI x1), none, none, none, none, none, none] [] S r S' := by
  unfold EV
  refine ev_bk 1 (S' := (1, [some (.ref a0), some (vI x1), none, none, none, none, none, none], [.ref a0], hp S, 0, 0)) rfl ?_
  refine mv_gfR rfl rfl (ha0.1) (by decide) rfl ?_
  refine ev_bk 1 (S' := (5, [some (.ref a0), some (vI x1), none, none, none, none, none, none], [vI x1, .ref (a0 + 1)], hp S, 0, 0)) rfl ?_
  obtain ⟨b1, o2, no2, e4, h3, F⟩ := F
  refine mv_aaV rfl (ha0.2.1) (Or.inl rfl) b1 e4 ?_
  refine ev_bk 6 (S' := (13, [some (.ref a0), some (vI x1), some (.ref o2), some (vI 0), some (vI 1), none, none, none], [.ref o2], hp S, 0, 0)) rfl ?_
  refine mv_gfI rfl rfl (h3.1) (by decide) rfl ?_
  refine mv_if 34 rfl rfl (fun c => ?_) (fun c => ?_)
  · have F := F.1 c
    exact F
  · have F := F.2 c
    refine ev_bk 1 (S' := (20, [some (.ref a0), some (vI x1), some (.ref o2), some (vI 0), some (vI 1), none, none, none], [.ref o2], hp S, 0, 0)) rfl ?_
    refine mv_gfR rfl rfl (h3.1) (by decide) rfl ?_
    refine ev_bk 1 (S' := (24, [some (.ref a0), some (vI x1), some (.ref o2), some (vI 0), some (vI 1), none, none, none], [vI 0, .ref (o2 + 1)], hp S, 0, 0)) rfl ?_
    obtain ⟨b5, F⟩ := F
    refine mv_ial rfl (h3.2) b5 ?_
    refine ev_bk 1 (S' := (27, [some (.ref a0), some (vI x1), some (.ref o2), some (vI 0), some (vI 1), none, none, none], [vI 47, vI (S.1 (o2 + 1) (w32 0))], hp S, 0, 0)) rfl ?_
    refine mv_icmp 34 rfl rfl (fun c => ?_) (fun c => ?_)
    · have F := F.1 c
      exact F
    · have F := F.2 c
      refine ev_bk 1 (S' := (31, [some (.ref a0), some (vI x1), some (.ref o2), some (vI 0), some (vI 1), none, none, none], [vI 1], hp S, 0, 0)) rfl ?_
      refine mv_goto 35 rfl rfl ?_
      exact F
theorem vc_Shelf_isUnsafe_34 {q : Nat × (Nat → Int32)} {S S' : ms} {r : Option Value} (x1 x3 x4 : Int) (a0 : Nat) (ha0 : isShelf a0) (a2 na2 : Nat) (ha2 : isRow a2 na2)
    (F : EV q 209 35 [some (.ref a0), some (vI x1), some (.ref a2), some (vI x3), some (vI x4), none, none, none] [vI 0] S r S') : EV q 209 34 [some (.ref a0), some (vI x1), some (.ref a2), some (vI x3), some (vI x4), none, none, none] [] S r S' := by
  unfold EV
  refine ev_bk 1 (S' := (35, [some (.ref a0), some (vI x1), some (.ref a2), some (vI x3), some (vI x4), none, none, none], [vI 0], hp S, 0, 0)) rfl ?_
  exact F
theorem vc_Shelf_isUnsafe_35 {q : Nat × (Nat → Int32)} {S S' : ms} {r : Option Value} (x1 x3 x4 y0 : Int) (a0 : Nat) (ha0 : isShelf a0) (a2 na2 : Nat) (ha2 : isRow a2 na2)
    (F : EV q 209 40 [some (.ref a0), some (vI x1), some (.ref a2), some (vI x3), some (vI x4), some (vI y0), some (vI 0), none] [] S r S') : EV q 209 35 [some (.ref a0), some (vI x1), some (.ref a2), some (vI x3), some (vI x4), none, none, none] [vI y0] S r S' := by
  unfold EV
  refine ev_bk 3 (S' := (40, [some (.ref a0), some (vI x1), some (.ref a2), some (vI x3), some (vI x4), some (vI y0), some (vI 0), none], [], hp S, 0, 0)) rfl ?_
  exact F
theorem vc_Shelf_isUnsafe_40 {q : Nat × (Nat → Int32)} {S S' : ms} {r : Option Value} (x1 x3 x4 x5 x6 : Int) (a0 : Nat) (ha0 : isShelf a0) (a2 na2 : Nat) (ha2 : isRow a2 na2)
    (F : ((w32 (S.1 a2 1) < w32 x6) → (x5 = 0 ∨ x5 = 1) ∧ r = some (vI x5) ∧ S' = S) ∧ ((¬ w32 (S.1 a2 1) < w32 x6) → ((w32 (S.1 a2 1) ≤ w32 x6) → EV q 209 70 [some (.ref a0), some (vI x1), some (.ref a2), some (vI x3), some (vI x4), some (vI x5), some (vI x6), none] [vI 47] S r S') ∧ ((¬ w32 (S.1 a2 1) ≤ w32 x6) → (0 ≤ w32 x6 ∧ w32 x6 < (na2 : Nat)) ∧ EV q 209 70 [some (.ref a0), some (vI x1), some (.ref a2), some (vI x3), some (vI x4), some (vI x5), some (vI x6), none] [vI (S.1 (a2 + 1) (w32 x6))] S r S'))) : EV q 209 40 [some (.ref a0), some (vI x1), some (.ref a2), some (vI x3), some (vI x4), some (vI x5), some (vI x6), none] [] S r S' := by
  unfold EV
  refine ev_bk 2 (S' := (43, [some (.ref a0), some (vI x1), some (.ref a2), some (vI x3), some (vI x4), some (vI x5), some (vI x6), none], [.ref a2, vI x6], hp S, 0, 0)) rfl ?_
  refine mv_gfI rfl rfl (ha2.1) (by decide) rfl ?_
  refine mv_icmp 164 rfl rfl (fun c => ?_) (fun c => ?_)
  · have F := F.1 c
    refine ev_bk 1 (S' := (166, [some (.ref a0), some (vI x1), some (.ref a2), some (vI x3), some (vI x4), some (vI x5), some (vI x6), none], [vI x5], hp S, 0, 0)) rfl ?_
    obtain ⟨b1, F⟩ := F
    obtain ⟨rfl, rfl⟩ := F
    exact mv_zret b1 rfl rfl
  · have F := F.2 c
    refine ev_bk 2 (S' := (52, [some (.ref a0), some (vI x1), some (.ref a2), some (vI x3), some (vI x4), some (vI x5), some (vI x6), none], [.ref a2, vI x6], hp S, 0, 0)) rfl ?_
    refine mv_gfI rfl rfl (ha2.1) (by decide) rfl ?_
    refine mv_icmp 68 rfl rfl (fun c => ?_) (fun c => ?_)
    · have F := F.1 c
      refine ev_bk 1 (S' := (70, [some (.ref a0), some (vI x1), some (.ref a2), some (vI x3), some (vI x4), some (vI x5), some (vI x6), none], [vI 47], hp S, 0, 0)) rfl ?_
      exact F
    · have F := F.2 c
      refine ev_bk 1 (S' := (59, [some (.ref a0), some (vI x1), some (.ref a2), some (vI x3), some (vI x4), some (vI x5), some (vI x6), none], [.ref a2], hp S, 0, 0)) rfl ?_
      refine mv_gfR rfl rfl (ha2.1) (by decide) rfl ?_
      refine ev_bk 1 (S' := (64, [some (.ref a0), some (vI x1), some (.ref a2), some (vI x3), some (vI x4), some (vI x5), some (vI x6), none], [vI x6, .ref (a2 + 1)], hp S, 0, 0)) rfl ?_
      obtain ⟨b2, F⟩ := F
      refine mv_ial rfl (ha2.2) b2 ?_
      refine mv_goto 70 rfl rfl ?_
      exact F
theorem vc_Shelf_isUnsafe_70 {q : Nat × (Nat → Int32)} {S S' : ms} {r : Option Value} (x1 x3 x4 x5 x6 y0 : Int) (a0 : Nat) (ha0 : isShelf a0) (a2 na2 : Nat) (ha2 : isRow a2 na2)
    (F : ((¬ w32 y0 = 47) → EV q 209 110 [some (.ref a0), some (vI x1), some (.ref a2), some (vI x3), some (vI x4), some (vI x5), some (vI x6), some (vI y0)] [] S r S') ∧ ((¬ (¬ w32 y0 = 47)) → ((w32 x4 = 0) → EV q 209 98 [some (.ref a0), some (vI x1), some (.ref a2), some (vI x3), some (vI x4), some (vI x5), some (vI x6), some (vI y0)] [vI x5] S r S') ∧ ((¬ w32 x4 = 0) → ((¬ w32 (x6 - x3) = 2) → EV q 209 98 [some (.ref a0), some (vI x1), some (.ref a2), some (vI x3), some (vI x4), some (vI x5), some (vI x6), some (vI y0)] [vI x5] S r S') ∧ ((¬ (¬ w32 (x6 - x3) = 2)) → EV q 209 99 [some (.ref a0), some (vI x1), some (.ref a2), some (vI x3), some (vI x4), some (vI x5), some (vI x6), some (vI y0)] [vI 1, vI x5] S r S')))) : EV q 209 70 [some (.ref a0), some (vI x1), some (.ref a2), some (vI x3), some (vI x4), some (vI x5), some (vI x6), none] [vI y0] S r S' := by
  unfold EV
  refine ev_bk 3 (S' := (76, [some (.ref a0), some (vI x1), some (.ref a2), some (vI x3), some (vI x4), some (vI x5), some (vI x6), some (vI y0)], [vI 47, vI y0], hp S, 0, 0)) rfl ?_
  refine mv_icmp 110 rfl rfl (fun c => ?_) (fun c => ?_)
  · have F := F.1 c
    exact F
  · have F := F.2 c
    refine ev_bk 2 (S' := (83, [some (.ref a0), some (vI x1), some (.ref a2), some (vI x3), some (vI x4), some (vI x5), some (vI x6), some (vI y0)], [vI x4, vI x5], hp S, 0, 0)) rfl ?_
    refine mv_if 98 rfl rfl (fun c => ?_) (fun c => ?_)
    · have F := F.1 c
      exact F
    · have F := F.2 c
      refine ev_bk 2 (S' := (89, [some (.ref a0), some (vI x1), some (.ref a2), some (vI x3), some (vI x4), some (vI x5), some (vI x6), some (vI y0)], [vI x3, vI x6, vI x5], hp S, 0, 0)) rfl ?_
      refine mv_isub rfl ?_
      refine ev_bk 1 (S' := (91, [some (.ref a0), some (vI x1), some (.ref a2), some (vI x3), some (vI x4), some (vI x5), some (vI x6), some (vI y0)], [vI 2, vI (x6 - x3), vI x5], hp S, 0, 0)) rfl ?_
      refine mv_icmp 98 rfl rfl (fun c => ?_) (fun c => ?_)
      · have F := F.1 c
        exact F
      · have F := F.2 c
        refine ev_bk 1 (S' := (95, [some (.ref a0), some (vI x1), some (.ref a2), some (vI x3), some (vI x4), some (vI x5), some (vI x6), some (vI y0)], [vI 1, vI x5], hp S, 0, 0)) rfl ?_
        refine mv_goto 99 rfl rfl ?_
        exact F
theorem vc_Shelf_isUnsafe_98 {q : Nat × (Nat → Int32)} {S S' : ms} {r : Option Value} (x1 x3 x4 x5 x6 x7 y0 : Int) (a0 : Nat) (ha0 : isShelf a0) (a2 na2 : Nat) (ha2 : isRow a2 na2)
    (F : EV q 209 99 [some (.ref a0), some (vI x1), some (.ref a2), some (vI x3), some (vI x4), some (vI x5), some (vI x6), some (vI x7)] [vI 0, vI y0] S r S') : EV q 209 98 [some (.ref a0), some (vI x1), some (.ref a2), some (vI x3), some (vI x4), some (vI x5), some (vI x6), some (vI x7)] [vI y0] S r S' := by
  unfold EV
  refine ev_bk 1 (S' := (99, [some (.ref a0), some (vI x1), some (.ref a2), some (vI x3), some (vI x4), some (vI x5), some (vI x6), some (vI x7)], [vI 0, vI y0], hp S, 0, 0)) rfl ?_
  exact F
theorem vc_Shelf_isUnsafe_99 {q : Nat × (Nat → Int32)} {S S' : ms} {r : Option Value} (x1 x3 x4 x5 x6 x7 y0 y1 : Int) (a0 : Nat) (ha0 : isShelf a0) (a2 na2 : Nat) (ha2 : isRow a2 na2)
    (F : EV q 209 110 [some (.ref a0), some (vI x1), some (.ref a2), some (vI (x6 + 1)), some (vI 1), some (vI (bO y1 y0)), some (vI x6), some (vI x7)] [] S r S') : EV q 209 99 [some (.ref a0), some (vI x1), some (.ref a2), some (vI x3), some (vI x4), some (vI x5), some (vI x6), some (vI x7)] [vI y0, vI y1] S r S' := by
  unfold EV
  refine mv_ior rfl ?_
  refine ev_bk 3 (S' := (105, [some (.ref a0), some (vI x1), some (.ref a2), some (vI x3), some (vI x4), some (vI (bO y1 y0)), some (vI x6), some (vI x7)], [vI 1, vI x6], hp S, 0, 0)) rfl ?_
  refine mv_iadd rfl ?_
  refine ev_bk 3 (S' := (110, [some (.ref a0), some (vI x1), some (.ref a2), some (vI (x6 + 1)), some (vI 1), some (vI (bO y1 y0)), some (vI x6), some (vI x7)], [], hp S, 0, 0)) rfl ?_
  exact F
theorem vc_Shelf_isUnsafe_110 {q : Nat × (Nat → Int32)} {S S' : ms} {r : Option Value} (x1 x3 x4 x5 x6 x7 : Int) (a0 : Nat) (ha0 : isShelf a0) (a2 na2 : Nat) (ha2 : isRow a2 na2)
    (F : ((w32 x7 = 46) → EV q 209 126 [some (.ref a0), some (vI x1), some (.ref a2), some (vI x3), some (vI x4), some (vI x5), some (vI x6), some (vI x7)] [vI x4] S r S') ∧ ((¬ w32 x7 = 46) → ((¬ w32 x7 = 47) → EV q 209 131 [some (.ref a0), some (vI x1), some (.ref a2), some (vI x3), some (vI x4), some (vI x5), some (vI x6), some (vI x7)] [vI 0, vI x4] S r S') ∧ ((¬ (¬ w32 x7 = 47)) → EV q 209 126 [some (.ref a0), some (vI x1), some (.ref a2), some (vI x3), some (vI x4), some (vI x5), some (vI x6), some (vI x7)] [vI x4] S r S'))) : EV q 209 110 [some (.ref a0), some (vI x1), some (.ref a2), some (vI x3), some (vI x4), some (vI x5), some (vI x6), some (vI x7)] [] S r S' := by
  unfold EV
  refine ev_bk 3 (S' := (116, [some (.ref a0), some (vI x1), some (.ref a2), some (vI x3), some (vI x4), some (vI x5), some (vI x6), some (vI x7)], [vI 46, vI x7, vI x4], hp S, 0, 0)) rfl ?_
  refine mv_icmp 126 rfl rfl (fun c => ?_) (fun c => ?_)
  · have F := F.1 c
    exact F
  · have F := F.2 c
    refine ev_bk 2 (S' := (123, [some (.ref a0), some (vI x1), some (.ref a2), some (vI x3), some (vI x4), some (vI x5), some (vI x6), some (vI x7)], [vI 47, vI x7, vI x4], hp S, 0, 0)) rfl ?_
    refine mv_icmp 130 rfl rfl (fun c => ?_) (fun c => ?_)
    · have F := F.1 c
      refine ev_bk 1 (S' := (131, [some (.ref a0), some (vI x1), some (.ref a2), some (vI x3), some (vI x4), some (vI x5), some (vI x6), some (vI x7)], [vI 0, vI x4], hp S, 0, 0)) rfl ?_
      exact F
    · have F := F.2 c
      exact F
theorem vc_Shelf_isUnsafe_126 {q : Nat × (Nat → Int32)} {S S' : ms} {r : Option Value} (x1 x3 x4 x5 x6 x7 y0 : Int) (a0 : Nat) (ha0 : isShelf a0) (a2 na2 : Nat) (ha2 : isRow a2 na2)
    (F : EV q 209 131 [some (.ref a0), some (vI x1), some (.ref a2), some (vI x3), some (vI x4), some (vI x5), some (vI x6), some (vI x7)] [vI 1, vI y0] S r S') : EV q 209 126 [some (.ref a0), some (vI x1), some (.ref a2), some (vI x3), some (vI x4), some (vI x5), some (vI x6), some (vI x7)] [vI y0] S r S' := by
  unfold EV
  refine ev_bk 1 (S' := (127, [some (.ref a0), some (vI x1), some (.ref a2), some (vI x3), some (vI x4), some (vI x5), some (vI x6), some (vI x7)], [vI 1, vI y0], hp S, 0, 0)) rfl ?_
  refine mv_goto 131 rfl rfl ?_
  exact F
theorem vc_Shelf_isUnsafe_131 {q : Nat × (Nat → Int32)} {S S' : ms} {r : Option Value} (x1 x3 x4 x5 x6 x7 y0 y1 : Int) (a0 : Nat) (ha0 : isShelf a0) (a2 na2 : Nat) (ha2 : isRow a2 na2)
    (F : ((w32 x7 = 92) → EV q 209 150 [some (.ref a0), some (vI x1), some (.ref a2), some (vI x3), some (vI (bA y1 y0)), some (vI x5), some (vI x6), some (vI x7)] [vI x5] S r S') ∧ ((¬ w32 x7 = 92) → ((¬ w32 x7 = 58) → EV q 209 155 [some (.ref a0), some (vI x1), some (.ref a2), some (vI x3), some (vI (bA y1 y0)), some (vI x5), some (vI x6), some (vI x7)] [vI 0, vI x5] S r S') ∧ ((¬ (¬ w32 x7 = 58)) → EV q 209 150 [some (.ref a0), some (vI x1), some (.ref a2), some (vI x3), some (vI (bA y1 y0)), some (vI x5), some (vI x6), some (vI x7)] [vI x5] S r S'))) : EV q 209 131 [some (.ref a0), some (vI x1), some (.ref a2), some (vI x3), some (vI x4), some (vI x5), some (vI x6), some (vI x7)] [vI y0, vI y1] S r S' := by
  unfold EV
  refine mv_iand rfl ?_
  refine ev_bk 4 (S' := (140, [some (.ref a0), some (vI x1), some (.ref a2), some (vI x3), some (vI (bA y1 y0)), some (vI x5), some (vI x6), some (vI x7)], [vI 92, vI x7, vI x5], hp S, 0, 0)) rfl ?_
  refine mv_icmp 150 rfl rfl (fun c => ?_) (fun c => ?_)
  · have F := F.1 c
    exact F
  · have F := F.2 c
    refine ev_bk 2 (S' := (147, [some (.ref a0), some (vI x1), some (.ref a2), some (vI x3), some (vI (bA y1 y0)), some (vI x5), some (vI x6), some (vI x7)], [vI 58, vI x7, vI x5], hp S, 0, 0)) rfl ?_
    refine mv_icmp 154 rfl rfl (fun c => ?_) (fun c => ?_)
    · have F := F.1 c
      refine ev_bk 1 (S' := (155, [some (.ref a0), some (vI x1), some (.ref a2), some (vI x3), some (vI (bA y1 y0)), some (vI x5), some (vI x6), some (vI x7)], [vI 0, vI x5], hp S, 0, 0)) rfl ?_
      exact F
    · have F := F.2 c
      exact F
theorem vc_Shelf_isUnsafe_150 {q : Nat × (Nat → Int32)} {S S' : ms} {r : Option Value} (x1 x3 x4 x5 x6 x7 y0 : Int) (a0 : Nat) (ha0 : isShelf a0) (a2 na2 : Nat) (ha2 : isRow a2 na2)
    (F : EV q 209 155 [some (.ref a0), some (vI x1), some (.ref a2), some (vI x3), some (vI x4), some (vI x5), some (vI x6), some (vI x7)] [vI 1, vI y0] S r S') : EV q 209 150 [some (.ref a0), some (vI x1), some (.ref a2), some (vI x3), some (vI x4), some (vI x5), some (vI x6), some (vI x7)] [vI y0] S r S' := by
  unfold EV
  refine ev_bk 1 (S' := (151, [some (.ref a0), some (vI x1), some (.ref a2), some (vI x3), some (vI x4), some (vI x5), some (vI x6), some (vI x7)], [vI 1, vI y0], hp S, 0, 0)) rfl ?_
  refine mv_goto 155 rfl rfl ?_
  exact F
theorem vc_Shelf_isUnsafe_155 {q : Nat × (Nat → Int32)} {S S' : ms} {r : Option Value} (x1 x3 x4 x5 x6 x7 y0 y1 : Int) (a0 : Nat) (ha0 : isShelf a0) (a2 na2 : Nat) (ha2 : isRow a2 na2)
    (F : EV q 209 40 [some (.ref a0), some (vI x1), some (.ref a2), some (vI x3), some (vI x4), some (vI (bO y1 y0)), some (vI (x6 + 1)), none] [] S r S') : EV q 209 155 [some (.ref a0), some (vI x1), some (.ref a2), some (vI x3), some (vI x4), some (vI x5), some (vI x6), some (vI x7)] [vI y0, vI y1] S r S' := by
  unfold EV
  refine mv_ior rfl ?_
  refine ev_bk 1 (S' := (158, [some (.ref a0), some (vI x1), some (.ref a2), some (vI x3), some (vI x4), some (vI (bO y1 y0)), some (vI x6), some (vI x7)], [], hp S, 0, 0)) rfl ?_
  refine mv_inc (lv' := [some (.ref a0), some (vI x1), some (.ref a2), some (vI x3), some (vI x4), some (vI (bO y1 y0)), some (vI (x6 + 1)), some (vI x7)]) 6 1 rfl rfl rfl rfl ?_
  refine mv_goto 40 rfl rfl ?_
  exact ev_wk (le_s (le_s (le_s (le_s (le_s (le_s (le_s (le_n le_0)))))))) F
