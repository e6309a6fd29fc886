/-! what is to be shown of each method, by program (wip/gen/vcall.py) -/
theorem vc_MD_rest {q : Nat × (Nat → Int32)} {S S' : ms} {r : Option Value} (x1 : Int)
    (F : EV q 313 2 [some (.ref 367), some (vI x1), some (vI x1)] [] S r S') : EV q 313 0 [some (.ref 367), some (vI x1), none] [] S r S' := by
  unfold EV
  refine ev_bk 2 (S' := (2, [some (.ref 367), some (vI x1), some (vI x1)], [], hp S, 0, 0)) rfl ?_
  exact F
theorem vc_MD_rest_2 {q : Nat × (Nat → Int32)} {S S' : ms} {r : Option Value} (x1 x2 : Int)
    (F : ((w32 x2 < 255) → ∃ (S1 : ms), EV q 282 0 [some (.ref 367), some (vI x2)] [] S none S1 ∧ r = none ∧ S' = S1) ∧ ((¬ w32 x2 < 255) → ∃ (S3 : ms), EV q 282 0 [some (.ref 367), some (vI 255)] [] S none S3 ∧ EV q 313 2 [some (.ref 367), some (vI x1), some (vI (x2 - 255))] [] S3 r S')) : EV q 313 2 [some (.ref 367), some (vI x1), some (vI x2)] [] S r S' := by
  unfold EV
  refine ev_bk 2 (S' := (6, [some (.ref 367), some (vI x1), some (vI x2)], [vI 255, vI x2], hp S, 0, 0)) rfl ?_
  refine mv_icmp 25 rfl rfl (fun c => ?_) (fun c => ?_)
  · have F := F.1 c
    refine ev_bk 2 (S' := (27, [some (.ref 367), some (vI x1), some (vI x2)], [vI x2, .ref 367], hp S, 0, 0)) rfl ?_
    obtain ⟨S1, e2, F⟩ := F
    refine mv_calv (as := [vI x2]) (rest := []) e2 (sh_367) rfl rfl rfl ⟨rfl, rfl⟩ rfl rfl rfl rfl rfl ?_
    obtain ⟨rfl, rfl⟩ := F
    exact ev_ret rfl rfl
  · have F := F.2 c
    refine ev_bk 2 (S' := (13, [some (.ref 367), some (vI x1), some (vI x2)], [vI 255, .ref 367], hp S, 0, 0)) rfl ?_
    obtain ⟨S3, e4, F⟩ := F
    refine mv_calv (as := [vI 255]) (rest := []) e4 (sh_367) rfl rfl rfl ⟨rfl, rfl⟩ rfl rfl rfl rfl rfl ?_
    refine mv_incW (lv' := [some (.ref 367), some (vI x1), some (vI (x2 - 255))]) 2 (-255) rfl rfl rfl (by omega) ?_
    refine mv_goto 2 rfl rfl ?_
    exact F
theorem vc_MD_packFrame {q : Nat × (Nat → Int32)} {S S' : ms} {r : Option Value}
    (F : ∃ (S1 : ms), EV q 282 0 [some (.ref 367), some (vI 4)] [] S none S1 ∧ ∃ (S3 : ms), EV q 282 0 [some (.ref 367), some (vI 34)] [] S1 none S3 ∧ ∃ (S5 : ms), EV q 282 0 [some (.ref 367), some (vI 77)] [] S3 none S5 ∧ ∃ (S7 : ms), EV q 282 0 [some (.ref 367), some (vI 24)] [] S5 none S7 ∧ ∃ (S9 : ms), EV q 282 0 [some (.ref 367), some (vI 100)] [] S7 none S9 ∧ ∃ (S11 : ms), EV q 282 0 [some (.ref 367), some (vI 64)] [] S9 none S11 ∧ (0 ≤ w32 0 ∧ w32 0 < (20 : Nat)) ∧ ∀ S14 : ms, S14 = wI S11 404 (w32 0) (b8 100) → (0 ≤ w32 1 ∧ w32 1 < (20 : Nat)) ∧ ∀ S16 : ms, S16 = wI S14 404 (w32 1) (b8 64) → ∃ (z19 : Int) (S17 : ms), EV q 266 0 [some (.ref 404), some (vI 0), some (vI 2), none, none, none, none, none, none] [] S16 (some (vI z19)) S17 ∧ ∃ (S20 : ms), EV q 282 0 [some (.ref 367), some (vI (w32 z19 / 256))] [] S17 none S20 ∧ ∀ S22 : ms, S22 = wI S20 367 29 0 → ((w32 (S22.1 367 2) ≤ 0) → EV q 314 189 [some (.ref 367), none, none, none, none] [] S22 r S') ∧ ((¬ w32 (S22.1 367 2) ≤ 0) → ∃ (S23 : ms), EV q 291 0 [some (.ref 367), some (vL 0), none, some (vI 4), none] [] S22 none S23 ∧ ∃ (S25 : ms), EV q 311 0 [some (.ref 367), none, none, none] [] S23 none S25 ∧ ((w32 (S25.1 367 2) ≤ w32 (((S25.1 367 9) - (S22.1 367 9)) - 4)) → EV q 314 116 [some (.ref 367), some (vI (S22.1 367 9)), some (vI (((S25.1 367 9) - (S22.1 367 9)) - 4)), none, none] [vI 0] S25 r S') ∧ ((¬ w32 (S25.1 367 2) ≤ w32 (((S25.1 367 9) - (S22.1 367 9)) - 4)) → EV q 314 116 [some (.ref 367), some (vI (S22.1 367 9)), some (vI (((S25.1 367 9) - (S22.1 367 9)) - 4)), none, none] [vI 1] S25 r S'))) : EV q 314 0 [some (.ref 367), none, none, none, none] [] S r S' := by
  unfold EV
  refine ev_bk 2 (S' := (2, [some (.ref 367), none, none, none, none], [vI 4, .ref 367], hp S, 0, 0)) rfl ?_
  obtain ⟨S1, e2, F⟩ := F
  refine mv_calv (as := [vI 4]) (rest := []) e2 (sh_367) rfl rfl rfl ⟨rfl, rfl⟩ rfl rfl rfl rfl rfl ?_
  refine ev_bk 2 (S' := (8, [some (.ref 367), none, none, none, none], [vI 34, .ref 367], hp S1, 0, 0)) rfl ?_
  obtain ⟨S3, e4, F⟩ := F
  refine mv_calv (as := [vI 34]) (rest := []) e4 (sh_367) rfl rfl rfl ⟨rfl, rfl⟩ rfl rfl rfl rfl rfl ?_
  refine ev_bk 2 (S' := (14, [some (.ref 367), none, none, none, none], [vI 77, .ref 367], hp S3, 0, 0)) rfl ?_
  obtain ⟨S5, e6, F⟩ := F
  refine mv_calv (as := [vI 77]) (rest := []) e6 (sh_367) rfl rfl rfl ⟨rfl, rfl⟩ rfl rfl rfl rfl rfl ?_
  refine ev_bk 2 (S' := (20, [some (.ref 367), none, none, none, none], [vI 24, .ref 367], hp S5, 0, 0)) rfl ?_
  obtain ⟨S7, e8, F⟩ := F
  refine mv_calv (as := [vI 24]) (rest := []) e8 (sh_367) rfl rfl rfl ⟨rfl, rfl⟩ rfl rfl rfl rfl rfl ?_
  refine ev_bk 2 (S' := (26, [some (.ref 367), none, none, none, none], [vI 100, .ref 367], hp S7, 0, 0)) rfl ?_
  obtain ⟨S9, e10, F⟩ := F
  refine mv_calv (as := [vI 100]) (rest := []) e10 (sh_367) rfl rfl rfl ⟨rfl, rfl⟩ rfl rfl rfl rfl rfl ?_
  refine ev_bk 2 (S' := (32, [some (.ref 367), none, none, none, none], [vI 64, .ref 367], hp S9, 0, 0)) rfl ?_
  obtain ⟨S11, e12, F⟩ := F
  refine mv_calv (as := [vI 64]) (rest := []) e12 (sh_367) rfl rfl rfl ⟨rfl, rfl⟩ rfl rfl rfl rfl rfl ?_
  refine ev_bk 1 (S' := (36, [some (.ref 367), none, none, none, none], [.ref 367], hp S11, 0, 0)) rfl ?_
  refine mv_gfR rfl rfl (sh_367) (by decide) rfl ?_
  refine ev_bk 2 (S' := (42, [some (.ref 367), none, none, none, none], [vI 100, vI 0, .ref 404], hp S11, 0, 0)) rfl ?_
  obtain ⟨b13, F⟩ := F
  refine mv_bas rfl (sh_404) b13 ?_
  have F := F _ rfl
  refine ev_bk 1 (S' := (44, [some (.ref 367), none, none, none, none], [.ref 367], hp (wI S11 404 (w32 0) (b8 100)), 0, 0)) rfl ?_
  refine mv_gfR rfl rfl (sh_367) (by decide) rfl ?_
  refine ev_bk 2 (S' := (50, [some (.ref 367), none, none, none, none], [vI 64, vI 1, .ref 404], hp (wI S11 404 (w32 0) (b8 100)), 0, 0)) rfl ?_
  obtain ⟨b15, F⟩ := F
  refine mv_bas rfl (sh_404) b15 ?_
  have F := F _ rfl
  refine ev_bk 2 (S' := (53, [some (.ref 367), none, none, none, none], [.ref 367, .ref 367], hp (wI (wI S11 404 (w32 0) (b8 100)) 404 (w32 1) (b8 64)), 0, 0)) rfl ?_
  refine mv_gfR rfl rfl (sh_367) (by decide) rfl ?_
  refine ev_bk 2 (S' := (58, [some (.ref 367), none, none, none, none], [vI 2, vI 0, .ref 404, .ref 367], hp (wI (wI S11 404 (w32 0) (b8 100)) 404 (w32 1) (b8 64)), 0, 0)) rfl ?_
  obtain ⟨z19, S17, e18, F⟩ := F
  refine mv_cals (as := [.ref 404, vI 0, vI 2]) (rest := [.ref 367]) e18 rfl rfl rfl ⟨rfl, rfl, rfl⟩ rfl rfl rfl rfl ?_
  refine ev_bk 1 (S' := (63, [some (.ref 367), none, none, none, none], [vI 8, vI z19, .ref 367], hp S17, 0, 0)) rfl ?_
  refine mv_ishr 256 rfl rfl ?_
  obtain ⟨S20, e21, F⟩ := F
  refine mv_calv (as := [vI (w32 z19 / 256)]) (rest := []) e21 (sh_367) rfl rfl rfl ⟨rfl, rfl⟩ rfl rfl rfl rfl rfl ?_
  refine ev_bk 2 (S' := (69, [some (.ref 367), none, none, none, none], [vI 0, .ref 367], hp S20, 0, 0)) rfl ?_
  refine mv_pfI rfl rfl (sh_367) (by decide) rfl rfl ?_
  have F := F _ rfl
  refine ev_bk 1 (S' := (73, [some (.ref 367), none, none, none, none], [.ref 367], hp (wI S20 367 29 0), 0, 0)) rfl ?_
  refine mv_gfI rfl rfl (sh_367) (by decide) rfl ?_
  refine mv_if 189 rfl rfl (fun c => ?_) (fun c => ?_)
  · have F := F.1 c
    exact F
  · have F := F.2 c
    refine ev_bk 1 (S' := (80, [some (.ref 367), none, none, none, none], [.ref 367], hp (wI S20 367 29 0), 0, 0)) rfl ?_
    refine mv_gfI rfl rfl (sh_367) (by decide) rfl ?_
    refine ev_bk 4 (S' := (87, [some (.ref 367), some (vI ((wI S20 367 29 0).1 367 9)), none, none, none], [vI 4, vL 0, .ref 367], hp (wI S20 367 29 0), 0, 0)) rfl ?_
    obtain ⟨S23, e24, F⟩ := F
    refine mv_calv (as := [vL 0, vI 4]) (rest := []) e24 (sh_367) rfl rfl rfl ⟨rfl, rfl⟩ rfl rfl rfl rfl rfl ?_
    refine ev_bk 1 (S' := (91, [some (.ref 367), some (vI ((wI S20 367 29 0).1 367 9)), none, none, none], [.ref 367], hp S23, 0, 0)) rfl ?_
    obtain ⟨S25, e26, F⟩ := F
    refine mv_calv (as := []) (rest := []) e26 (sh_367) rfl rfl rfl ⟨rfl, rfl⟩ rfl rfl rfl rfl rfl ?_
    refine ev_bk 1 (S' := (95, [some (.ref 367), some (vI ((wI S20 367 29 0).1 367 9)), none, none, none], [.ref 367], hp S25, 0, 0)) rfl ?_
    refine mv_gfI rfl rfl (sh_367) (by decide) rfl ?_
    refine ev_bk 1 (S' := (99, [some (.ref 367), some (vI ((wI S20 367 29 0).1 367 9)), none, none, none], [vI ((wI S20 367 29 0).1 367 9), vI (S25.1 367 9)], hp S25, 0, 0)) rfl ?_
    refine mv_isub rfl ?_
    refine ev_bk 1 (S' := (101, [some (.ref 367), some (vI ((wI S20 367 29 0).1 367 9)), none, none, none], [vI 4, vI ((S25.1 367 9) - ((wI S20 367 29 0).1 367 9))], hp S25, 0, 0)) rfl ?_
    refine mv_isub rfl ?_
    refine ev_bk 3 (S' := (105, [some (.ref 367), some (vI ((wI S20 367 29 0).1 367 9)), some (vI (((S25.1 367 9) - ((wI S20 367 29 0).1 367 9)) - 4)), none, none], [.ref 367, vI (((S25.1 367 9) - ((wI S20 367 29 0).1 367 9)) - 4)], hp S25, 0, 0)) rfl ?_
    refine mv_gfI rfl rfl (sh_367) (by decide) rfl ?_
    refine mv_icmp 115 rfl rfl (fun c => ?_) (fun c => ?_)
    · have F := F.1 c
      refine ev_bk 1 (S' := (116, [some (.ref 367), some (vI ((wI S20 367 29 0).1 367 9)), some (vI (((S25.1 367 9) - ((wI S20 367 29 0).1 367 9)) - 4)), none, none], [vI 0], hp S25, 0, 0)) rfl ?_
      exact F
    · have F := F.2 c
      refine ev_bk 1 (S' := (112, [some (.ref 367), some (vI ((wI S20 367 29 0).1 367 9)), some (vI (((S25.1 367 9) - ((wI S20 367 29 0).1 367 9)) - 4)), none, none], [vI 1], hp S25, 0, 0)) rfl ?_
      refine mv_goto 116 rfl rfl ?_
      exact F
theorem vc_MD_packFrame_116 {q : Nat × (Nat → Int32)} {S S' : ms} {r : Option Value} (x1 x2 y0 : Int)
    (F : ∀ S1 : ms, S1 = wI S 367 9 x1 → ((w32 y0 = 0) → ∃ (S2 : ms), EV q 291 0 [some (.ref 367), some (vL (w32 (bO (S1.1 367 2) ((-2147483648))))), none, some (vI 4), none] [] S1 none S2 ∧ EV q 314 163 [some (.ref 367), some (vI x1), some (vI x2), some (vI y0), some (vI 0)] [] S2 r S') ∧ ((¬ w32 y0 = 0) → ∃ (S4 : ms), EV q 291 0 [some (.ref 367), some (vL (w32 x2)), none, some (vI 4), none] [] S1 none S4 ∧ ∀ S6 : ms, S6 = wI S4 367 9 (S4.1 367 9 + x2) → EV q 314 189 [some (.ref 367), none, none, none, none] [] S6 r S')) : EV q 314 116 [some (.ref 367), some (vI x1), some (vI x2), none, none] [vI y0] S r S' := by
  unfold EV
  refine ev_bk 3 (S' := (119, [some (.ref 367), some (vI x1), some (vI x2), some (vI y0), none], [vI x1, .ref 367], hp S, 0, 0)) rfl ?_
  refine mv_pfI rfl rfl (sh_367) (by decide) rfl rfl ?_
  have F := F _ rfl
  refine ev_bk 1 (S' := (123, [some (.ref 367), some (vI x1), some (vI x2), some (vI y0), none], [vI y0], hp (wI S 367 9 x1), 0, 0)) rfl ?_
  refine mv_if 146 rfl rfl (fun c => ?_) (fun c => ?_)
  · have F := F.1 c
    refine ev_bk 2 (S' := (148, [some (.ref 367), some (vI x1), some (vI x2), some (vI y0), none], [.ref 367, .ref 367], hp (wI S 367 9 x1), 0, 0)) rfl ?_
    refine mv_gfI rfl rfl (sh_367) (by decide) rfl ?_
    refine ev_bk 1 (S' := (154, [some (.ref 367), some (vI x1), some (vI x2), some (vI y0), none], [vI ((-2147483648)), vI ((wI S 367 9 x1).1 367 2), .ref 367], hp (wI S 367 9 x1), 0, 0)) rfl ?_
    refine mv_ior rfl ?_
    refine mv_i2l rfl ?_
    refine ev_bk 1 (S' := (157, [some (.ref 367), some (vI x1), some (vI x2), some (vI y0), none], [vI 4, vL (w32 (bO ((wI S 367 9 x1).1 367 2) ((-2147483648)))), .ref 367], hp (wI S 367 9 x1), 0, 0)) rfl ?_
    obtain ⟨S2, e3, F⟩ := F
    refine mv_calv (as := [vL (w32 (bO ((wI S 367 9 x1).1 367 2) ((-2147483648)))), vI 4]) (rest := []) e3 (sh_367) rfl rfl rfl ⟨rfl, rfl⟩ rfl rfl rfl rfl rfl ?_
    refine ev_bk 2 (S' := (163, [some (.ref 367), some (vI x1), some (vI x2), some (vI y0), some (vI 0)], [], hp S2, 0, 0)) rfl ?_
    exact F
  · have F := F.2 c
    refine ev_bk 2 (S' := (128, [some (.ref 367), some (vI x1), some (vI x2), some (vI y0), none], [vI x2, .ref 367], hp (wI S 367 9 x1), 0, 0)) rfl ?_
    refine mv_i2l rfl ?_
    refine ev_bk 1 (S' := (130, [some (.ref 367), some (vI x1), some (vI x2), some (vI y0), none], [vI 4, vL (w32 x2), .ref 367], hp (wI S 367 9 x1), 0, 0)) rfl ?_
    obtain ⟨S4, e5, F⟩ := F
    refine mv_calv (as := [vL (w32 x2), vI 4]) (rest := []) e5 (sh_367) rfl rfl rfl ⟨rfl, rfl⟩ rfl rfl rfl rfl rfl ?_
    refine ev_bk 2 (S' := (135, [some (.ref 367), some (vI x1), some (vI x2), some (vI y0), none], [.ref 367, .ref 367], hp S4, 0, 0)) rfl ?_
    refine mv_gfI rfl rfl (sh_367) (by decide) rfl ?_
    refine ev_bk 1 (S' := (139, [some (.ref 367), some (vI x1), some (vI x2), some (vI y0), none], [vI x2, vI (S4.1 367 9), .ref 367], hp S4, 0, 0)) rfl ?_
    refine mv_iadd rfl ?_
    refine mv_pfI rfl rfl (sh_367) (by decide) rfl rfl ?_
    have F := F _ rfl
    refine mv_goto 189 rfl rfl ?_
    exact ev_wk (le_s (le_n (le_n (le_n (le_s le_0))))) F
theorem vc_MD_packFrame_163 {q : Nat × (Nat → Int32)} {S S' : ms} {r : Option Value} (x1 x2 x3 x4 : Int)
    (F : ((w32 (S.1 367 2) ≤ w32 x4) → EV q 314 189 [some (.ref 367), none, none, none, none] [] S r S') ∧ ((¬ w32 (S.1 367 2) ≤ w32 x4) → (0 ≤ w32 x4 ∧ w32 x4 < (6000 : Nat)) ∧ ∃ (S2 : ms), EV q 282 0 [some (.ref 367), some (vI (S.1 368 (w32 x4)))] [] S none S2 ∧ EV q 314 163 [some (.ref 367), some (vI x1), some (vI x2), some (vI x3), some (vI (x4 + 1))] [] S2 r S')) : EV q 314 163 [some (.ref 367), some (vI x1), some (vI x2), some (vI x3), some (vI x4)] [] S r S' := by
  unfold EV
  refine ev_bk 2 (S' := (166, [some (.ref 367), some (vI x1), some (vI x2), some (vI x3), some (vI x4)], [.ref 367, vI x4], hp S, 0, 0)) rfl ?_
  refine mv_gfI rfl rfl (sh_367) (by decide) rfl ?_
  refine mv_icmp 189 rfl rfl (fun c => ?_) (fun c => ?_)
  · have F := F.1 c
    exact ev_wk (le_s (le_n (le_n (le_n (le_n le_0))))) F
  · have F := F.2 c
    refine ev_bk 2 (S' := (174, [some (.ref 367), some (vI x1), some (vI x2), some (vI x3), some (vI x4)], [.ref 367, .ref 367], hp S, 0, 0)) rfl ?_
    refine mv_gfR rfl rfl (sh_367) (by decide) rfl ?_
    refine ev_bk 1 (S' := (179, [some (.ref 367), some (vI x1), some (vI x2), some (vI x3), some (vI x4)], [vI x4, .ref 368, .ref 367], hp S, 0, 0)) rfl ?_
    obtain ⟨b1, F⟩ := F
    refine mv_bal rfl (sh_368) b1 ?_
    obtain ⟨S2, e3, F⟩ := F
    refine mv_calv (as := [vI (S.1 368 (w32 x4))]) (rest := []) e3 (sh_367) rfl rfl rfl ⟨rfl, rfl⟩ rfl rfl rfl rfl rfl ?_
    refine mv_inc (lv' := [some (.ref 367), some (vI x1), some (vI x2), some (vI x3), some (vI (x4 + 1))]) 4 1 rfl rfl rfl rfl ?_
    refine mv_goto 163 rfl rfl ?_
    exact F
theorem vc_MD_packFrame_189 {q : Nat × (Nat → Int32)} {S S' : ms} {r : Option Value}
    (F : ∃ (S1 : ms), EV q 291 0 [some (.ref 367), some (vL 0), none, some (vI 4), none] [] S none S1 ∧ ∃ (z5 : Int) (S3 : ms), EV q 266 0 [some (.ref 368), some (vI 0), some (vI (S1.1 367 2)), none, none, none, none, none, none] [] S1 (some (vI z5)) S3 ∧ ∃ (S6 : ms), EV q 291 0 [some (.ref 367), some (vL (w32 z5)), none, some (vI 4), none] [] S3 none S6 ∧ r = none ∧ S' = S6) : EV q 314 189 [some (.ref 367), none, none, none, none] [] S r S' := by
  unfold EV
  refine ev_bk 3 (S' := (192, [some (.ref 367), none, none, none, none], [vI 4, vL 0, .ref 367], hp S, 0, 0)) rfl ?_
  obtain ⟨S1, e2, F⟩ := F
  refine mv_calv (as := [vL 0, vI 4]) (rest := []) e2 (sh_367) rfl rfl rfl ⟨rfl, rfl⟩ rfl rfl rfl rfl rfl ?_
  refine ev_bk 2 (S' := (197, [some (.ref 367), none, none, none, none], [.ref 367, .ref 367], hp S1, 0, 0)) rfl ?_
  refine mv_gfR rfl rfl (sh_367) (by decide) rfl ?_
  refine ev_bk 2 (S' := (202, [some (.ref 367), none, none, none, none], [.ref 367, vI 0, .ref 368, .ref 367], hp S1, 0, 0)) rfl ?_
  refine mv_gfI rfl rfl (sh_367) (by decide) rfl ?_
  obtain ⟨z5, S3, e4, F⟩ := F
  refine mv_cals (as := [.ref 368, vI 0, vI (S1.1 367 2)]) (rest := [.ref 367]) e4 rfl rfl rfl ⟨rfl, rfl, rfl⟩ rfl rfl rfl rfl ?_
  refine mv_i2l rfl ?_
  refine ev_bk 1 (S' := (210, [some (.ref 367), none, none, none, none], [vI 4, vL (w32 z5), .ref 367], hp S3, 0, 0)) rfl ?_
  obtain ⟨S6, e7, F⟩ := F
  refine mv_calv (as := [vL (w32 z5), vI 4]) (rest := []) e7 (sh_367) rfl rfl rfl ⟨rfl, rfl⟩ rfl rfl rfl rfl rfl ?_
  obtain ⟨rfl, rfl⟩ := F
  exact ev_ret rfl rfl
theorem vc_MD_packCopies {q : Nat × (Nat → Int32)} {S S' : ms} {r : Option Value}
    (F : ∀ S1 : ms, S1 = wI S 367 29 0 → ∃ (S2 : ms), EV q 316 0 [some (.ref 367), some (vL (w32 (S1.1 367 2))), none, none, none] [] S1 none S2 ∧ EV q 315 18 [some (.ref 367), some (vI 0), some (vI 0), none, none] [] S2 r S') : EV q 315 0 [some (.ref 367), none, none, none, none] [] S r S' := by
  unfold EV
  refine ev_bk 2 (S' := (2, [some (.ref 367), none, none, none, none], [vI 0, .ref 367], hp S, 0, 0)) rfl ?_
  refine mv_pfI rfl rfl (sh_367) (by decide) rfl rfl ?_
  have F := F _ rfl
  refine ev_bk 2 (S' := (7, [some (.ref 367), none, none, none, none], [.ref 367, .ref 367], hp (wI S 367 29 0), 0, 0)) rfl ?_
  refine mv_gfI rfl rfl (sh_367) (by decide) rfl ?_
  refine mv_i2l rfl ?_
  obtain ⟨S2, e3, F⟩ := F
  refine mv_calv (as := [vL (w32 ((wI S 367 29 0).1 367 2))]) (rest := []) e3 (sh_367) rfl rfl rfl ⟨rfl, rfl⟩ rfl rfl rfl rfl rfl ?_
  refine ev_bk 4 (S' := (18, [some (.ref 367), some (vI 0), some (vI 0), none, none], [], hp S2, 0, 0)) rfl ?_
  exact F
theorem vc_MD_packCopies_18 {q : Nat × (Nat → Int32)} {S S' : ms} {r : Option Value} (x1 x2 : Int)
    (F : ((w32 (S.1 367 2) ≤ w32 x2) → ∃ (S1 : ms), EV q 317 0 [some (.ref 367), some (vI x1), some (vI ((S.1 367 2) - x1)), none, none] [] S none S1 ∧ r = none ∧ S' = S1) ∧ ((¬ w32 (S.1 367 2) ≤ w32 x2) → ∃ (S3 : ms), EV q 293 0 [some (.ref 367), some (.ref 368), some (vI (S.1 367 2)), some (vI x2), some (vI 64), some (vI 65535), none, none, none, none, none] [] S none S3 ∧ ((4 ≤ w32 (S3.1 367 26)) → ∃ (S5 : ms), EV q 294 0 [some (.ref 367), some (vI (S3.1 367 26)), some (vI (S3.1 367 27)), some (vI x2)] [] S3 none S5 ∧ ∃ (S7 : ms), EV q 317 0 [some (.ref 367), some (vI x1), some (vI (x2 - x1)), none, none] [] S5 none S7 ∧ ((12 ≤ w32 (S3.1 367 26)) → EV q 315 131 [some (.ref 367), some (vI x1), some (vI x2), some (vI (S3.1 367 26)), some (vI (S3.1 367 27))] [] S7 r S') ∧ ((¬ 12 ≤ w32 (S3.1 367 26)) → ((2048 ≤ w32 (S3.1 367 27)) → EV q 315 131 [some (.ref 367), some (vI x1), some (vI x2), some (vI (S3.1 367 26)), some (vI (S3.1 367 27))] [] S7 r S') ∧ ((¬ 2048 ≤ w32 (S3.1 367 27)) → ∃ (S9 : ms), EV q 282 0 [some (.ref 367), some (vI (bO (bO ((w32 (S3.1 367 27) / 256) * 32) (((S3.1 367 26) - 4) * 4)) 1))] [] S7 none S9 ∧ ∃ (S11 : ms), EV q 282 0 [some (.ref 367), some (vI (S3.1 367 27))] [] S9 none S11 ∧ EV q 315 150 [some (.ref 367), some (vI x1), some (vI x2), some (vI (S3.1 367 26)), some (vI (S3.1 367 27))] [] S11 r S'))) ∧ ((¬ 4 ≤ w32 (S3.1 367 26)) → ∃ (S13 : ms), EV q 294 0 [some (.ref 367), some (vI 1), some (vI 0), some (vI x2)] [] S3 none S13 ∧ EV q 315 18 [some (.ref 367), some (vI x1), some (vI (x2 + 1)), none, none] [] S13 r S'))) : EV q 315 18 [some (.ref 367), some (vI x1), some (vI x2), none, none] [] S r S' := by
  unfold EV
  refine ev_bk 2 (S' := (20, [some (.ref 367), some (vI x1), some (vI x2), none, none], [.ref 367, vI x2], hp S, 0, 0)) rfl ?_
  refine mv_gfI rfl rfl (sh_367) (by decide) rfl ?_
  refine mv_icmp 159 rfl rfl (fun c => ?_) (fun c => ?_)
  · have F := F.1 c
    refine ev_bk 3 (S' := (162, [some (.ref 367), some (vI x1), some (vI x2), none, none], [.ref 367, vI x1, .ref 367], hp S, 0, 0)) rfl ?_
    refine mv_gfI rfl rfl (sh_367) (by decide) rfl ?_
    refine ev_bk 1 (S' := (166, [some (.ref 367), some (vI x1), some (vI x2), none, none], [vI x1, vI (S.1 367 2), vI x1, .ref 367], hp S, 0, 0)) rfl ?_
    refine mv_isub rfl ?_
    obtain ⟨S1, e2, F⟩ := F
    refine mv_calv (as := [vI x1, vI ((S.1 367 2) - x1)]) (rest := []) e2 (sh_367) rfl rfl rfl ⟨rfl, rfl⟩ rfl rfl rfl rfl rfl ?_
    obtain ⟨rfl, rfl⟩ := F
    exact ev_ret rfl rfl
  · have F := F.2 c
    refine ev_bk 2 (S' := (28, [some (.ref 367), some (vI x1), some (vI x2), none, none], [.ref 367, .ref 367], hp S, 0, 0)) rfl ?_
    refine mv_gfR rfl rfl (sh_367) (by decide) rfl ?_
    refine ev_bk 1 (S' := (32, [some (.ref 367), some (vI x1), some (vI x2), none, none], [.ref 367, .ref 368, .ref 367], hp S, 0, 0)) rfl ?_
    refine mv_gfI rfl rfl (sh_367) (by decide) rfl ?_
    refine ev_bk 3 (S' := (41, [some (.ref 367), some (vI x1), some (vI x2), none, none], [vI 65535, vI 64, vI x2, vI (S.1 367 2), .ref 368, .ref 367], hp S, 0, 0)) rfl ?_
    obtain ⟨S3, e4, F⟩ := F
    refine mv_calv (as := [.ref 368, vI (S.1 367 2), vI x2, vI 64, vI 65535]) (rest := []) e4 (sh_367) rfl rfl rfl ⟨rfl, rfl⟩ rfl rfl rfl rfl rfl ?_
    refine ev_bk 1 (S' := (45, [some (.ref 367), some (vI x1), some (vI x2), none, none], [.ref 367], hp S3, 0, 0)) rfl ?_
    refine mv_gfI rfl rfl (sh_367) (by decide) rfl ?_
    refine ev_bk 2 (S' := (50, [some (.ref 367), some (vI x1), some (vI x2), some (vI (S3.1 367 26)), none], [.ref 367], hp S3, 0, 0)) rfl ?_
    refine mv_gfI rfl rfl (sh_367) (by decide) rfl ?_
    refine ev_bk 3 (S' := (57, [some (.ref 367), some (vI x1), some (vI x2), some (vI (S3.1 367 26)), some (vI (S3.1 367 27))], [vI 4, vI (S3.1 367 26)], hp S3, 0, 0)) rfl ?_
    refine mv_icmp 73 rfl rfl (fun c => ?_) (fun c => ?_)
    · have F := F.1 c
      refine ev_bk 4 (S' := (78, [some (.ref 367), some (vI x1), some (vI x2), some (vI (S3.1 367 26)), some (vI (S3.1 367 27))], [vI x2, vI (S3.1 367 27), vI (S3.1 367 26), .ref 367], hp S3, 0, 0)) rfl ?_
      obtain ⟨S5, e6, F⟩ := F
      refine mv_calv (as := [vI (S3.1 367 26), vI (S3.1 367 27), vI x2]) (rest := []) e6 (sh_367) rfl rfl rfl ⟨rfl, rfl⟩ rfl rfl rfl rfl rfl ?_
      refine ev_bk 4 (S' := (85, [some (.ref 367), some (vI x1), some (vI x2), some (vI (S3.1 367 26)), some (vI (S3.1 367 27))], [vI x1, vI x2, vI x1, .ref 367], hp S5, 0, 0)) rfl ?_
      refine mv_isub rfl ?_
      obtain ⟨S7, e8, F⟩ := F
      refine mv_calv (as := [vI x1, vI (x2 - x1)]) (rest := []) e8 (sh_367) rfl rfl rfl ⟨rfl, rfl⟩ rfl rfl rfl rfl rfl ?_
      refine ev_bk 2 (S' := (92, [some (.ref 367), some (vI x1), some (vI x2), some (vI (S3.1 367 26)), some (vI (S3.1 367 27))], [vI 12, vI (S3.1 367 26)], hp S7, 0, 0)) rfl ?_
      refine mv_icmp 131 rfl rfl (fun c => ?_) (fun c => ?_)
      · have F := F.1 c
        exact F
      · have F := F.2 c
        refine ev_bk 2 (S' := (100, [some (.ref 367), some (vI x1), some (vI x2), some (vI (S3.1 367 26)), some (vI (S3.1 367 27))], [vI 2048, vI (S3.1 367 27)], hp S7, 0, 0)) rfl ?_
        refine mv_icmp 131 rfl rfl (fun c => ?_) (fun c => ?_)
        · have F := F.1 c
          exact F
        · have F := F.2 c
          refine ev_bk 3 (S' := (108, [some (.ref 367), some (vI x1), some (vI x2), some (vI (S3.1 367 26)), some (vI (S3.1 367 27))], [vI 8, vI (S3.1 367 27), .ref 367], hp S7, 0, 0)) rfl ?_
          refine mv_ishr 256 rfl rfl ?_
          refine ev_bk 1 (S' := (110, [some (.ref 367), some (vI x1), some (vI x2), some (vI (S3.1 367 26)), some (vI (S3.1 367 27))], [vI 5, vI (w32 (S3.1 367 27) / 256), .ref 367], hp S7, 0, 0)) rfl ?_
          refine mv_ishl 32 rfl rfl ?_
          refine ev_bk 2 (S' := (113, [some (.ref 367), some (vI x1), some (vI x2), some (vI (S3.1 367 26)), some (vI (S3.1 367 27))], [vI 4, vI (S3.1 367 26), vI ((w32 (S3.1 367 27) / 256) * 32), .ref 367], hp S7, 0, 0)) rfl ?_
          refine mv_isub rfl ?_
          refine ev_bk 1 (S' := (115, [some (.ref 367), some (vI x1), some (vI x2), some (vI (S3.1 367 26)), some (vI (S3.1 367 27))], [vI 2, vI ((S3.1 367 26) - 4), vI ((w32 (S3.1 367 27) / 256) * 32), .ref 367], hp S7, 0, 0)) rfl ?_
          refine mv_ishl 4 rfl rfl ?_
          refine mv_ior rfl ?_
          refine ev_bk 1 (S' := (118, [some (.ref 367), some (vI x1), some (vI x2), some (vI (S3.1 367 26)), some (vI (S3.1 367 27))], [vI 1, vI (bO ((w32 (S3.1 367 27) / 256) * 32) (((S3.1 367 26) - 4) * 4)), .ref 367], hp S7, 0, 0)) rfl ?_
          refine mv_ior rfl ?_
          obtain ⟨S9, e10, F⟩ := F
          refine mv_calv (as := [vI (bO (bO ((w32 (S3.1 367 27) / 256) * 32) (((S3.1 367 26) - 4) * 4)) 1)]) (rest := []) e10 (sh_367) rfl rfl rfl ⟨rfl, rfl⟩ rfl rfl rfl rfl rfl ?_
          refine ev_bk 2 (S' := (125, [some (.ref 367), some (vI x1), some (vI x2), some (vI (S3.1 367 26)), some (vI (S3.1 367 27))], [vI (S3.1 367 27), .ref 367], hp S9, 0, 0)) rfl ?_
          obtain ⟨S11, e12, F⟩ := F
          refine mv_calv (as := [vI (S3.1 367 27)]) (rest := []) e12 (sh_367) rfl rfl rfl ⟨rfl, rfl⟩ rfl rfl rfl rfl rfl ?_
          refine mv_goto 150 rfl rfl ?_
          exact F
    · have F := F.2 c
      refine ev_bk 4 (S' := (64, [some (.ref 367), some (vI x1), some (vI x2), some (vI (S3.1 367 26)), some (vI (S3.1 367 27))], [vI x2, vI 0, vI 1, .ref 367], hp S3, 0, 0)) rfl ?_
      obtain ⟨S13, e14, F⟩ := F
      refine mv_calv (as := [vI 1, vI 0, vI x2]) (rest := []) e14 (sh_367) rfl rfl rfl ⟨rfl, rfl⟩ rfl rfl rfl rfl rfl ?_
      refine mv_inc (lv' := [some (.ref 367), some (vI x1), some (vI (x2 + 1)), some (vI (S3.1 367 26)), some (vI (S3.1 367 27))]) 2 1 rfl rfl rfl rfl ?_
      refine mv_goto 18 rfl rfl ?_
      exact ev_wk (le_s (le_s (le_s (le_n (le_n le_0))))) F
theorem vc_MD_packCopies_131 {q : Nat × (Nat → Int32)} {S S' : ms} {r : Option Value} (x1 x2 x3 x4 : Int)
    (F : ∃ (S1 : ms), EV q 282 0 [some (.ref 367), some (vI (bO ((x3 - 1) * 4) 2))] [] S none S1 ∧ ∃ (S3 : ms), EV q 291 0 [some (.ref 367), some (vL (w32 x4)), none, some (vI 2), none] [] S1 none S3 ∧ EV q 315 150 [some (.ref 367), some (vI x1), some (vI x2), some (vI x3), some (vI x4)] [] S3 r S') : EV q 315 131 [some (.ref 367), some (vI x1), some (vI x2), some (vI x3), some (vI x4)] [] S r S' := by
  unfold EV
  refine ev_bk 3 (S' := (134, [some (.ref 367), some (vI x1), some (vI x2), some (vI x3), some (vI x4)], [vI 1, vI x3, .ref 367], hp S, 0, 0)) rfl ?_
  refine mv_isub rfl ?_
  refine ev_bk 1 (S' := (136, [some (.ref 367), some (vI x1), some (vI x2), some (vI x3), some (vI x4)], [vI 2, vI (x3 - 1), .ref 367], hp S, 0, 0)) rfl ?_
  refine mv_ishl 4 rfl rfl ?_
  refine ev_bk 1 (S' := (138, [some (.ref 367), some (vI x1), some (vI x2), some (vI x3), some (vI x4)], [vI 2, vI ((x3 - 1) * 4), .ref 367], hp S, 0, 0)) rfl ?_
  refine mv_ior rfl ?_
  obtain ⟨S1, e2, F⟩ := F
  refine mv_calv (as := [vI (bO ((x3 - 1) * 4) 2)]) (rest := []) e2 (sh_367) rfl rfl rfl ⟨rfl, rfl⟩ rfl rfl rfl rfl rfl ?_
  refine ev_bk 2 (S' := (145, [some (.ref 367), some (vI x1), some (vI x2), some (vI x3), some (vI x4)], [vI x4, .ref 367], hp S1, 0, 0)) rfl ?_
  refine mv_i2l rfl ?_
  refine ev_bk 1 (S' := (147, [some (.ref 367), some (vI x1), some (vI x2), some (vI x3), some (vI x4)], [vI 2, vL (w32 x4), .ref 367], hp S1, 0, 0)) rfl ?_
  obtain ⟨S3, e4, F⟩ := F
  refine mv_calv (as := [vL (w32 x4), vI 2]) (rest := []) e4 (sh_367) rfl rfl rfl ⟨rfl, rfl⟩ rfl rfl rfl rfl rfl ?_
  exact F
theorem vc_MD_packCopies_150 {q : Nat × (Nat → Int32)} {S S' : ms} {r : Option Value} (x1 x2 x3 x4 : Int)
    (F : EV q 315 18 [some (.ref 367), some (vI (x2 + x3)), some (vI (x2 + x3)), none, none] [] S r S') : EV q 315 150 [some (.ref 367), some (vI x1), some (vI x2), some (vI x3), some (vI x4)] [] S r S' := by
  unfold EV
  refine ev_bk 2 (S' := (152, [some (.ref 367), some (vI x1), some (vI x2), some (vI x3), some (vI x4)], [vI x3, vI x2], hp S, 0, 0)) rfl ?_
  refine mv_iadd rfl ?_
  refine ev_bk 3 (S' := (156, [some (.ref 367), some (vI (x2 + x3)), some (vI (x2 + x3)), some (vI x3), some (vI x4)], [], hp S, 0, 0)) rfl ?_
  refine mv_goto 18 rfl rfl ?_
  exact ev_wk (le_s (le_s (le_s (le_n (le_n le_0))))) F
theorem vc_MD_sevens {q : Nat × (Nat → Int32)} {S S' : ms} {r : Option Value} (x1 : Int)
    (F : EV q 316 2 [some (.ref 367), some (vL x1), none, some (vL x1), none] [] S r S') : EV q 316 0 [some (.ref 367), some (vL x1), none, none, none] [] S r S' := by
  unfold EV
  refine ev_bk 2 (S' := (2, [some (.ref 367), some (vL x1), none, some (vL x1), none], [], hp S, 0, 0)) rfl ?_
  exact F
theorem vc_MD_sevens_2 {q : Nat × (Nat → Int32)} {S S' : ms} {r : Option Value} (x1 x3 : Int)
    (F : ((w64 x3 ≤ w64 127) → ∃ (S1 : ms), EV q 282 0 [some (.ref 367), some (vI x3)] [] S none S1 ∧ r = none ∧ S' = S1) ∧ ((¬ w64 x3 ≤ w64 127) → ∃ (S3 : ms), EV q 282 0 [some (.ref 367), some (vI (bO (x3 % 128) 128))] [] S none S3 ∧ EV q 316 2 [some (.ref 367), some (vL x1), none, some (vL (w64 x3 / 128)), none] [] S3 r S')) : EV q 316 2 [some (.ref 367), some (vL x1), none, some (vL x3), none] [] S r S' := by
  unfold EV
  refine ev_bk 2 (S' := (6, [some (.ref 367), some (vL x1), none, some (vL x3), none], [vL 127, vL x3], hp S, 0, 0)) rfl ?_
  refine mv_lif 32 rfl rfl rfl (fun c => ?_) (fun c => ?_)
  · have F := F.1 c
    refine ev_bk 2 (S' := (34, [some (.ref 367), some (vL x1), none, some (vL x3), none], [vL x3, .ref 367], hp S, 0, 0)) rfl ?_
    refine mv_l2i rfl ?_
    obtain ⟨S1, e2, F⟩ := F
    refine mv_calv (as := [vI x3]) (rest := []) e2 (sh_367) rfl rfl rfl ⟨rfl, rfl⟩ rfl rfl rfl rfl rfl ?_
    obtain ⟨rfl, rfl⟩ := F
    exact ev_ret rfl rfl
  · have F := F.2 c
    refine ev_bk 3 (S' := (15, [some (.ref 367), some (vL x1), none, some (vL x3), none], [vL 127, vL x3, .ref 367], hp S, 0, 0)) rfl ?_
    refine mv_landm 128 7 (by decide) rfl rfl rfl ?_
    refine mv_l2i rfl ?_
    refine ev_bk 1 (S' := (20, [some (.ref 367), some (vL x1), none, some (vL x3), none], [vI 128, vI (x3 % 128), .ref 367], hp S, 0, 0)) rfl ?_
    refine mv_ior rfl ?_
    obtain ⟨S3, e4, F⟩ := F
    refine mv_calv (as := [vI (bO (x3 % 128) 128)]) (rest := []) e4 (sh_367) rfl rfl rfl ⟨rfl, rfl⟩ rfl rfl rfl rfl rfl ?_
    refine ev_bk 2 (S' := (27, [some (.ref 367), some (vL x1), none, some (vL x3), none], [vI 7, vL x3], hp S3, 0, 0)) rfl ?_
    refine mv_lshr 128 rfl rfl ?_
    refine ev_bk 1 (S' := (29, [some (.ref 367), some (vL x1), none, some (vL (w64 x3 / 128)), none], [], hp S3, 0, 0)) rfl ?_
    refine mv_goto 2 rfl rfl ?_
    exact F
theorem vc_MD_literals {q : Nat × (Nat → Int32)} {S S' : ms} {r : Option Value} (x1 x2 : Int)
    (F : ((¬ w32 x2 = 0) → ((60 ≤ w32 (x2 - 1)) → ((256 ≤ w32 (x2 - 1)) → ∃ (S1 : ms), EV q 282 0 [some (.ref 367), some (vI 244)] [] S none S1 ∧ ∃ (S3 : ms), EV q 291 0 [some (.ref 367), some (vL (w32 (x2 - 1))), none, some (vI 2), none] [] S1 none S3 ∧ EV q 317 61 [some (.ref 367), some (vI x1), some (vI x2), some (vI (x2 - 1)), none] [] S3 r S') ∧ ((¬ 256 ≤ w32 (x2 - 1)) → ∃ (S5 : ms), EV q 282 0 [some (.ref 367), some (vI 240)] [] S none S5 ∧ ∃ (S7 : ms), EV q 282 0 [some (.ref 367), some (vI (x2 - 1))] [] S5 none S7 ∧ EV q 317 61 [some (.ref 367), some (vI x1), some (vI x2), some (vI (x2 - 1)), none] [] S7 r S')) ∧ ((¬ 60 ≤ w32 (x2 - 1)) → ∃ (S9 : ms), EV q 282 0 [some (.ref 367), some (vI ((x2 - 1) * 4))] [] S none S9 ∧ EV q 317 61 [some (.ref 367), some (vI x1), some (vI x2), some (vI (x2 - 1)), none] [] S9 r S')) ∧ ((¬ (¬ w32 x2 = 0)) → r = none ∧ S' = S)) : EV q 317 0 [some (.ref 367), some (vI x1), some (vI x2), none, none] [] S r S' := by
  unfold EV
  refine ev_bk 1 (S' := (1, [some (.ref 367), some (vI x1), some (vI x2), none, none], [vI x2], hp S, 0, 0)) rfl ?_
  refine mv_if 5 rfl rfl (fun c => ?_) (fun c => ?_)
  · have F := F.1 c
    refine ev_bk 2 (S' := (7, [some (.ref 367), some (vI x1), some (vI x2), none, none], [vI 1, vI x2], hp S, 0, 0)) rfl ?_
    refine mv_isub rfl ?_
    refine ev_bk 3 (S' := (12, [some (.ref 367), some (vI x1), some (vI x2), some (vI (x2 - 1)), none], [vI 60, vI (x2 - 1)], hp S, 0, 0)) rfl ?_
    refine mv_icmp 25 rfl rfl (fun c => ?_) (fun c => ?_)
    · have F := F.1 c
      refine ev_bk 2 (S' := (29, [some (.ref 367), some (vI x1), some (vI x2), some (vI (x2 - 1)), none], [vI 256, vI (x2 - 1)], hp S, 0, 0)) rfl ?_
      refine mv_icmp 47 rfl rfl (fun c => ?_) (fun c => ?_)
      · have F := F.1 c
        refine ev_bk 2 (S' := (51, [some (.ref 367), some (vI x1), some (vI x2), some (vI (x2 - 1)), none], [vI 244, .ref 367], hp S, 0, 0)) rfl ?_
        obtain ⟨S1, e2, F⟩ := F
        refine mv_calv (as := [vI 244]) (rest := []) e2 (sh_367) rfl rfl rfl ⟨rfl, rfl⟩ rfl rfl rfl rfl rfl ?_
        refine ev_bk 2 (S' := (56, [some (.ref 367), some (vI x1), some (vI x2), some (vI (x2 - 1)), none], [vI (x2 - 1), .ref 367], hp S1, 0, 0)) rfl ?_
        refine mv_i2l rfl ?_
        refine ev_bk 1 (S' := (58, [some (.ref 367), some (vI x1), some (vI x2), some (vI (x2 - 1)), none], [vI 2, vL (w32 (x2 - 1)), .ref 367], hp S1, 0, 0)) rfl ?_
        obtain ⟨S3, e4, F⟩ := F
        refine mv_calv (as := [vL (w32 (x2 - 1)), vI 2]) (rest := []) e4 (sh_367) rfl rfl rfl ⟨rfl, rfl⟩ rfl rfl rfl rfl rfl ?_
        exact F
      · have F := F.2 c
        refine ev_bk 2 (S' := (36, [some (.ref 367), some (vI x1), some (vI x2), some (vI (x2 - 1)), none], [vI 240, .ref 367], hp S, 0, 0)) rfl ?_
        obtain ⟨S5, e6, F⟩ := F
        refine mv_calv (as := [vI 240]) (rest := []) e6 (sh_367) rfl rfl rfl ⟨rfl, rfl⟩ rfl rfl rfl rfl rfl ?_
        refine ev_bk 2 (S' := (41, [some (.ref 367), some (vI x1), some (vI x2), some (vI (x2 - 1)), none], [vI (x2 - 1), .ref 367], hp S5, 0, 0)) rfl ?_
        obtain ⟨S7, e8, F⟩ := F
        refine mv_calv (as := [vI (x2 - 1)]) (rest := []) e8 (sh_367) rfl rfl rfl ⟨rfl, rfl⟩ rfl rfl rfl rfl rfl ?_
        refine mv_goto 61 rfl rfl ?_
        exact F
    · have F := F.2 c
      refine ev_bk 3 (S' := (18, [some (.ref 367), some (vI x1), some (vI x2), some (vI (x2 - 1)), none], [vI 2, vI (x2 - 1), .ref 367], hp S, 0, 0)) rfl ?_
      refine mv_ishl 4 rfl rfl ?_
      obtain ⟨S9, e10, F⟩ := F
      refine mv_calv (as := [vI ((x2 - 1) * 4)]) (rest := []) e10 (sh_367) rfl rfl rfl ⟨rfl, rfl⟩ rfl rfl rfl rfl rfl ?_
      refine mv_goto 61 rfl rfl ?_
      exact F
  · have F := F.2 c
    obtain ⟨rfl, rfl⟩ := F
    exact ev_ret rfl rfl
theorem vc_MD_literals_61 {q : Nat × (Nat → Int32)} {S S' : ms} {r : Option Value} (x1 x2 x3 : Int)
    (F : EV q 317 64 [some (.ref 367), some (vI x1), some (vI x2), some (vI x3), some (vI 0)] [] S r S') : EV q 317 61 [some (.ref 367), some (vI x1), some (vI x2), some (vI x3), none] [] S r S' := by
  unfold EV
  refine ev_bk 2 (S' := (64, [some (.ref 367), some (vI x1), some (vI x2), some (vI x3), some (vI 0)], [], hp S, 0, 0)) rfl ?_
  exact F
theorem vc_MD_literals_64 {q : Nat × (Nat → Int32)} {S S' : ms} {r : Option Value} (x1 x2 x3 x4 : Int)
    (F : ((w32 x2 ≤ w32 x4) → r = none ∧ S' = S) ∧ ((¬ w32 x2 ≤ w32 x4) → (0 ≤ w32 (x1 + x4) ∧ w32 (x1 + x4) < (6000 : Nat)) ∧ ∃ (S2 : ms), EV q 282 0 [some (.ref 367), some (vI (S.1 368 (w32 (x1 + x4))))] [] S none S2 ∧ EV q 317 64 [some (.ref 367), some (vI x1), some (vI x2), some (vI x3), some (vI (x4 + 1))] [] S2 r S')) : EV q 317 64 [some (.ref 367), some (vI x1), some (vI x2), some (vI x3), some (vI x4)] [] S r S' := by
  unfold EV
  refine ev_bk 2 (S' := (67, [some (.ref 367), some (vI x1), some (vI x2), some (vI x3), some (vI x4)], [vI x2, vI x4], hp S, 0, 0)) rfl ?_
  refine mv_icmp 89 rfl rfl (fun c => ?_) (fun c => ?_)
  · have F := F.1 c
    obtain ⟨rfl, rfl⟩ := F
    exact ev_ret rfl rfl
  · have F := F.2 c
    refine ev_bk 2 (S' := (72, [some (.ref 367), some (vI x1), some (vI x2), some (vI x3), some (vI x4)], [.ref 367, .ref 367], hp S, 0, 0)) rfl ?_
    refine mv_gfR rfl rfl (sh_367) (by decide) rfl ?_
    refine ev_bk 2 (S' := (78, [some (.ref 367), some (vI x1), some (vI x2), some (vI x3), some (vI x4)], [vI x4, vI x1, .ref 368, .ref 367], hp S, 0, 0)) rfl ?_
    refine mv_iadd rfl ?_
    obtain ⟨b1, F⟩ := F
    refine mv_bal rfl (sh_368) b1 ?_
    obtain ⟨S2, e3, F⟩ := F
    refine mv_calv (as := [vI (S.1 368 (w32 (x1 + x4)))]) (rest := []) e3 (sh_367) rfl rfl rfl ⟨rfl, rfl⟩ rfl rfl rfl rfl rfl ?_
    refine mv_inc (lv' := [some (.ref 367), some (vI x1), some (vI x2), some (vI x3), some (vI (x4 + 1))]) 4 1 rfl rfl rfl rfl ?_
    refine mv_goto 64 rfl rfl ?_
    exact F
theorem vc_MD_packSorted {q : Nat × (Nat → Int32)} {S S' : ms} {r : Option Value}
    (F : ∀ S1 : ms, S1 = wI S 367 11 1 → ∃ (S2 : ms), EV q 282 0 [some (.ref 367), some (vI 66)] [] S1 none S2 ∧ ∃ (S4 : ms), EV q 282 0 [some (.ref 367), some (vI 90)] [] S2 none S4 ∧ ∃ (S6 : ms), EV q 282 0 [some (.ref 367), some (vI 104)] [] S4 none S6 ∧ ∃ (S8 : ms), EV q 282 0 [some (.ref 367), some (vI 49)] [] S6 none S8 ∧ EV q 318 33 [some (.ref 367), some (vI 0), some (vI 0), none, none, none, none, none] [] S8 r S') : EV q 318 0 [some (.ref 367), none, none, none, none, none, none, none] [] S r S' := by
  unfold EV
  refine ev_bk 2 (S' := (2, [some (.ref 367), none, none, none, none, none, none, none], [vI 1, .ref 367], hp S, 0, 0)) rfl ?_
  refine mv_pfI rfl rfl (sh_367) (by decide) rfl rfl ?_
  have F := F _ rfl
  refine ev_bk 2 (S' := (8, [some (.ref 367), none, none, none, none, none, none, none], [vI 66, .ref 367], hp (wI S 367 11 1), 0, 0)) rfl ?_
  obtain ⟨S2, e3, F⟩ := F
  refine mv_calv (as := [vI 66]) (rest := []) e3 (sh_367) rfl rfl rfl ⟨rfl, rfl⟩ rfl rfl rfl rfl rfl ?_
  refine ev_bk 2 (S' := (14, [some (.ref 367), none, none, none, none, none, none, none], [vI 90, .ref 367], hp S2, 0, 0)) rfl ?_
  obtain ⟨S4, e5, F⟩ := F
  refine mv_calv (as := [vI 90]) (rest := []) e5 (sh_367) rfl rfl rfl ⟨rfl, rfl⟩ rfl rfl rfl rfl rfl ?_
  refine ev_bk 2 (S' := (20, [some (.ref 367), none, none, none, none, none, none, none], [vI 104, .ref 367], hp S4, 0, 0)) rfl ?_
  obtain ⟨S6, e7, F⟩ := F
  refine mv_calv (as := [vI 104]) (rest := []) e7 (sh_367) rfl rfl rfl ⟨rfl, rfl⟩ rfl rfl rfl rfl rfl ?_
  refine ev_bk 2 (S' := (26, [some (.ref 367), none, none, none, none, none, none, none], [vI 49, .ref 367], hp S6, 0, 0)) rfl ?_
  obtain ⟨S8, e9, F⟩ := F
  refine mv_calv (as := [vI 49]) (rest := []) e9 (sh_367) rfl rfl rfl ⟨rfl, rfl⟩ rfl rfl rfl rfl rfl ?_
  refine ev_bk 4 (S' := (33, [some (.ref 367), some (vI 0), some (vI 0), none, none, none, none, none], [], hp S8, 0, 0)) rfl ?_
  exact F
theorem vc_MD_packSorted_33 {q : Nat × (Nat → Int32)} {S S' : ms} {r : Option Value} (x1 x2 : Int)
    (F : ((w32 (S.1 367 2) ≤ w32 x2) → ∃ (S1 : ms), EV q 284 0 [some (.ref 367), some (vL 25779555029136), none, some (vI 48), none] [] S none S1 ∧ ∃ (S3 : ms), EV q 284 0 [some (.ref 367), some (vL ((w32 x1) % 4294967296)), none, some (vI 32), none] [] S1 none S3 ∧ ∃ (S5 : ms), EV q 288 0 [some (.ref 367)] [] S3 none S5 ∧ r = none ∧ S' = S5) ∧ ((¬ w32 (S.1 367 2) ≤ w32 x2) → ((2000 ≤ w32 ((S.1 367 2) - x2)) → EV q 318 65 [some (.ref 367), some (vI x1), some (vI x2), none, none, none, none, none] [vI 2000] S r S') ∧ ((¬ 2000 ≤ w32 ((S.1 367 2) - x2)) → EV q 318 65 [some (.ref 367), some (vI x1), some (vI x2), none, none, none, none, none] [vI ((S.1 367 2) - x2)] S r S'))) : EV q 318 33 [some (.ref 367), some (vI x1), some (vI x2), none, none, none, none, none] [] S r S' := by
  unfold EV
  refine ev_bk 2 (S' := (35, [some (.ref 367), some (vI x1), some (vI x2), none, none, none, none, none], [.ref 367, vI x2], hp S, 0, 0)) rfl ?_
  refine mv_gfI rfl rfl (sh_367) (by decide) rfl ?_
  refine mv_icmp 252 rfl rfl (fun c => ?_) (fun c => ?_)
  · have F := F.1 c
    refine ev_bk 3 (S' := (258, [some (.ref 367), some (vI x1), some (vI x2), none, none, none, none, none], [vI 48, vL 25779555029136, .ref 367], hp S, 0, 0)) rfl ?_
    obtain ⟨S1, e2, F⟩ := F
    refine mv_calv (as := [vL 25779555029136, vI 48]) (rest := []) e2 (sh_367) rfl rfl rfl ⟨rfl, rfl⟩ rfl rfl rfl rfl rfl ?_
    refine ev_bk 2 (S' := (263, [some (.ref 367), some (vI x1), some (vI x2), none, none, none, none, none], [vI x1, .ref 367], hp S1, 0, 0)) rfl ?_
    refine mv_i2l rfl ?_
    refine ev_bk 1 (S' := (267, [some (.ref 367), some (vI x1), some (vI x2), none, none, none, none, none], [vL 4294967295, vL (w32 x1), .ref 367], hp S1, 0, 0)) rfl ?_
    refine mv_landm 4294967296 32 (by decide) rfl rfl rfl ?_
    refine ev_bk 1 (S' := (270, [some (.ref 367), some (vI x1), some (vI x2), none, none, none, none, none], [vI 32, vL ((w32 x1) % 4294967296), .ref 367], hp S1, 0, 0)) rfl ?_
    obtain ⟨S3, e4, F⟩ := F
    refine mv_calv (as := [vL ((w32 x1) % 4294967296), vI 32]) (rest := []) e4 (sh_367) rfl rfl rfl ⟨rfl, rfl⟩ rfl rfl rfl rfl rfl ?_
    refine ev_bk 1 (S' := (274, [some (.ref 367), some (vI x1), some (vI x2), none, none, none, none, none], [.ref 367], hp S3, 0, 0)) rfl ?_
    obtain ⟨S5, e6, F⟩ := F
    refine mv_calv (as := []) (rest := []) e6 (sh_367) rfl rfl rfl ⟨rfl, rfl⟩ rfl rfl rfl rfl rfl ?_
    obtain ⟨rfl, rfl⟩ := F
    exact ev_ret rfl rfl
  · have F := F.2 c
    refine ev_bk 1 (S' := (42, [some (.ref 367), some (vI x1), some (vI x2), none, none, none, none, none], [.ref 367], hp S, 0, 0)) rfl ?_
    refine mv_gfI rfl rfl (sh_367) (by decide) rfl ?_
    refine ev_bk 1 (S' := (46, [some (.ref 367), some (vI x1), some (vI x2), none, none, none, none, none], [vI x2, vI (S.1 367 2)], hp S, 0, 0)) rfl ?_
    refine mv_isub rfl ?_
    refine ev_bk 1 (S' := (50, [some (.ref 367), some (vI x1), some (vI x2), none, none, none, none, none], [vI 2000, vI ((S.1 367 2) - x2)], hp S, 0, 0)) rfl ?_
    refine mv_icmp 62 rfl rfl (fun c => ?_) (fun c => ?_)
    · have F := F.1 c
      refine ev_bk 1 (S' := (65, [some (.ref 367), some (vI x1), some (vI x2), none, none, none, none, none], [vI 2000], hp S, 0, 0)) rfl ?_
      exact F
    · have F := F.2 c
      refine ev_bk 1 (S' := (54, [some (.ref 367), some (vI x1), some (vI x2), none, none, none, none, none], [.ref 367], hp S, 0, 0)) rfl ?_
      refine mv_gfI rfl rfl (sh_367) (by decide) rfl ?_
      refine ev_bk 1 (S' := (58, [some (.ref 367), some (vI x1), some (vI x2), none, none, none, none, none], [vI x2, vI (S.1 367 2)], hp S, 0, 0)) rfl ?_
      refine mv_isub rfl ?_
      refine mv_goto 65 rfl rfl ?_
      exact F
theorem vc_MD_packSorted_65 {q : Nat × (Nat → Int32)} {S S' : ms} {r : Option Value} (x1 x2 y0 : Int)
    (F : ∃ (z3 : Int) (S1 : ms), EV q 265 0 [some (.ref 367), some (.ref 368), some (vI x2), some (vI y0), none, none] [] S (some (vI z3)) S1 ∧ ∃ (z6 : Int) (S4 : ms), EV q 269 0 [some (vI x1), some (vI 1)] [] S1 (some (vI z6)) S4 ∧ ∀ S7 : ms, S7 = wI S4 367 66 0 → EV q 318 95 [some (.ref 367), some (vI (bX z6 z3)), some (vI x2), some (vI y0), some (vI z3), some (vI x2), none, none] [] S7 r S') : EV q 318 65 [some (.ref 367), some (vI x1), some (vI x2), none, none, none, none, none] [vI y0] S r S' := by
  unfold EV
  refine ev_bk 3 (S' := (68, [some (.ref 367), some (vI x1), some (vI x2), some (vI y0), none, none, none, none], [.ref 367, .ref 367], hp S, 0, 0)) rfl ?_
  refine mv_gfR rfl rfl (sh_367) (by decide) rfl ?_
  refine ev_bk 2 (S' := (73, [some (.ref 367), some (vI x1), some (vI x2), some (vI y0), none, none, none, none], [vI y0, vI x2, .ref 368, .ref 367], hp S, 0, 0)) rfl ?_
  obtain ⟨z3, S1, e2, F⟩ := F
  refine mv_calv (as := [.ref 368, vI x2, vI y0]) (rest := []) e2 (sh_367) rfl rfl rfl ⟨rfl, rfl⟩ rfl rfl rfl rfl rfl ?_
  refine ev_bk 3 (S' := (80, [some (.ref 367), some (vI x1), some (vI x2), some (vI y0), some (vI z3), none, none, none], [vI 1, vI x1], hp S1, 0, 0)) rfl ?_
  obtain ⟨z6, S4, e5, F⟩ := F
  refine mv_cals (as := [vI x1, vI 1]) (rest := []) e5 rfl rfl rfl ⟨rfl, rfl, rfl⟩ rfl rfl rfl rfl ?_
  refine ev_bk 1 (S' := (85, [some (.ref 367), some (vI x1), some (vI x2), some (vI y0), some (vI z3), none, none, none], [vI z3, vI z6], hp S4, 0, 0)) rfl ?_
  refine mv_ixor rfl ?_
  refine ev_bk 3 (S' := (89, [some (.ref 367), some (vI (bX z6 z3)), some (vI x2), some (vI y0), some (vI z3), none, none, none], [vI 0, .ref 367], hp S4, 0, 0)) rfl ?_
  refine mv_pfI rfl rfl (sh_367) (by decide) rfl rfl ?_
  have F := F _ rfl
  refine ev_bk 2 (S' := (95, [some (.ref 367), some (vI (bX z6 z3)), some (vI x2), some (vI y0), some (vI z3), some (vI x2), none, none], [], hp (wI S4 367 66 0), 0, 0)) rfl ?_
  exact F
theorem vc_MD_packSorted_95 {q : Nat × (Nat → Int32)} {S S' : ms} {r : Option Value} (x1 x2 x3 x4 x5 : Int)
    (F : ((w32 (x2 + x3) ≤ w32 x5) → ∃ (S1 : ms), EV q 284 0 [some (.ref 367), some (vL 54156738319193), none, some (vI 48), none] [] S none S1 ∧ ∃ (S3 : ms), EV q 284 0 [some (.ref 367), some (vL ((w32 x4) % 4294967296)), none, some (vI 32), none] [] S1 none S3 ∧ ∃ (S5 : ms), EV q 285 0 [some (.ref 367), some (vI 0)] [] S3 none S5 ∧ ∃ (S7 : ms), EV q 319 0 [some (.ref 367), none, none, none, none, none, none, none, none] [] S5 none S7 ∧ ∃ (S9 : ms), EV q 321 0 [some (.ref 367), none, none, none, none, none, none] [] S7 none S9 ∧ EV q 318 33 [some (.ref 367), some (vI x1), some (vI (x2 + 2000)), none, none, none, none, none] [] S9 r S') ∧ ((¬ w32 (x2 + x3) ≤ w32 x5) → ∃ (z13 : Int) (S11 : ms), EV q 281 0 [some (.ref 368), some (vI x5), some (vI (x2 + x3)), some (vI 259), none] [] S (some (vI z13)) S11 ∧ EV q 318 123 [some (.ref 367), some (vI x1), some (vI x2), some (vI x3), some (vI x4), some (vI x5), some (vI z13), some (vI 0)] [] S11 r S')) : EV q 318 95 [some (.ref 367), some (vI x1), some (vI x2), some (vI x3), some (vI x4), some (vI x5), none, none] [] S r S' := by
  unfold EV
  refine ev_bk 3 (S' := (99, [some (.ref 367), some (vI x1), some (vI x2), some (vI x3), some (vI x4), some (vI x5), none, none], [vI x3, vI x2, vI x5], hp S, 0, 0)) rfl ?_
  refine mv_iadd rfl ?_
  refine mv_icmp 208 rfl rfl (fun c => ?_) (fun c => ?_)
  · have F := F.1 c
    refine ev_bk 3 (S' := (214, [some (.ref 367), some (vI x1), some (vI x2), some (vI x3), some (vI x4), some (vI x5), none, none], [vI 48, vL 54156738319193, .ref 367], hp S, 0, 0)) rfl ?_
    obtain ⟨S1, e2, F⟩ := F
    refine mv_calv (as := [vL 54156738319193, vI 48]) (rest := []) e2 (sh_367) rfl rfl rfl ⟨rfl, rfl⟩ rfl rfl rfl rfl rfl ?_
    refine ev_bk 2 (S' := (220, [some (.ref 367), some (vI x1), some (vI x2), some (vI x3), some (vI x4), some (vI x5), none, none], [vI x4, .ref 367], hp S1, 0, 0)) rfl ?_
    refine mv_i2l rfl ?_
    refine ev_bk 1 (S' := (224, [some (.ref 367), some (vI x1), some (vI x2), some (vI x3), some (vI x4), some (vI x5), none, none], [vL 4294967295, vL (w32 x4), .ref 367], hp S1, 0, 0)) rfl ?_
    refine mv_landm 4294967296 32 (by decide) rfl rfl rfl ?_
    refine ev_bk 1 (S' := (227, [some (.ref 367), some (vI x1), some (vI x2), some (vI x3), some (vI x4), some (vI x5), none, none], [vI 32, vL ((w32 x4) % 4294967296), .ref 367], hp S1, 0, 0)) rfl ?_
    obtain ⟨S3, e4, F⟩ := F
    refine mv_calv (as := [vL ((w32 x4) % 4294967296), vI 32]) (rest := []) e4 (sh_367) rfl rfl rfl ⟨rfl, rfl⟩ rfl rfl rfl rfl rfl ?_
    refine ev_bk 2 (S' := (232, [some (.ref 367), some (vI x1), some (vI x2), some (vI x3), some (vI x4), some (vI x5), none, none], [vI 0, .ref 367], hp S3, 0, 0)) rfl ?_
    obtain ⟨S5, e6, F⟩ := F
    refine mv_calv (as := [vI 0]) (rest := []) e6 (sh_367) rfl rfl rfl ⟨rfl, rfl⟩ rfl rfl rfl rfl rfl ?_
    refine ev_bk 1 (S' := (236, [some (.ref 367), some (vI x1), some (vI x2), some (vI x3), some (vI x4), some (vI x5), none, none], [.ref 367], hp S5, 0, 0)) rfl ?_
    obtain ⟨S7, e8, F⟩ := F
    refine mv_calv (as := []) (rest := []) e8 (sh_367) rfl rfl rfl ⟨rfl, rfl⟩ rfl rfl rfl rfl rfl ?_
    refine ev_bk 1 (S' := (240, [some (.ref 367), some (vI x1), some (vI x2), some (vI x3), some (vI x4), some (vI x5), none, none], [.ref 367], hp S7, 0, 0)) rfl ?_
    obtain ⟨S9, e10, F⟩ := F
    refine mv_calv (as := []) (rest := []) e10 (sh_367) rfl rfl rfl ⟨rfl, rfl⟩ rfl rfl rfl rfl rfl ?_
    refine mv_incW (lv' := [some (.ref 367), some (vI x1), some (vI (x2 + 2000)), some (vI x3), some (vI x4), some (vI x5), none, none]) 2 2000 rfl rfl rfl rfl ?_
    refine mv_goto 33 rfl rfl ?_
    exact ev_wk (le_s (le_s (le_s (le_n (le_n (le_n (le_s (le_s le_0)))))))) F
  · have F := F.2 c
    refine ev_bk 1 (S' := (104, [some (.ref 367), some (vI x1), some (vI x2), some (vI x3), some (vI x4), some (vI x5), none, none], [.ref 367], hp S, 0, 0)) rfl ?_
    refine mv_gfR rfl rfl (sh_367) (by decide) rfl ?_
    refine ev_bk 3 (S' := (111, [some (.ref 367), some (vI x1), some (vI x2), some (vI x3), some (vI x4), some (vI x5), none, none], [vI x3, vI x2, vI x5, .ref 368], hp S, 0, 0)) rfl ?_
    refine mv_iadd rfl ?_
    refine ev_bk 1 (S' := (115, [some (.ref 367), some (vI x1), some (vI x2), some (vI x3), some (vI x4), some (vI x5), none, none], [vI 259, vI (x2 + x3), vI x5, .ref 368], hp S, 0, 0)) rfl ?_
    obtain ⟨z13, S11, e12, F⟩ := F
    refine mv_cals (as := [.ref 368, vI x5, vI (x2 + x3), vI 259]) (rest := []) e12 rfl rfl rfl ⟨rfl, rfl, rfl⟩ rfl rfl rfl rfl ?_
    refine ev_bk 3 (S' := (123, [some (.ref 367), some (vI x1), some (vI x2), some (vI x3), some (vI x4), some (vI x5), some (vI z13), some (vI 0)], [], hp S11, 0, 0)) rfl ?_
    exact F
theorem vc_MD_packSorted_123 {q : Nat × (Nat → Int32)} {S S' : ms} {r : Option Value} (x1 x2 x3 x4 x5 x6 x7 : Int)
    (F : ((w32 x6 ≤ w32 x7) → EV q 318 168 [some (.ref 367), some (vI x1), some (vI x2), some (vI x3), some (vI x4), some (vI x5), some (vI x6), some (vI x7)] [] S r S') ∧ ((¬ w32 x6 ≤ w32 x7) → ((4 ≤ w32 x7) → EV q 318 168 [some (.ref 367), some (vI x1), some (vI x2), some (vI x3), some (vI x4), some (vI x5), some (vI x6), some (vI x7)] [] S r S') ∧ ((¬ 4 ≤ w32 x7) → (0 ≤ w32 x5 ∧ w32 x5 < (6000 : Nat)) ∧ (0 ≤ w32 (S.1 367 66) ∧ w32 (S.1 367 66) < (15200 : Nat)) ∧ ∀ S3 : ms, S3 = wI S 406 (w32 (S.1 367 66)) (b8 (S.1 368 (w32 x5))) → ∀ S4 : ms, S4 = wI S3 367 66 (S3.1 367 66 + 1) → EV q 318 123 [some (.ref 367), some (vI x1), some (vI x2), some (vI x3), some (vI x4), some (vI x5), some (vI x6), some (vI (x7 + 1))] [] S4 r S'))) : EV q 318 123 [some (.ref 367), some (vI x1), some (vI x2), some (vI x3), some (vI x4), some (vI x5), some (vI x6), some (vI x7)] [] S r S' := by
  unfold EV
  refine ev_bk 2 (S' := (127, [some (.ref 367), some (vI x1), some (vI x2), some (vI x3), some (vI x4), some (vI x5), some (vI x6), some (vI x7)], [vI x6, vI x7], hp S, 0, 0)) rfl ?_
  refine mv_icmp 168 rfl rfl (fun c => ?_) (fun c => ?_)
  · have F := F.1 c
    exact F
  · have F := F.2 c
    refine ev_bk 2 (S' := (133, [some (.ref 367), some (vI x1), some (vI x2), some (vI x3), some (vI x4), some (vI x5), some (vI x6), some (vI x7)], [vI 4, vI x7], hp S, 0, 0)) rfl ?_
    refine mv_icmp 168 rfl rfl (fun c => ?_) (fun c => ?_)
    · have F := F.1 c
      exact F
    · have F := F.2 c
      refine ev_bk 1 (S' := (137, [some (.ref 367), some (vI x1), some (vI x2), some (vI x3), some (vI x4), some (vI x5), some (vI x6), some (vI x7)], [.ref 367], hp S, 0, 0)) rfl ?_
      refine mv_gfR rfl rfl (sh_367) (by decide) rfl ?_
      refine ev_bk 1 (S' := (141, [some (.ref 367), some (vI x1), some (vI x2), some (vI x3), some (vI x4), some (vI x5), some (vI x6), some (vI x7)], [.ref 367, .ref 406], hp S, 0, 0)) rfl ?_
      refine mv_gfI rfl rfl (sh_367) (by decide) rfl ?_
      refine ev_bk 1 (S' := (145, [some (.ref 367), some (vI x1), some (vI x2), some (vI x3), some (vI x4), some (vI x5), some (vI x6), some (vI x7)], [.ref 367, vI (S.1 367 66), .ref 406], hp S, 0, 0)) rfl ?_
      refine mv_gfR rfl rfl (sh_367) (by decide) rfl ?_
      refine ev_bk 1 (S' := (150, [some (.ref 367), some (vI x1), some (vI x2), some (vI x3), some (vI x4), some (vI x5), some (vI x6), some (vI x7)], [vI x5, .ref 368, vI (S.1 367 66), .ref 406], hp S, 0, 0)) rfl ?_
      obtain ⟨b1, F⟩ := F
      refine mv_bal rfl (sh_368) b1 ?_
      obtain ⟨b2, F⟩ := F
      refine mv_bas rfl (sh_406) b2 ?_
      have F := F _ rfl
      refine ev_bk 2 (S' := (154, [some (.ref 367), some (vI x1), some (vI x2), some (vI x3), some (vI x4), some (vI x5), some (vI x6), some (vI x7)], [.ref 367, .ref 367], hp (wI S 406 (w32 (S.1 367 66)) (b8 (S.1 368 (w32 x5)))), 0, 0)) rfl ?_
      refine mv_gfI rfl rfl (sh_367) (by decide) rfl ?_
      refine ev_bk 1 (S' := (158, [some (.ref 367), some (vI x1), some (vI x2), some (vI x3), some (vI x4), some (vI x5), some (vI x6), some (vI x7)], [vI 1, vI ((wI S 406 (w32 (S.1 367 66)) (b8 (S.1 368 (w32 x5)))).1 367 66), .ref 367], hp (wI S 406 (w32 (S.1 367 66)) (b8 (S.1 368 (w32 x5)))), 0, 0)) rfl ?_
      refine mv_iadd rfl ?_
      refine mv_pfI rfl rfl (sh_367) (by decide) rfl rfl ?_
      have F := F _ rfl
      refine mv_inc (lv' := [some (.ref 367), some (vI x1), some (vI x2), some (vI x3), some (vI x4), some (vI x5), some (vI x6), some (vI (x7 + 1))]) 7 1 rfl rfl rfl rfl ?_
      refine mv_goto 123 rfl rfl ?_
      exact F
theorem vc_MD_packSorted_168 {q : Nat × (Nat → Int32)} {S S' : ms} {r : Option Value} (x1 x2 x3 x4 x5 x6 x7 : Int)
    (F : ((w32 x6 < 4) → EV q 318 198 [some (.ref 367), some (vI x1), some (vI x2), some (vI x3), some (vI x4), some (vI x5), some (vI x6), some (vI x7)] [] S r S') ∧ ((¬ w32 x6 < 4) → (0 ≤ w32 (S.1 367 66) ∧ w32 (S.1 367 66) < (15200 : Nat)) ∧ ∀ S2 : ms, S2 = wI S 406 (w32 (S.1 367 66)) (b8 (b8 (x6 - 4))) → ∀ S3 : ms, S3 = wI S2 367 66 (S2.1 367 66 + 1) → EV q 318 198 [some (.ref 367), some (vI x1), some (vI x2), some (vI x3), some (vI x4), some (vI x5), some (vI x6), some (vI x7)] [] S3 r S')) : EV q 318 168 [some (.ref 367), some (vI x1), some (vI x2), some (vI x3), some (vI x4), some (vI x5), some (vI x6), some (vI x7)] [] S r S' := by
  unfold EV
  refine ev_bk 2 (S' := (171, [some (.ref 367), some (vI x1), some (vI x2), some (vI x3), some (vI x4), some (vI x5), some (vI x6), some (vI x7)], [vI 4, vI x6], hp S, 0, 0)) rfl ?_
  refine mv_icmp 198 rfl rfl (fun c => ?_) (fun c => ?_)
  · have F := F.1 c
    exact F
  · have F := F.2 c
    refine ev_bk 1 (S' := (175, [some (.ref 367), some (vI x1), some (vI x2), some (vI x3), some (vI x4), some (vI x5), some (vI x6), some (vI x7)], [.ref 367], hp S, 0, 0)) rfl ?_
    refine mv_gfR rfl rfl (sh_367) (by decide) rfl ?_
    refine ev_bk 1 (S' := (179, [some (.ref 367), some (vI x1), some (vI x2), some (vI x3), some (vI x4), some (vI x5), some (vI x6), some (vI x7)], [.ref 367, .ref 406], hp S, 0, 0)) rfl ?_
    refine mv_gfI rfl rfl (sh_367) (by decide) rfl ?_
    refine ev_bk 2 (S' := (185, [some (.ref 367), some (vI x1), some (vI x2), some (vI x3), some (vI x4), some (vI x5), some (vI x6), some (vI x7)], [vI 4, vI x6, vI (S.1 367 66), .ref 406], hp S, 0, 0)) rfl ?_
    refine mv_isub rfl ?_
    refine mv_i2b rfl ?_
    obtain ⟨b1, F⟩ := F
    refine mv_bas rfl (sh_406) b1 ?_
    have F := F _ rfl
    refine ev_bk 2 (S' := (190, [some (.ref 367), some (vI x1), some (vI x2), some (vI x3), some (vI x4), some (vI x5), some (vI x6), some (vI x7)], [.ref 367, .ref 367], hp (wI S 406 (w32 (S.1 367 66)) (b8 (b8 (x6 - 4)))), 0, 0)) rfl ?_
    refine mv_gfI rfl rfl (sh_367) (by decide) rfl ?_
    refine ev_bk 1 (S' := (194, [some (.ref 367), some (vI x1), some (vI x2), some (vI x3), some (vI x4), some (vI x5), some (vI x6), some (vI x7)], [vI 1, vI ((wI S 406 (w32 (S.1 367 66)) (b8 (b8 (x6 - 4)))).1 367 66), .ref 367], hp (wI S 406 (w32 (S.1 367 66)) (b8 (b8 (x6 - 4)))), 0, 0)) rfl ?_
    refine mv_iadd rfl ?_
    refine mv_pfI rfl rfl (sh_367) (by decide) rfl rfl ?_
    have F := F _ rfl
    exact F
theorem vc_MD_packSorted_198 {q : Nat × (Nat → Int32)} {S S' : ms} {r : Option Value} (x1 x2 x3 x4 x5 x6 x7 : Int)
    (F : EV q 318 95 [some (.ref 367), some (vI x1), some (vI x2), some (vI x3), some (vI x4), some (vI (x5 + x6)), none, none] [] S r S') : EV q 318 198 [some (.ref 367), some (vI x1), some (vI x2), some (vI x3), some (vI x4), some (vI x5), some (vI x6), some (vI x7)] [] S r S' := by
  unfold EV
  refine ev_bk 2 (S' := (202, [some (.ref 367), some (vI x1), some (vI x2), some (vI x3), some (vI x4), some (vI x5), some (vI x6), some (vI x7)], [vI x6, vI x5], hp S, 0, 0)) rfl ?_
  refine mv_iadd rfl ?_
  refine ev_bk 1 (S' := (205, [some (.ref 367), some (vI x1), some (vI x2), some (vI x3), some (vI x4), some (vI (x5 + x6)), some (vI x6), some (vI x7)], [], hp S, 0, 0)) rfl ?_
  refine mv_goto 95 rfl rfl ?_
  exact ev_wk (le_s (le_s (le_s (le_s (le_s (le_s (le_n (le_n le_0)))))))) F
theorem vc_MD_sortRotations {q : Nat × (Nat → Int32)} {S S' : ms} {r : Option Value}
    (F : EV q 319 2 [some (.ref 367), some (vI 0), none, none, none, none, none, none, none] [] S r S') : EV q 319 0 [some (.ref 367), none, none, none, none, none, none, none, none] [] S r S' := by
  unfold EV
  refine ev_bk 2 (S' := (2, [some (.ref 367), some (vI 0), none, none, none, none, none, none, none], [], hp S, 0, 0)) rfl ?_
  exact F
theorem vc_MD_sortRotations_2 {q : Nat × (Nat → Int32)} {S S' : ms} {r : Option Value} (x1 : Int)
    (F : ((w32 (S.1 367 66) ≤ w32 x1) → EV q 319 25 [some (.ref 367), some (vI 1), none, none, none, none, none, none, none] [] S r S') ∧ ((¬ w32 (S.1 367 66) ≤ w32 x1) → (0 ≤ w32 x1 ∧ w32 x1 < (15200 : Nat)) ∧ ∀ S2 : ms, S2 = wI S 407 (w32 x1) x1 → EV q 319 2 [some (.ref 367), some (vI (x1 + 1)), none, none, none, none, none, none, none] [] S2 r S')) : EV q 319 2 [some (.ref 367), some (vI x1), none, none, none, none, none, none, none] [] S r S' := by
  unfold EV
  refine ev_bk 2 (S' := (4, [some (.ref 367), some (vI x1), none, none, none, none, none, none, none], [.ref 367, vI x1], hp S, 0, 0)) rfl ?_
  refine mv_gfI rfl rfl (sh_367) (by decide) rfl ?_
  refine mv_icmp 23 rfl rfl (fun c => ?_) (fun c => ?_)
  · have F := F.1 c
    refine ev_bk 2 (S' := (25, [some (.ref 367), some (vI 1), none, none, none, none, none, none, none], [], hp S, 0, 0)) rfl ?_
    exact F
  · have F := F.2 c
    refine ev_bk 1 (S' := (11, [some (.ref 367), some (vI x1), none, none, none, none, none, none, none], [.ref 367], hp S, 0, 0)) rfl ?_
    refine mv_gfR rfl rfl (sh_367) (by decide) rfl ?_
    refine ev_bk 2 (S' := (16, [some (.ref 367), some (vI x1), none, none, none, none, none, none, none], [vI x1, vI x1, .ref 407], hp S, 0, 0)) rfl ?_
    obtain ⟨b1, F⟩ := F
    refine mv_ias rfl (sh_407) b1 ?_
    have F := F _ rfl
    refine mv_inc (lv' := [some (.ref 367), some (vI (x1 + 1)), none, none, none, none, none, none, none]) 1 1 rfl rfl rfl rfl ?_
    refine mv_goto 2 rfl rfl ?_
    exact F
theorem vc_MD_sortRotations_25 {q : Nat × (Nat → Int32)} {S S' : ms} {r : Option Value} (x1 : Int)
    (F : ((w32 (S.1 367 66) ≤ w32 x1) → r = none ∧ S' = S) ∧ ((¬ w32 (S.1 367 66) ≤ w32 x1) → EV q 319 35 [some (.ref 367), some (vI x1), some (vI 0), none, none, none, none, none, none] [] S r S')) : EV q 319 25 [some (.ref 367), some (vI x1), none, none, none, none, none, none, none] [] S r S' := by
  unfold EV
  refine ev_bk 2 (S' := (27, [some (.ref 367), some (vI x1), none, none, none, none, none, none, none], [.ref 367, vI x1], hp S, 0, 0)) rfl ?_
  refine mv_gfI rfl rfl (sh_367) (by decide) rfl ?_
  refine mv_icmp 253 rfl rfl (fun c => ?_) (fun c => ?_)
  · have F := F.1 c
    obtain ⟨rfl, rfl⟩ := F
    exact ev_ret rfl rfl
  · have F := F.2 c
    refine ev_bk 2 (S' := (35, [some (.ref 367), some (vI x1), some (vI 0), none, none, none, none, none, none], [], hp S, 0, 0)) rfl ?_
    exact F
theorem vc_MD_sortRotations_35 {q : Nat × (Nat → Int32)} {S S' : ms} {r : Option Value} (x1 x2 : Int)
    (F : ((w32 (S.1 367 66) ≤ w32 x2) → EV q 319 220 [some (.ref 367), some (vI x1), some (vI 0), none, none, none, none, none, none] [] S r S') ∧ ((¬ w32 (S.1 367 66) ≤ w32 x2) → ((w32 (S.1 367 66) ≤ w32 (x2 + x1)) → EV q 319 65 [some (.ref 367), some (vI x1), some (vI x2), some (vI x2), none, none, none, none, none] [vI (S.1 367 66)] S r S') ∧ ((¬ w32 (S.1 367 66) ≤ w32 (x2 + x1)) → EV q 319 65 [some (.ref 367), some (vI x1), some (vI x2), some (vI x2), none, none, none, none, none] [vI (x2 + x1)] S r S'))) : EV q 319 35 [some (.ref 367), some (vI x1), some (vI x2), none, none, none, none, none, none] [] S r S' := by
  unfold EV
  refine ev_bk 2 (S' := (37, [some (.ref 367), some (vI x1), some (vI x2), none, none, none, none, none, none], [.ref 367, vI x2], hp S, 0, 0)) rfl ?_
  refine mv_gfI rfl rfl (sh_367) (by decide) rfl ?_
  refine mv_icmp 218 rfl rfl (fun c => ?_) (fun c => ?_)
  · have F := F.1 c
    refine ev_bk 2 (S' := (220, [some (.ref 367), some (vI x1), some (vI 0), none, none, none, none, none, none], [], hp S, 0, 0)) rfl ?_
    exact F
  · have F := F.2 c
    refine ev_bk 4 (S' := (47, [some (.ref 367), some (vI x1), some (vI x2), some (vI x2), none, none, none, none, none], [vI x1, vI x2], hp S, 0, 0)) rfl ?_
    refine mv_iadd rfl ?_
    refine ev_bk 1 (S' := (49, [some (.ref 367), some (vI x1), some (vI x2), some (vI x2), none, none, none, none, none], [.ref 367, vI (x2 + x1)], hp S, 0, 0)) rfl ?_
    refine mv_gfI rfl rfl (sh_367) (by decide) rfl ?_
    refine mv_icmp 61 rfl rfl (fun c => ?_) (fun c => ?_)
    · have F := F.1 c
      refine ev_bk 1 (S' := (62, [some (.ref 367), some (vI x1), some (vI x2), some (vI x2), none, none, none, none, none], [.ref 367], hp S, 0, 0)) rfl ?_
      refine mv_gfI rfl rfl (sh_367) (by decide) rfl ?_
      exact F
    · have F := F.2 c
      refine ev_bk 2 (S' := (57, [some (.ref 367), some (vI x1), some (vI x2), some (vI x2), none, none, none, none, none], [vI x1, vI x2], hp S, 0, 0)) rfl ?_
      refine mv_iadd rfl ?_
      refine mv_goto 65 rfl rfl ?_
      exact F
theorem vc_MD_sortRotations_65 {q : Nat × (Nat → Int32)} {S S' : ms} {r : Option Value} (x1 x2 x3 y0 : Int)
    (F : ((w32 (S.1 367 66) ≤ w32 (x2 + (2 * x1))) → EV q 319 95 [some (.ref 367), some (vI x1), some (vI x2), some (vI x3), some (vI y0), some (vI y0), none, none, none] [vI (S.1 367 66)] S r S') ∧ ((¬ w32 (S.1 367 66) ≤ w32 (x2 + (2 * x1))) → EV q 319 95 [some (.ref 367), some (vI x1), some (vI x2), some (vI x3), some (vI y0), some (vI y0), none, none, none] [vI (x2 + (2 * x1))] S r S')) : EV q 319 65 [some (.ref 367), some (vI x1), some (vI x2), some (vI x3), none, none, none, none, none] [vI y0] S r S' := by
  unfold EV
  refine ev_bk 6 (S' := (74, [some (.ref 367), some (vI x1), some (vI x2), some (vI x3), some (vI y0), some (vI y0), none, none, none], [vI x1, vI 2, vI x2], hp S, 0, 0)) rfl ?_
  refine mv_imul rfl ?_
  refine mv_iadd rfl ?_
  refine ev_bk 1 (S' := (77, [some (.ref 367), some (vI x1), some (vI x2), some (vI x3), some (vI y0), some (vI y0), none, none, none], [.ref 367, vI (x2 + (2 * x1))], hp S, 0, 0)) rfl ?_
  refine mv_gfI rfl rfl (sh_367) (by decide) rfl ?_
  refine mv_icmp 91 rfl rfl (fun c => ?_) (fun c => ?_)
  · have F := F.1 c
    refine ev_bk 1 (S' := (92, [some (.ref 367), some (vI x1), some (vI x2), some (vI x3), some (vI y0), some (vI y0), none, none, none], [.ref 367], hp S, 0, 0)) rfl ?_
    refine mv_gfI rfl rfl (sh_367) (by decide) rfl ?_
    exact F
  · have F := F.2 c
    refine ev_bk 3 (S' := (86, [some (.ref 367), some (vI x1), some (vI x2), some (vI x3), some (vI y0), some (vI y0), none, none, none], [vI x1, vI 2, vI x2], hp S, 0, 0)) rfl ?_
    refine mv_imul rfl ?_
    refine mv_iadd rfl ?_
    refine mv_goto 95 rfl rfl ?_
    exact F
theorem vc_MD_sortRotations_95 {q : Nat × (Nat → Int32)} {S S' : ms} {r : Option Value} (x1 x2 x3 x4 x5 y0 : Int)
    (F : EV q 319 100 [some (.ref 367), some (vI x1), some (vI x2), some (vI x3), some (vI x4), some (vI x5), some (vI y0), some (vI x2), none] [] S r S') : EV q 319 95 [some (.ref 367), some (vI x1), some (vI x2), some (vI x3), some (vI x4), some (vI x5), none, none, none] [vI y0] S r S' := by
  unfold EV
  refine ev_bk 3 (S' := (100, [some (.ref 367), some (vI x1), some (vI x2), some (vI x3), some (vI x4), some (vI x5), some (vI y0), some (vI x2), none], [], hp S, 0, 0)) rfl ?_
  exact F
theorem vc_MD_sortRotations_100 {q : Nat × (Nat → Int32)} {S S' : ms} {r : Option Value} (x1 x2 x3 x4 x5 x6 x7 : Int)
    (F : ((w32 x6 ≤ w32 x7) → EV q 319 35 [some (.ref 367), some (vI x1), some (vI (x2 + (2 * x1))), none, none, none, none, none, none] [] S r S') ∧ ((¬ w32 x6 ≤ w32 x7) → ((w32 x4 ≤ w32 x3) → EV q 319 144 [some (.ref 367), some (vI x1), some (vI x2), some (vI x3), some (vI x4), some (vI x5), some (vI x6), some (vI x7), none] [] S r S') ∧ ((¬ w32 x4 ≤ w32 x3) → ((w32 x6 ≤ w32 x5) → EV q 319 140 [some (.ref 367), some (vI x1), some (vI x2), some (vI x3), some (vI x4), some (vI x5), some (vI x6), some (vI x7), none] [] S r S') ∧ ((¬ w32 x6 ≤ w32 x5) → (0 ≤ w32 x3 ∧ w32 x3 < (15200 : Nat)) ∧ (0 ≤ w32 x5 ∧ w32 x5 < (15200 : Nat)) ∧ ∃ (z5 : Int) (S3 : ms), EV q 320 0 [some (.ref 367), some (vI (S.1 407 (w32 x3))), some (vI (S.1 407 (w32 x5))), none, none] [] S (some (vI z5)) S3 ∧ ((0 < w32 z5) → EV q 319 144 [some (.ref 367), some (vI x1), some (vI x2), some (vI x3), some (vI x4), some (vI x5), some (vI x6), some (vI x7), none] [] S3 r S') ∧ ((¬ 0 < w32 z5) → EV q 319 140 [some (.ref 367), some (vI x1), some (vI x2), some (vI x3), some (vI x4), some (vI x5), some (vI x6), some (vI x7), none] [] S3 r S'))))) : EV q 319 100 [some (.ref 367), some (vI x1), some (vI x2), some (vI x3), some (vI x4), some (vI x5), some (vI x6), some (vI x7), none] [] S r S' := by
  unfold EV
  refine ev_bk 2 (S' := (104, [some (.ref 367), some (vI x1), some (vI x2), some (vI x3), some (vI x4), some (vI x5), some (vI x6), some (vI x7), none], [vI x6, vI x7], hp S, 0, 0)) rfl ?_
  refine mv_icmp 209 rfl rfl (fun c => ?_) (fun c => ?_)
  · have F := F.1 c
    refine ev_bk 3 (S' := (212, [some (.ref 367), some (vI x1), some (vI x2), some (vI x3), some (vI x4), some (vI x5), some (vI x6), some (vI x7), none], [vI x1, vI 2, vI x2], hp S, 0, 0)) rfl ?_
    refine mv_imul rfl ?_
    refine mv_iadd rfl ?_
    refine ev_bk 1 (S' := (215, [some (.ref 367), some (vI x1), some (vI (x2 + (2 * x1))), some (vI x3), some (vI x4), some (vI x5), some (vI x6), some (vI x7), none], [], hp S, 0, 0)) rfl ?_
    refine mv_goto 35 rfl rfl ?_
    exact ev_wk (le_s (le_s (le_s (le_n (le_n (le_n (le_n (le_n (le_s le_0))))))))) F
  · have F := F.2 c
    refine ev_bk 2 (S' := (110, [some (.ref 367), some (vI x1), some (vI x2), some (vI x3), some (vI x4), some (vI x5), some (vI x6), some (vI x7), none], [vI x4, vI x3], hp S, 0, 0)) rfl ?_
    refine mv_icmp 144 rfl rfl (fun c => ?_) (fun c => ?_)
    · have F := F.1 c
      exact F
    · have F := F.2 c
      refine ev_bk 2 (S' := (117, [some (.ref 367), some (vI x1), some (vI x2), some (vI x3), some (vI x4), some (vI x5), some (vI x6), some (vI x7), none], [vI x6, vI x5], hp S, 0, 0)) rfl ?_
      refine mv_icmp 140 rfl rfl (fun c => ?_) (fun c => ?_)
      · have F := F.1 c
        exact F
      · have F := F.2 c
        refine ev_bk 2 (S' := (122, [some (.ref 367), some (vI x1), some (vI x2), some (vI x3), some (vI x4), some (vI x5), some (vI x6), some (vI x7), none], [.ref 367, .ref 367], hp S, 0, 0)) rfl ?_
        refine mv_gfR rfl rfl (sh_367) (by decide) rfl ?_
        refine ev_bk 1 (S' := (126, [some (.ref 367), some (vI x1), some (vI x2), some (vI x3), some (vI x4), some (vI x5), some (vI x6), some (vI x7), none], [vI x3, .ref 407, .ref 367], hp S, 0, 0)) rfl ?_
        obtain ⟨b1, F⟩ := F
        refine mv_ial rfl (sh_407) b1 ?_
        refine ev_bk 1 (S' := (128, [some (.ref 367), some (vI x1), some (vI x2), some (vI x3), some (vI x4), some (vI x5), some (vI x6), some (vI x7), none], [.ref 367, vI (S.1 407 (w32 x3)), .ref 367], hp S, 0, 0)) rfl ?_
        refine mv_gfR rfl rfl (sh_367) (by decide) rfl ?_
        refine ev_bk 1 (S' := (133, [some (.ref 367), some (vI x1), some (vI x2), some (vI x3), some (vI x4), some (vI x5), some (vI x6), some (vI x7), none], [vI x5, .ref 407, vI (S.1 407 (w32 x3)), .ref 367], hp S, 0, 0)) rfl ?_
        obtain ⟨b2, F⟩ := F
        refine mv_ial rfl (sh_407) b2 ?_
        obtain ⟨z5, S3, e4, F⟩ := F
        refine mv_calv (as := [vI (S.1 407 (w32 x3)), vI (S.1 407 (w32 x5))]) (rest := []) e4 (sh_367) rfl rfl rfl ⟨rfl, rfl⟩ rfl rfl rfl rfl rfl ?_
        refine mv_if 144 rfl rfl (fun c => ?_) (fun c => ?_)
        · have F := F.1 c
          exact F
        · have F := F.2 c
          exact F
theorem vc_MD_sortRotations_140 {q : Nat × (Nat → Int32)} {S S' : ms} {r : Option Value} (x1 x2 x3 x4 x5 x6 x7 : Int)
    (F : EV q 319 145 [some (.ref 367), some (vI x1), some (vI x2), some (vI x3), some (vI x4), some (vI x5), some (vI x6), some (vI x7), none] [vI 1] S r S') : EV q 319 140 [some (.ref 367), some (vI x1), some (vI x2), some (vI x3), some (vI x4), some (vI x5), some (vI x6), some (vI x7), none] [] S r S' := by
  unfold EV
  refine ev_bk 1 (S' := (141, [some (.ref 367), some (vI x1), some (vI x2), some (vI x3), some (vI x4), some (vI x5), some (vI x6), some (vI x7), none], [vI 1], hp S, 0, 0)) rfl ?_
  refine mv_goto 145 rfl rfl ?_
  exact F
theorem vc_MD_sortRotations_144 {q : Nat × (Nat → Int32)} {S S' : ms} {r : Option Value} (x1 x2 x3 x4 x5 x6 x7 : Int)
    (F : EV q 319 145 [some (.ref 367), some (vI x1), some (vI x2), some (vI x3), some (vI x4), some (vI x5), some (vI x6), some (vI x7), none] [vI 0] S r S') : EV q 319 144 [some (.ref 367), some (vI x1), some (vI x2), some (vI x3), some (vI x4), some (vI x5), some (vI x6), some (vI x7), none] [] S r S' := by
  unfold EV
  refine ev_bk 1 (S' := (145, [some (.ref 367), some (vI x1), some (vI x2), some (vI x3), some (vI x4), some (vI x5), some (vI x6), some (vI x7), none], [vI 0], hp S, 0, 0)) rfl ?_
  exact F
theorem vc_MD_sortRotations_145 {q : Nat × (Nat → Int32)} {S S' : ms} {r : Option Value} (x1 x2 x3 x4 x5 x6 x7 y0 : Int)
    (F : ((w32 y0 = 0) → (0 ≤ w32 x5 ∧ w32 x5 < (15200 : Nat)) ∧ EV q 319 174 [some (.ref 367), some (vI x1), some (vI x2), some (vI x3), some (vI x4), some (vI x5), some (vI x6), some (vI x7), some (vI y0)] [vI (S.1 407 (w32 x5)), vI x7, .ref 408] S r S') ∧ ((¬ w32 y0 = 0) → (0 ≤ w32 x3 ∧ w32 x3 < (15200 : Nat)) ∧ EV q 319 174 [some (.ref 367), some (vI x1), some (vI x2), some (vI x3), some (vI x4), some (vI x5), some (vI x6), some (vI x7), some (vI y0)] [vI (S.1 407 (w32 x3)), vI x7, .ref 408] S r S')) : EV q 319 145 [some (.ref 367), some (vI x1), some (vI x2), some (vI x3), some (vI x4), some (vI x5), some (vI x6), some (vI x7), none] [vI y0] S r S' := by
  unfold EV
  refine ev_bk 2 (S' := (148, [some (.ref 367), some (vI x1), some (vI x2), some (vI x3), some (vI x4), some (vI x5), some (vI x6), some (vI x7), some (vI y0)], [.ref 367], hp S, 0, 0)) rfl ?_
  refine mv_gfR rfl rfl (sh_367) (by decide) rfl ?_
  refine ev_bk 2 (S' := (155, [some (.ref 367), some (vI x1), some (vI x2), some (vI x3), some (vI x4), some (vI x5), some (vI x6), some (vI x7), some (vI y0)], [vI y0, vI x7, .ref 408], hp S, 0, 0)) rfl ?_
  refine mv_if 167 rfl rfl (fun c => ?_) (fun c => ?_)
  · have F := F.1 c
    refine ev_bk 1 (S' := (168, [some (.ref 367), some (vI x1), some (vI x2), some (vI x3), some (vI x4), some (vI x5), some (vI x6), some (vI x7), some (vI y0)], [.ref 367, vI x7, .ref 408], hp S, 0, 0)) rfl ?_
    refine mv_gfR rfl rfl (sh_367) (by decide) rfl ?_
    refine ev_bk 1 (S' := (173, [some (.ref 367), some (vI x1), some (vI x2), some (vI x3), some (vI x4), some (vI x5), some (vI x6), some (vI x7), some (vI y0)], [vI x5, .ref 407, vI x7, .ref 408], hp S, 0, 0)) rfl ?_
    obtain ⟨b1, F⟩ := F
    refine mv_ial rfl (sh_407) b1 ?_
    exact F
  · have F := F.2 c
    refine ev_bk 1 (S' := (159, [some (.ref 367), some (vI x1), some (vI x2), some (vI x3), some (vI x4), some (vI x5), some (vI x6), some (vI x7), some (vI y0)], [.ref 367, vI x7, .ref 408], hp S, 0, 0)) rfl ?_
    refine mv_gfR rfl rfl (sh_367) (by decide) rfl ?_
    refine ev_bk 1 (S' := (163, [some (.ref 367), some (vI x1), some (vI x2), some (vI x3), some (vI x4), some (vI x5), some (vI x6), some (vI x7), some (vI y0)], [vI x3, .ref 407, vI x7, .ref 408], hp S, 0, 0)) rfl ?_
    obtain ⟨b2, F⟩ := F
    refine mv_ial rfl (sh_407) b2 ?_
    refine mv_goto 174 rfl rfl ?_
    exact F
theorem vc_MD_sortRotations_174 {q : Nat × (Nat → Int32)} {S S' : ms} {r : Option Value} (x1 x2 x3 x4 x5 x6 x7 x8 y0 y1 : Int)
    (F : (0 ≤ w32 y1 ∧ w32 y1 < (15200 : Nat)) ∧ ∀ S2 : ms, S2 = wI S 408 (w32 y1) y0 → ((w32 x8 = 0) → EV q 319 186 [some (.ref 367), some (vI x1), some (vI x2), some (vI x3), some (vI x4), some (vI x5), some (vI x6), some (vI x7), some (vI x8)] [vI 0, vI x3] S2 r S') ∧ ((¬ w32 x8 = 0) → EV q 319 186 [some (.ref 367), some (vI x1), some (vI x2), some (vI x3), some (vI x4), some (vI x5), some (vI x6), some (vI x7), some (vI x8)] [vI 1, vI x3] S2 r S')) : EV q 319 174 [some (.ref 367), some (vI x1), some (vI x2), some (vI x3), some (vI x4), some (vI x5), some (vI x6), some (vI x7), some (vI x8)] [vI y0, vI y1, .ref 408] S r S' := by
  unfold EV
  obtain ⟨b1, F⟩ := F
  refine mv_ias rfl (sh_408) b1 ?_
  have F := F _ rfl
  refine ev_bk 2 (S' := (178, [some (.ref 367), some (vI x1), some (vI x2), some (vI x3), some (vI x4), some (vI x5), some (vI x6), some (vI x7), some (vI x8)], [vI x8, vI x3], hp (wI S 408 (w32 y1) y0), 0, 0)) rfl ?_
  refine mv_if 185 rfl rfl (fun c => ?_) (fun c => ?_)
  · have F := F.1 c
    refine ev_bk 1 (S' := (186, [some (.ref 367), some (vI x1), some (vI x2), some (vI x3), some (vI x4), some (vI x5), some (vI x6), some (vI x7), some (vI x8)], [vI 0, vI x3], hp (wI S 408 (w32 y1) y0), 0, 0)) rfl ?_
    exact F
  · have F := F.2 c
    refine ev_bk 1 (S' := (182, [some (.ref 367), some (vI x1), some (vI x2), some (vI x3), some (vI x4), some (vI x5), some (vI x6), some (vI x7), some (vI x8)], [vI 1, vI x3], hp (wI S 408 (w32 y1) y0), 0, 0)) rfl ?_
    refine mv_goto 186 rfl rfl ?_
    exact F
theorem vc_MD_sortRotations_186 {q : Nat × (Nat → Int32)} {S S' : ms} {r : Option Value} (x1 x2 x3 x4 x5 x6 x7 x8 y0 y1 : Int)
    (F : ((w32 x8 = 0) → EV q 319 200 [some (.ref 367), some (vI x1), some (vI x2), some (vI (y1 + y0)), some (vI x4), some (vI x5), some (vI x6), some (vI x7), some (vI x8)] [vI 1, vI x5] S r S') ∧ ((¬ w32 x8 = 0) → EV q 319 200 [some (.ref 367), some (vI x1), some (vI x2), some (vI (y1 + y0)), some (vI x4), some (vI x5), some (vI x6), some (vI x7), some (vI x8)] [vI 0, vI x5] S r S')) : EV q 319 186 [some (.ref 367), some (vI x1), some (vI x2), some (vI x3), some (vI x4), some (vI x5), some (vI x6), some (vI x7), some (vI x8)] [vI y0, vI y1] S r S' := by
  unfold EV
  refine mv_iadd rfl ?_
  refine ev_bk 3 (S' := (192, [some (.ref 367), some (vI x1), some (vI x2), some (vI (y1 + y0)), some (vI x4), some (vI x5), some (vI x6), some (vI x7), some (vI x8)], [vI x8, vI x5], hp S, 0, 0)) rfl ?_
  refine mv_if 199 rfl rfl (fun c => ?_) (fun c => ?_)
  · have F := F.1 c
    refine ev_bk 1 (S' := (200, [some (.ref 367), some (vI x1), some (vI x2), some (vI (y1 + y0)), some (vI x4), some (vI x5), some (vI x6), some (vI x7), some (vI x8)], [vI 1, vI x5], hp S, 0, 0)) rfl ?_
    exact F
  · have F := F.2 c
    refine ev_bk 1 (S' := (196, [some (.ref 367), some (vI x1), some (vI x2), some (vI (y1 + y0)), some (vI x4), some (vI x5), some (vI x6), some (vI x7), some (vI x8)], [vI 0, vI x5], hp S, 0, 0)) rfl ?_
    refine mv_goto 200 rfl rfl ?_
    exact F
theorem vc_MD_sortRotations_200 {q : Nat × (Nat → Int32)} {S S' : ms} {r : Option Value} (x1 x2 x3 x4 x5 x6 x7 x8 y0 y1 : Int)
    (F : EV q 319 100 [some (.ref 367), some (vI x1), some (vI x2), some (vI x3), some (vI x4), some (vI (y1 + y0)), some (vI x6), some (vI (x7 + 1)), none] [] S r S') : EV q 319 200 [some (.ref 367), some (vI x1), some (vI x2), some (vI x3), some (vI x4), some (vI x5), some (vI x6), some (vI x7), some (vI x8)] [vI y0, vI y1] S r S' := by
  unfold EV
  refine mv_iadd rfl ?_
  refine ev_bk 1 (S' := (203, [some (.ref 367), some (vI x1), some (vI x2), some (vI x3), some (vI x4), some (vI (y1 + y0)), some (vI x6), some (vI x7), some (vI x8)], [], hp S, 0, 0)) rfl ?_
  refine mv_inc (lv' := [some (.ref 367), some (vI x1), some (vI x2), some (vI x3), some (vI x4), some (vI (y1 + y0)), some (vI x6), some (vI (x7 + 1)), some (vI x8)]) 7 1 rfl rfl rfl rfl ?_
  refine mv_goto 100 rfl rfl ?_
  exact ev_wk (le_s (le_s (le_s (le_s (le_s (le_s (le_s (le_s (le_n le_0))))))))) F
theorem vc_MD_sortRotations_220 {q : Nat × (Nat → Int32)} {S S' : ms} {r : Option Value} (x1 x2 : Int)
    (F : ((w32 (S.1 367 66) ≤ w32 x2) → EV q 319 25 [some (.ref 367), some (vI (x1 * 2)), none, none, none, none, none, none, none] [] S r S') ∧ ((¬ w32 (S.1 367 66) ≤ w32 x2) → (0 ≤ w32 x2 ∧ w32 x2 < (15200 : Nat)) ∧ (0 ≤ w32 x2 ∧ w32 x2 < (15200 : Nat)) ∧ ∀ S3 : ms, S3 = wI S 407 (w32 x2) (S.1 408 (w32 x2)) → EV q 319 220 [some (.ref 367), some (vI x1), some (vI (x2 + 1)), none, none, none, none, none, none] [] S3 r S')) : EV q 319 220 [some (.ref 367), some (vI x1), some (vI x2), none, none, none, none, none, none] [] S r S' := by
  unfold EV
  refine ev_bk 2 (S' := (222, [some (.ref 367), some (vI x1), some (vI x2), none, none, none, none, none, none], [.ref 367, vI x2], hp S, 0, 0)) rfl ?_
  refine mv_gfI rfl rfl (sh_367) (by decide) rfl ?_
  refine mv_icmp 246 rfl rfl (fun c => ?_) (fun c => ?_)
  · have F := F.1 c
    refine ev_bk 2 (S' := (248, [some (.ref 367), some (vI x1), some (vI x2), none, none, none, none, none, none], [vI 2, vI x1], hp S, 0, 0)) rfl ?_
    refine mv_imul rfl ?_
    refine ev_bk 1 (S' := (250, [some (.ref 367), some (vI (x1 * 2)), some (vI x2), none, none, none, none, none, none], [], hp S, 0, 0)) rfl ?_
    refine mv_goto 25 rfl rfl ?_
    exact ev_wk (le_s (le_s (le_n (le_s (le_s (le_s (le_s (le_s (le_s le_0))))))))) F
  · have F := F.2 c
    refine ev_bk 1 (S' := (229, [some (.ref 367), some (vI x1), some (vI x2), none, none, none, none, none, none], [.ref 367], hp S, 0, 0)) rfl ?_
    refine mv_gfR rfl rfl (sh_367) (by decide) rfl ?_
    refine ev_bk 2 (S' := (234, [some (.ref 367), some (vI x1), some (vI x2), none, none, none, none, none, none], [.ref 367, vI x2, .ref 407], hp S, 0, 0)) rfl ?_
    refine mv_gfR rfl rfl (sh_367) (by decide) rfl ?_
    refine ev_bk 1 (S' := (238, [some (.ref 367), some (vI x1), some (vI x2), none, none, none, none, none, none], [vI x2, .ref 408, vI x2, .ref 407], hp S, 0, 0)) rfl ?_
    obtain ⟨b1, F⟩ := F
    refine mv_ial rfl (sh_408) b1 ?_
    obtain ⟨b2, F⟩ := F
    refine mv_ias rfl (sh_407) b2 ?_
    have F := F _ rfl
    refine mv_inc (lv' := [some (.ref 367), some (vI x1), some (vI (x2 + 1)), none, none, none, none, none, none]) 2 1 rfl rfl rfl rfl ?_
    refine mv_goto 220 rfl rfl ?_
    exact F
theorem vc_MD_rotation {q : Nat × (Nat → Int32)} {S S' : ms} {r : Option Value} (x1 x2 : Int)
    (F : EV q 320 2 [some (.ref 367), some (vI x1), some (vI x2), some (vI 0), none] [] S r S') : EV q 320 0 [some (.ref 367), some (vI x1), some (vI x2), none, none] [] S r S' := by
  unfold EV
  refine ev_bk 2 (S' := (2, [some (.ref 367), some (vI x1), some (vI x2), some (vI 0), none], [], hp S, 0, 0)) rfl ?_
  exact F
theorem vc_MD_rotation_2 {q : Nat × (Nat → Int32)} {S S' : ms} {r : Option Value} (x1 x2 x3 : Int)
    (F : ((w32 (S.1 367 66) ≤ w32 x3) → r = some (vI (x1 - x2)) ∧ S' = S) ∧ ((¬ w32 (S.1 367 66) ≤ w32 x3) → (¬ w32 (S.1 367 66) = 0) ∧ (0 ≤ w32 (Int.tmod (w32 (x1 + x3)) (w32 (S.1 367 66))) ∧ w32 (Int.tmod (w32 (x1 + x3)) (w32 (S.1 367 66))) < (15200 : Nat)) ∧ (¬ w32 (S.1 367 66) = 0) ∧ (0 ≤ w32 (Int.tmod (w32 (x2 + x3)) (w32 (S.1 367 66))) ∧ w32 (Int.tmod (w32 (x2 + x3)) (w32 (S.1 367 66))) < (15200 : Nat)) ∧ ((w32 (((S.1 406 (w32 (Int.tmod (w32 (x1 + x3)) (w32 (S.1 367 66))))) % 256) - ((S.1 406 (w32 (Int.tmod (w32 (x2 + x3)) (w32 (S.1 367 66))))) % 256)) = 0) → EV q 320 2 [some (.ref 367), some (vI x1), some (vI x2), some (vI (x3 + 1)), none] [] S r S') ∧ ((¬ w32 (((S.1 406 (w32 (Int.tmod (w32 (x1 + x3)) (w32 (S.1 367 66))))) % 256) - ((S.1 406 (w32 (Int.tmod (w32 (x2 + x3)) (w32 (S.1 367 66))))) % 256)) = 0) → r = some (vI (((S.1 406 (w32 (Int.tmod (w32 (x1 + x3)) (w32 (S.1 367 66))))) % 256) - ((S.1 406 (w32 (Int.tmod (w32 (x2 + x3)) (w32 (S.1 367 66))))) % 256))) ∧ S' = S))) : EV q 320 2 [some (.ref 367), some (vI x1), some (vI x2), some (vI x3), none] [] S r S' := by
  unfold EV
  refine ev_bk 2 (S' := (4, [some (.ref 367), some (vI x1), some (vI x2), some (vI x3), none], [.ref 367, vI x3], hp S, 0, 0)) rfl ?_
  refine mv_gfI rfl rfl (sh_367) (by decide) rfl ?_
  refine mv_icmp 61 rfl rfl (fun c => ?_) (fun c => ?_)
  · have F := F.1 c
    refine ev_bk 2 (S' := (63, [some (.ref 367), some (vI x1), some (vI x2), some (vI x3), none], [vI x2, vI x1], hp S, 0, 0)) rfl ?_
    refine mv_isub rfl ?_
    obtain ⟨rfl, rfl⟩ := F
    exact ev_ret rfl rfl
  · have F := F.2 c
    refine ev_bk 1 (S' := (11, [some (.ref 367), some (vI x1), some (vI x2), some (vI x3), none], [.ref 367], hp S, 0, 0)) rfl ?_
    refine mv_gfR rfl rfl (sh_367) (by decide) rfl ?_
    refine ev_bk 2 (S' := (16, [some (.ref 367), some (vI x1), some (vI x2), some (vI x3), none], [vI x3, vI x1, .ref 406], hp S, 0, 0)) rfl ?_
    refine mv_iadd rfl ?_
    refine ev_bk 1 (S' := (18, [some (.ref 367), some (vI x1), some (vI x2), some (vI x3), none], [.ref 367, vI (x1 + x3), .ref 406], hp S, 0, 0)) rfl ?_
    refine mv_gfI rfl rfl (sh_367) (by decide) rfl ?_
    obtain ⟨b1, F⟩ := F
    refine mv_irem b1 rfl ?_
    obtain ⟨b2, F⟩ := F
    refine mv_bal rfl (sh_406) b2 ?_
    refine ev_bk 1 (S' := (26, [some (.ref 367), some (vI x1), some (vI x2), some (vI x3), none], [vI 255, vI (S.1 406 (w32 (Int.tmod (w32 (x1 + x3)) (w32 (S.1 367 66)))))], hp S, 0, 0)) rfl ?_
    refine mv_iandm 256 8 (by decide) rfl rfl rfl ?_
    refine ev_bk 1 (S' := (28, [some (.ref 367), some (vI x1), some (vI x2), some (vI x3), none], [.ref 367, vI ((S.1 406 (w32 (Int.tmod (w32 (x1 + x3)) (w32 (S.1 367 66))))) % 256)], hp S, 0, 0)) rfl ?_
    refine mv_gfR rfl rfl (sh_367) (by decide) rfl ?_
    refine ev_bk 2 (S' := (33, [some (.ref 367), some (vI x1), some (vI x2), some (vI x3), none], [vI x3, vI x2, .ref 406, vI ((S.1 406 (w32 (Int.tmod (w32 (x1 + x3)) (w32 (S.1 367 66))))) % 256)], hp S, 0, 0)) rfl ?_
    refine mv_iadd rfl ?_
    refine ev_bk 1 (S' := (35, [some (.ref 367), some (vI x1), some (vI x2), some (vI x3), none], [.ref 367, vI (x2 + x3), .ref 406, vI ((S.1 406 (w32 (Int.tmod (w32 (x1 + x3)) (w32 (S.1 367 66))))) % 256)], hp S, 0, 0)) rfl ?_
    refine mv_gfI rfl rfl (sh_367) (by decide) rfl ?_
    obtain ⟨b3, F⟩ := F
    refine mv_irem b3 rfl ?_
    obtain ⟨b4, F⟩ := F
    refine mv_bal rfl (sh_406) b4 ?_
    refine ev_bk 1 (S' := (43, [some (.ref 367), some (vI x1), some (vI x2), some (vI x3), none], [vI 255, vI (S.1 406 (w32 (Int.tmod (w32 (x2 + x3)) (w32 (S.1 367 66))))), vI ((S.1 406 (w32 (Int.tmod (w32 (x1 + x3)) (w32 (S.1 367 66))))) % 256)], hp S, 0, 0)) rfl ?_
    refine mv_iandm 256 8 (by decide) rfl rfl rfl ?_
    refine mv_isub rfl ?_
    refine ev_bk 2 (S' := (49, [some (.ref 367), some (vI x1), some (vI x2), some (vI x3), some (vI (((S.1 406 (w32 (Int.tmod (w32 (x1 + x3)) (w32 (S.1 367 66))))) % 256) - ((S.1 406 (w32 (Int.tmod (w32 (x2 + x3)) (w32 (S.1 367 66))))) % 256)))], [vI (((S.1 406 (w32 (Int.tmod (w32 (x1 + x3)) (w32 (S.1 367 66))))) % 256) - ((S.1 406 (w32 (Int.tmod (w32 (x2 + x3)) (w32 (S.1 367 66))))) % 256))], hp S, 0, 0)) rfl ?_
    refine mv_if 55 rfl rfl (fun c => ?_) (fun c => ?_)
    · have F := F.1 c
      refine mv_inc (lv' := [some (.ref 367), some (vI x1), some (vI x2), some (vI (x3 + 1)), some (vI (((S.1 406 (w32 (Int.tmod (w32 (x1 + x3)) (w32 (S.1 367 66))))) % 256) - ((S.1 406 (w32 (Int.tmod (w32 (x2 + x3)) (w32 (S.1 367 66))))) % 256)))]) 3 1 rfl rfl rfl rfl ?_
      refine mv_goto 2 rfl rfl ?_
      exact ev_wk (le_s (le_s (le_s (le_s (le_n le_0))))) F
    · have F := F.2 c
      refine ev_bk 1 (S' := (54, [some (.ref 367), some (vI x1), some (vI x2), some (vI x3), some (vI (((S.1 406 (w32 (Int.tmod (w32 (x1 + x3)) (w32 (S.1 367 66))))) % 256) - ((S.1 406 (w32 (Int.tmod (w32 (x2 + x3)) (w32 (S.1 367 66))))) % 256)))], [vI (((S.1 406 (w32 (Int.tmod (w32 (x1 + x3)) (w32 (S.1 367 66))))) % 256) - ((S.1 406 (w32 (Int.tmod (w32 (x2 + x3)) (w32 (S.1 367 66))))) % 256))], hp S, 0, 0)) rfl ?_
      obtain ⟨rfl, rfl⟩ := F
      exact ev_ret rfl rfl
theorem vc_MD_writeSorted {q : Nat × (Nat → Int32)} {S S' : ms} {r : Option Value}
    (F : EV q 321 4 [some (.ref 367), some (vI 0), some (vI 0), none, none, none, none] [] S r S') : EV q 321 0 [some (.ref 367), none, none, none, none, none, none] [] S r S' := by
  unfold EV
  refine ev_bk 4 (S' := (4, [some (.ref 367), some (vI 0), some (vI 0), none, none, none, none], [], hp S, 0, 0)) rfl ?_
  exact F
theorem vc_MD_writeSorted_4 {q : Nat × (Nat → Int32)} {S S' : ms} {r : Option Value} (x1 x2 : Int)
    (F : ((w32 (S.1 367 66) ≤ w32 x2) → ∃ (S1 : ms), EV q 284 0 [some (.ref 367), some (vL (w32 x1)), none, some (vI 24), none] [] S none S1 ∧ EV q 321 45 [some (.ref 367), some (vI x1), some (vI 0), some (vI 0), none, none, none] [] S1 r S') ∧ ((¬ w32 (S.1 367 66) ≤ w32 x2) → (0 ≤ w32 x2 ∧ w32 x2 < (15200 : Nat)) ∧ ((¬ w32 (S.1 407 (w32 x2)) = 0) → EV q 321 26 [some (.ref 367), some (vI x1), some (vI x2), none, none, none, none] [vI x1] S r S') ∧ ((¬ (¬ w32 (S.1 407 (w32 x2)) = 0)) → EV q 321 26 [some (.ref 367), some (vI x1), some (vI x2), none, none, none, none] [vI x2] S r S'))) : EV q 321 4 [some (.ref 367), some (vI x1), some (vI x2), none, none, none, none] [] S r S' := by
  unfold EV
  refine ev_bk 2 (S' := (6, [some (.ref 367), some (vI x1), some (vI x2), none, none, none, none], [.ref 367, vI x2], hp S, 0, 0)) rfl ?_
  refine mv_gfI rfl rfl (sh_367) (by decide) rfl ?_
  refine mv_icmp 33 rfl rfl (fun c => ?_) (fun c => ?_)
  · have F := F.1 c
    refine ev_bk 2 (S' := (35, [some (.ref 367), some (vI x1), some (vI x2), none, none, none, none], [vI x1, .ref 367], hp S, 0, 0)) rfl ?_
    refine mv_i2l rfl ?_
    refine ev_bk 1 (S' := (38, [some (.ref 367), some (vI x1), some (vI x2), none, none, none, none], [vI 24, vL (w32 x1), .ref 367], hp S, 0, 0)) rfl ?_
    obtain ⟨S1, e2, F⟩ := F
    refine mv_calv (as := [vL (w32 x1), vI 24]) (rest := []) e2 (sh_367) rfl rfl rfl ⟨rfl, rfl⟩ rfl rfl rfl rfl rfl ?_
    refine ev_bk 4 (S' := (45, [some (.ref 367), some (vI x1), some (vI 0), some (vI 0), none, none, none], [], hp S1, 0, 0)) rfl ?_
    exact F
  · have F := F.2 c
    refine ev_bk 1 (S' := (13, [some (.ref 367), some (vI x1), some (vI x2), none, none, none, none], [.ref 367], hp S, 0, 0)) rfl ?_
    refine mv_gfR rfl rfl (sh_367) (by decide) rfl ?_
    refine ev_bk 1 (S' := (17, [some (.ref 367), some (vI x1), some (vI x2), none, none, none, none], [vI x2, .ref 407], hp S, 0, 0)) rfl ?_
    obtain ⟨b3, F⟩ := F
    refine mv_ial rfl (sh_407) b3 ?_
    refine mv_if 25 rfl rfl (fun c => ?_) (fun c => ?_)
    · have F := F.1 c
      refine ev_bk 1 (S' := (26, [some (.ref 367), some (vI x1), some (vI x2), none, none, none, none], [vI x1], hp S, 0, 0)) rfl ?_
      exact F
    · have F := F.2 c
      refine ev_bk 1 (S' := (22, [some (.ref 367), some (vI x1), some (vI x2), none, none, none, none], [vI x2], hp S, 0, 0)) rfl ?_
      refine mv_goto 26 rfl rfl ?_
      exact F
theorem vc_MD_writeSorted_26 {q : Nat × (Nat → Int32)} {S S' : ms} {r : Option Value} (x1 x2 y0 : Int)
    (F : EV q 321 4 [some (.ref 367), some (vI y0), some (vI (x2 + 1)), none, none, none, none] [] S r S') : EV q 321 26 [some (.ref 367), some (vI x1), some (vI x2), none, none, none, none] [vI y0] S r S' := by
  unfold EV
  refine ev_bk 1 (S' := (27, [some (.ref 367), some (vI y0), some (vI x2), none, none, none, none], [], hp S, 0, 0)) rfl ?_
  refine mv_inc (lv' := [some (.ref 367), some (vI y0), some (vI (x2 + 1)), none, none, none, none]) 2 1 rfl rfl rfl rfl ?_
  refine mv_goto 4 rfl rfl ?_
  exact F
theorem vc_MD_writeSorted_45 {q : Nat × (Nat → Int32)} {S S' : ms} {r : Option Value} (x1 x2 x3 : Int)
    (F : ((256 ≤ w32 x3) → EV q 321 124 [some (.ref 367), some (vI x1), some (vI x2), some (vI 0), none, none, none] [] S r S') ∧ ((¬ 256 ≤ w32 x3) → EV q 321 58 [some (.ref 367), some (vI x1), some (vI x2), some (vI x3), some (vI 0), some (vI 0), none] [] S r S')) : EV q 321 45 [some (.ref 367), some (vI x1), some (vI x2), some (vI x3), none, none, none] [] S r S' := by
  unfold EV
  refine ev_bk 2 (S' := (49, [some (.ref 367), some (vI x1), some (vI x2), some (vI x3), none, none, none], [vI 256, vI x3], hp S, 0, 0)) rfl ?_
  refine mv_icmp 122 rfl rfl (fun c => ?_) (fun c => ?_)
  · have F := F.1 c
    refine ev_bk 2 (S' := (124, [some (.ref 367), some (vI x1), some (vI x2), some (vI 0), none, none, none], [], hp S, 0, 0)) rfl ?_
    exact F
  · have F := F.2 c
    refine ev_bk 4 (S' := (58, [some (.ref 367), some (vI x1), some (vI x2), some (vI x3), some (vI 0), some (vI 0), none], [], hp S, 0, 0)) rfl ?_
    exact F
theorem vc_MD_writeSorted_58 {q : Nat × (Nat → Int32)} {S S' : ms} {r : Option Value} (x1 x2 x3 x4 x5 : Int)
    (F : ((w32 (S.1 367 66) ≤ w32 x5) → EV q 321 100 [some (.ref 367), some (vI x1), some (vI x2), some (vI x3), some (vI x4), some (vI x5), none] [] S r S') ∧ ((¬ w32 (S.1 367 66) ≤ w32 x5) → ((¬ w32 x4 = 0) → EV q 321 100 [some (.ref 367), some (vI x1), some (vI x2), some (vI x3), some (vI x4), some (vI x5), none] [] S r S') ∧ ((¬ (¬ w32 x4 = 0)) → (0 ≤ w32 x5 ∧ w32 x5 < (15200 : Nat)) ∧ ((¬ w32 ((S.1 406 (w32 x5)) % 256) = w32 x3) → EV q 321 92 [some (.ref 367), some (vI x1), some (vI x2), some (vI x3), some (vI x4), some (vI x5), none] [vI 0] S r S') ∧ ((¬ (¬ w32 ((S.1 406 (w32 x5)) % 256) = w32 x3)) → EV q 321 92 [some (.ref 367), some (vI x1), some (vI x2), some (vI x3), some (vI x4), some (vI x5), none] [vI 1] S r S')))) : EV q 321 58 [some (.ref 367), some (vI x1), some (vI x2), some (vI x3), some (vI x4), some (vI x5), none] [] S r S' := by
  unfold EV
  refine ev_bk 2 (S' := (61, [some (.ref 367), some (vI x1), some (vI x2), some (vI x3), some (vI x4), some (vI x5), none], [.ref 367, vI x5], hp S, 0, 0)) rfl ?_
  refine mv_gfI rfl rfl (sh_367) (by decide) rfl ?_
  refine mv_icmp 100 rfl rfl (fun c => ?_) (fun c => ?_)
  · have F := F.1 c
    exact F
  · have F := F.2 c
    refine ev_bk 1 (S' := (69, [some (.ref 367), some (vI x1), some (vI x2), some (vI x3), some (vI x4), some (vI x5), none], [vI x4], hp S, 0, 0)) rfl ?_
    refine mv_if 100 rfl rfl (fun c => ?_) (fun c => ?_)
    · have F := F.1 c
      exact F
    · have F := F.2 c
      refine ev_bk 1 (S' := (73, [some (.ref 367), some (vI x1), some (vI x2), some (vI x3), some (vI x4), some (vI x5), none], [.ref 367], hp S, 0, 0)) rfl ?_
      refine mv_gfR rfl rfl (sh_367) (by decide) rfl ?_
      refine ev_bk 1 (S' := (78, [some (.ref 367), some (vI x1), some (vI x2), some (vI x3), some (vI x4), some (vI x5), none], [vI x5, .ref 406], hp S, 0, 0)) rfl ?_
      obtain ⟨b1, F⟩ := F
      refine mv_bal rfl (sh_406) b1 ?_
      refine ev_bk 1 (S' := (82, [some (.ref 367), some (vI x1), some (vI x2), some (vI x3), some (vI x4), some (vI x5), none], [vI 255, vI (S.1 406 (w32 x5))], hp S, 0, 0)) rfl ?_
      refine mv_iandm 256 8 (by decide) rfl rfl rfl ?_
      refine ev_bk 1 (S' := (84, [some (.ref 367), some (vI x1), some (vI x2), some (vI x3), some (vI x4), some (vI x5), none], [vI x3, vI ((S.1 406 (w32 x5)) % 256)], hp S, 0, 0)) rfl ?_
      refine mv_icmp 91 rfl rfl (fun c => ?_) (fun c => ?_)
      · have F := F.1 c
        refine ev_bk 1 (S' := (92, [some (.ref 367), some (vI x1), some (vI x2), some (vI x3), some (vI x4), some (vI x5), none], [vI 0], hp S, 0, 0)) rfl ?_
        exact F
      · have F := F.2 c
        refine ev_bk 1 (S' := (88, [some (.ref 367), some (vI x1), some (vI x2), some (vI x3), some (vI x4), some (vI x5), none], [vI 1], hp S, 0, 0)) rfl ?_
        refine mv_goto 92 rfl rfl ?_
        exact F
theorem vc_MD_writeSorted_92 {q : Nat × (Nat → Int32)} {S S' : ms} {r : Option Value} (x1 x2 x3 x4 x5 y0 : Int)
    (F : EV q 321 58 [some (.ref 367), some (vI x1), some (vI x2), some (vI x3), some (vI y0), some (vI (x5 + 1)), none] [] S r S') : EV q 321 92 [some (.ref 367), some (vI x1), some (vI x2), some (vI x3), some (vI x4), some (vI x5), none] [vI y0] S r S' := by
  unfold EV
  refine ev_bk 1 (S' := (94, [some (.ref 367), some (vI x1), some (vI x2), some (vI x3), some (vI y0), some (vI x5), none], [], hp S, 0, 0)) rfl ?_
  refine mv_inc (lv' := [some (.ref 367), some (vI x1), some (vI x2), some (vI x3), some (vI y0), some (vI (x5 + 1)), none]) 5 1 rfl rfl rfl rfl ?_
  refine mv_goto 58 rfl rfl ?_
  exact F
theorem vc_MD_writeSorted_100 {q : Nat × (Nat → Int32)} {S S' : ms} {r : Option Value} (x1 x2 x3 x4 x5 : Int)
    (F : ((w32 x4 = 0) → EV q 321 116 [some (.ref 367), some (vI x1), some (vI x2), some (vI x3), some (vI x4), some (vI x5), none] [] S r S') ∧ ((¬ w32 x4 = 0) → (0 ≤ w32 x2 ∧ w32 x2 < (256 : Nat)) ∧ ∀ S2 : ms, S2 = wI S 409 (w32 x2) (b8 (b8 x3)) → EV q 321 116 [some (.ref 367), some (vI x1), some (vI (x2 + 1)), some (vI x3), some (vI x4), some (vI x5), none] [] S2 r S')) : EV q 321 100 [some (.ref 367), some (vI x1), some (vI x2), some (vI x3), some (vI x4), some (vI x5), none] [] S r S' := by
  unfold EV
  refine ev_bk 1 (S' := (102, [some (.ref 367), some (vI x1), some (vI x2), some (vI x3), some (vI x4), some (vI x5), none], [vI x4], hp S, 0, 0)) rfl ?_
  refine mv_if 116 rfl rfl (fun c => ?_) (fun c => ?_)
  · have F := F.1 c
    exact F
  · have F := F.2 c
    refine ev_bk 1 (S' := (106, [some (.ref 367), some (vI x1), some (vI x2), some (vI x3), some (vI x4), some (vI x5), none], [.ref 367], hp S, 0, 0)) rfl ?_
    refine mv_gfR rfl rfl (sh_367) (by decide) rfl ?_
    refine ev_bk 2 (S' := (111, [some (.ref 367), some (vI x1), some (vI x2), some (vI x3), some (vI x4), some (vI x5), none], [vI x3, vI x2, .ref 409], hp S, 0, 0)) rfl ?_
    refine mv_i2b rfl ?_
    obtain ⟨b1, F⟩ := F
    refine mv_bas rfl (sh_409) b1 ?_
    have F := F _ rfl
    refine mv_inc (lv' := [some (.ref 367), some (vI x1), some (vI (x2 + 1)), some (vI x3), some (vI x4), some (vI x5), none]) 2 1 rfl rfl rfl rfl ?_
    exact F
theorem vc_MD_writeSorted_116 {q : Nat × (Nat → Int32)} {S S' : ms} {r : Option Value} (x1 x2 x3 x4 x5 : Int)
    (F : EV q 321 45 [some (.ref 367), some (vI x1), some (vI x2), some (vI (x3 + 1)), none, none, none] [] S r S') : EV q 321 116 [some (.ref 367), some (vI x1), some (vI x2), some (vI x3), some (vI x4), some (vI x5), none] [] S r S' := by
  unfold EV
  refine mv_inc (lv' := [some (.ref 367), some (vI x1), some (vI x2), some (vI (x3 + 1)), some (vI x4), some (vI x5), none]) 3 1 rfl rfl rfl rfl ?_
  refine mv_goto 45 rfl rfl ?_
  exact ev_wk (le_s (le_s (le_s (le_s (le_n (le_n (le_s le_0))))))) F
theorem vc_MD_writeSorted_124 {q : Nat × (Nat → Int32)} {S S' : ms} {r : Option Value} (x1 x2 x3 : Int)
    (F : ((16 ≤ w32 x3) → EV q 321 166 [some (.ref 367), some (vI x1), some (vI x2), some (vI 0), none, none, none] [] S r S') ∧ ((¬ 16 ≤ w32 x3) → ∃ (z3 : Int) (S1 : ms), EV q 322 0 [some (.ref 367), some (vI x2), some (vI (16 * x3)), some (vI ((16 * x3) + 15)), none, none] [] S (some (vI z3)) S1 ∧ ((w32 z3 = 0) → EV q 321 155 [some (.ref 367), some (vI x1), some (vI x2), some (vI x3), none, none, none] [vI 0, .ref 367] S1 r S') ∧ ((¬ w32 z3 = 0) → EV q 321 155 [some (.ref 367), some (vI x1), some (vI x2), some (vI x3), none, none, none] [vI 1, .ref 367] S1 r S'))) : EV q 321 124 [some (.ref 367), some (vI x1), some (vI x2), some (vI x3), none, none, none] [] S r S' := by
  unfold EV
  refine ev_bk 2 (S' := (127, [some (.ref 367), some (vI x1), some (vI x2), some (vI x3), none, none, none], [vI 16, vI x3], hp S, 0, 0)) rfl ?_
  refine mv_icmp 164 rfl rfl (fun c => ?_) (fun c => ?_)
  · have F := F.1 c
    refine ev_bk 2 (S' := (166, [some (.ref 367), some (vI x1), some (vI x2), some (vI 0), none, none, none], [], hp S, 0, 0)) rfl ?_
    exact F
  · have F := F.2 c
    refine ev_bk 5 (S' := (136, [some (.ref 367), some (vI x1), some (vI x2), some (vI x3), none, none, none], [vI x3, vI 16, vI x2, .ref 367, .ref 367], hp S, 0, 0)) rfl ?_
    refine mv_imul rfl ?_
    refine ev_bk 2 (S' := (140, [some (.ref 367), some (vI x1), some (vI x2), some (vI x3), none, none, none], [vI x3, vI 16, vI (16 * x3), vI x2, .ref 367, .ref 367], hp S, 0, 0)) rfl ?_
    refine mv_imul rfl ?_
    refine ev_bk 1 (S' := (143, [some (.ref 367), some (vI x1), some (vI x2), some (vI x3), none, none, none], [vI 15, vI (16 * x3), vI (16 * x3), vI x2, .ref 367, .ref 367], hp S, 0, 0)) rfl ?_
    refine mv_iadd rfl ?_
    obtain ⟨z3, S1, e2, F⟩ := F
    refine mv_calv (as := [vI x2, vI (16 * x3), vI ((16 * x3) + 15)]) (rest := [.ref 367]) e2 (sh_367) rfl rfl rfl ⟨rfl, rfl⟩ rfl rfl rfl rfl rfl ?_
    refine mv_if 154 rfl rfl (fun c => ?_) (fun c => ?_)
    · have F := F.1 c
      refine ev_bk 1 (S' := (155, [some (.ref 367), some (vI x1), some (vI x2), some (vI x3), none, none, none], [vI 0, .ref 367], hp S1, 0, 0)) rfl ?_
      exact F
    · have F := F.2 c
      refine ev_bk 1 (S' := (151, [some (.ref 367), some (vI x1), some (vI x2), some (vI x3), none, none, none], [vI 1, .ref 367], hp S1, 0, 0)) rfl ?_
      refine mv_goto 155 rfl rfl ?_
      exact F
theorem vc_MD_writeSorted_155 {q : Nat × (Nat → Int32)} {S S' : ms} {r : Option Value} (x1 x2 x3 y0 : Int)
    (F : ∃ (S1 : ms), EV q 285 0 [some (.ref 367), some (vI y0)] [] S none S1 ∧ EV q 321 124 [some (.ref 367), some (vI x1), some (vI x2), some (vI (x3 + 1)), none, none, none] [] S1 r S') : EV q 321 155 [some (.ref 367), some (vI x1), some (vI x2), some (vI x3), none, none, none] [vI y0, .ref 367] S r S' := by
  unfold EV
  obtain ⟨S1, e2, F⟩ := F
  refine mv_calv (as := [vI y0]) (rest := []) e2 (sh_367) rfl rfl rfl ⟨rfl, rfl⟩ rfl rfl rfl rfl rfl ?_
  refine mv_inc (lv' := [some (.ref 367), some (vI x1), some (vI x2), some (vI (x3 + 1)), none, none, none]) 3 1 rfl rfl rfl rfl ?_
  refine mv_goto 124 rfl rfl ?_
  exact F
theorem vc_MD_writeSorted_166 {q : Nat × (Nat → Int32)} {S S' : ms} {r : Option Value} (x1 x2 x3 : Int)
    (F : ((16 ≤ w32 x3) → EV q 321 244 [some (.ref 367), some (vI x1), some (vI x2), some (vI 0), none, none, none] [] S r S') ∧ ((¬ 16 ≤ w32 x3) → EV q 321 178 [some (.ref 367), some (vI x1), some (vI x2), some (vI x3), some (vI (16 * x3)), none, none] [] S r S')) : EV q 321 166 [some (.ref 367), some (vI x1), some (vI x2), some (vI x3), none, none, none] [] S r S' := by
  unfold EV
  refine ev_bk 2 (S' := (169, [some (.ref 367), some (vI x1), some (vI x2), some (vI x3), none, none, none], [vI 16, vI x3], hp S, 0, 0)) rfl ?_
  refine mv_icmp 242 rfl rfl (fun c => ?_) (fun c => ?_)
  · have F := F.1 c
    refine ev_bk 2 (S' := (244, [some (.ref 367), some (vI x1), some (vI x2), some (vI 0), none, none, none], [], hp S, 0, 0)) rfl ?_
    exact F
  · have F := F.2 c
    refine ev_bk 2 (S' := (175, [some (.ref 367), some (vI x1), some (vI x2), some (vI x3), none, none, none], [vI x3, vI 16], hp S, 0, 0)) rfl ?_
    refine mv_imul rfl ?_
    refine ev_bk 1 (S' := (178, [some (.ref 367), some (vI x1), some (vI x2), some (vI x3), some (vI (16 * x3)), none, none], [], hp S, 0, 0)) rfl ?_
    exact F
theorem vc_MD_writeSorted_178 {q : Nat × (Nat → Int32)} {S S' : ms} {r : Option Value} (x1 x2 x3 x4 : Int)
    (F : ((w32 ((16 * x3) + 16) ≤ w32 x4) → EV q 321 236 [some (.ref 367), some (vI x1), some (vI x2), some (vI x3), some (vI x4), none, none] [] S r S') ∧ ((¬ w32 ((16 * x3) + 16) ≤ w32 x4) → ∃ (z3 : Int) (S1 : ms), EV q 322 0 [some (.ref 367), some (vI x2), some (vI (16 * x3)), some (vI ((16 * x3) + 15)), none, none] [] S (some (vI z3)) S1 ∧ ((w32 z3 = 0) → EV q 321 236 [some (.ref 367), some (vI x1), some (vI x2), some (vI x3), some (vI x4), none, none] [] S1 r S') ∧ ((¬ w32 z3 = 0) → ∃ (z6 : Int) (S4 : ms), EV q 322 0 [some (.ref 367), some (vI x2), some (vI x4), some (vI x4), none, none] [] S1 (some (vI z6)) S4 ∧ ((w32 z6 = 0) → EV q 321 227 [some (.ref 367), some (vI x1), some (vI x2), some (vI x3), some (vI x4), none, none] [vI 0, .ref 367] S4 r S') ∧ ((¬ w32 z6 = 0) → EV q 321 227 [some (.ref 367), some (vI x1), some (vI x2), some (vI x3), some (vI x4), none, none] [vI 1, .ref 367] S4 r S')))) : EV q 321 178 [some (.ref 367), some (vI x1), some (vI x2), some (vI x3), some (vI x4), none, none] [] S r S' := by
  unfold EV
  refine ev_bk 3 (S' := (183, [some (.ref 367), some (vI x1), some (vI x2), some (vI x3), some (vI x4), none, none], [vI x3, vI 16, vI x4], hp S, 0, 0)) rfl ?_
  refine mv_imul rfl ?_
  refine ev_bk 1 (S' := (186, [some (.ref 367), some (vI x1), some (vI x2), some (vI x3), some (vI x4), none, none], [vI 16, vI (16 * x3), vI x4], hp S, 0, 0)) rfl ?_
  refine mv_iadd rfl ?_
  refine mv_icmp 236 rfl rfl (fun c => ?_) (fun c => ?_)
  · have F := F.1 c
    exact F
  · have F := F.2 c
    refine ev_bk 4 (S' := (195, [some (.ref 367), some (vI x1), some (vI x2), some (vI x3), some (vI x4), none, none], [vI x3, vI 16, vI x2, .ref 367], hp S, 0, 0)) rfl ?_
    refine mv_imul rfl ?_
    refine ev_bk 2 (S' := (199, [some (.ref 367), some (vI x1), some (vI x2), some (vI x3), some (vI x4), none, none], [vI x3, vI 16, vI (16 * x3), vI x2, .ref 367], hp S, 0, 0)) rfl ?_
    refine mv_imul rfl ?_
    refine ev_bk 1 (S' := (202, [some (.ref 367), some (vI x1), some (vI x2), some (vI x3), some (vI x4), none, none], [vI 15, vI (16 * x3), vI (16 * x3), vI x2, .ref 367], hp S, 0, 0)) rfl ?_
    refine mv_iadd rfl ?_
    obtain ⟨z3, S1, e2, F⟩ := F
    refine mv_calv (as := [vI x2, vI (16 * x3), vI ((16 * x3) + 15)]) (rest := []) e2 (sh_367) rfl rfl rfl ⟨rfl, rfl⟩ rfl rfl rfl rfl rfl ?_
    refine mv_if 236 rfl rfl (fun c => ?_) (fun c => ?_)
    · have F := F.1 c
      exact F
    · have F := F.2 c
      refine ev_bk 5 (S' := (216, [some (.ref 367), some (vI x1), some (vI x2), some (vI x3), some (vI x4), none, none], [vI x4, vI x4, vI x2, .ref 367, .ref 367], hp S1, 0, 0)) rfl ?_
      obtain ⟨z6, S4, e5, F⟩ := F
      refine mv_calv (as := [vI x2, vI x4, vI x4]) (rest := [.ref 367]) e5 (sh_367) rfl rfl rfl ⟨rfl, rfl⟩ rfl rfl rfl rfl rfl ?_
      refine mv_if 226 rfl rfl (fun c => ?_) (fun c => ?_)
      · have F := F.1 c
        refine ev_bk 1 (S' := (227, [some (.ref 367), some (vI x1), some (vI x2), some (vI x3), some (vI x4), none, none], [vI 0, .ref 367], hp S4, 0, 0)) rfl ?_
        exact F
      · have F := F.2 c
        refine ev_bk 1 (S' := (223, [some (.ref 367), some (vI x1), some (vI x2), some (vI x3), some (vI x4), none, none], [vI 1, .ref 367], hp S4, 0, 0)) rfl ?_
        refine mv_goto 227 rfl rfl ?_
        exact F
theorem vc_MD_writeSorted_227 {q : Nat × (Nat → Int32)} {S S' : ms} {r : Option Value} (x1 x2 x3 x4 y0 : Int)
    (F : ∃ (S1 : ms), EV q 285 0 [some (.ref 367), some (vI y0)] [] S none S1 ∧ EV q 321 178 [some (.ref 367), some (vI x1), some (vI x2), some (vI x3), some (vI (x4 + 1)), none, none] [] S1 r S') : EV q 321 227 [some (.ref 367), some (vI x1), some (vI x2), some (vI x3), some (vI x4), none, none] [vI y0, .ref 367] S r S' := by
  unfold EV
  obtain ⟨S1, e2, F⟩ := F
  refine mv_calv (as := [vI y0]) (rest := []) e2 (sh_367) rfl rfl rfl ⟨rfl, rfl⟩ rfl rfl rfl rfl rfl ?_
  refine mv_inc (lv' := [some (.ref 367), some (vI x1), some (vI x2), some (vI x3), some (vI (x4 + 1)), none, none]) 4 1 rfl rfl rfl rfl ?_
  refine mv_goto 178 rfl rfl ?_
  exact F
theorem vc_MD_writeSorted_236 {q : Nat × (Nat → Int32)} {S S' : ms} {r : Option Value} (x1 x2 x3 x4 : Int)
    (F : EV q 321 166 [some (.ref 367), some (vI x1), some (vI x2), some (vI (x3 + 1)), none, none, none] [] S r S') : EV q 321 236 [some (.ref 367), some (vI x1), some (vI x2), some (vI x3), some (vI x4), none, none] [] S r S' := by
  unfold EV
  refine mv_inc (lv' := [some (.ref 367), some (vI x1), some (vI x2), some (vI (x3 + 1)), some (vI x4), none, none]) 3 1 rfl rfl rfl rfl ?_
  refine mv_goto 166 rfl rfl ?_
  exact ev_wk (le_s (le_s (le_s (le_s (le_n (le_s (le_s le_0))))))) F
theorem vc_MD_writeSorted_244 {q : Nat × (Nat → Int32)} {S S' : ms} {r : Option Value} (x1 x2 x3 : Int)
    (F : ((w32 x2 ≤ w32 x3) → ∀ S1 : ms, S1 = wI S 367 72 0 → EV q 321 277 [some (.ref 367), some (vI x1), some (vI x2), some (vI 0), some (vI 0), none, none] [] S1 r S') ∧ ((¬ w32 x2 ≤ w32 x3) → (0 ≤ w32 x3 ∧ w32 x3 < (256 : Nat)) ∧ (0 ≤ w32 x3 ∧ w32 x3 < (256 : Nat)) ∧ ∀ S4 : ms, S4 = wI S 410 (w32 x3) (b8 (S.1 409 (w32 x3))) → EV q 321 244 [some (.ref 367), some (vI x1), some (vI x2), some (vI (x3 + 1)), none, none, none] [] S4 r S')) : EV q 321 244 [some (.ref 367), some (vI x1), some (vI x2), some (vI x3), none, none, none] [] S r S' := by
  unfold EV
  refine ev_bk 2 (S' := (246, [some (.ref 367), some (vI x1), some (vI x2), some (vI x3), none, none, none], [vI x2, vI x3], hp S, 0, 0)) rfl ?_
  refine mv_icmp 267 rfl rfl (fun c => ?_) (fun c => ?_)
  · have F := F.1 c
    refine ev_bk 2 (S' := (269, [some (.ref 367), some (vI x1), some (vI x2), some (vI x3), none, none, none], [vI 0, .ref 367], hp S, 0, 0)) rfl ?_
    refine mv_pfI rfl rfl (sh_367) (by decide) rfl rfl ?_
    have F := F _ rfl
    refine ev_bk 4 (S' := (277, [some (.ref 367), some (vI x1), some (vI x2), some (vI 0), some (vI 0), none, none], [], hp (wI S 367 72 0), 0, 0)) rfl ?_
    exact F
  · have F := F.2 c
    refine ev_bk 1 (S' := (250, [some (.ref 367), some (vI x1), some (vI x2), some (vI x3), none, none, none], [.ref 367], hp S, 0, 0)) rfl ?_
    refine mv_gfR rfl rfl (sh_367) (by decide) rfl ?_
    refine ev_bk 2 (S' := (255, [some (.ref 367), some (vI x1), some (vI x2), some (vI x3), none, none, none], [.ref 367, vI x3, .ref 410], hp S, 0, 0)) rfl ?_
    refine mv_gfR rfl rfl (sh_367) (by decide) rfl ?_
    refine ev_bk 1 (S' := (259, [some (.ref 367), some (vI x1), some (vI x2), some (vI x3), none, none, none], [vI x3, .ref 409, vI x3, .ref 410], hp S, 0, 0)) rfl ?_
    obtain ⟨b2, F⟩ := F
    refine mv_bal rfl (sh_409) b2 ?_
    obtain ⟨b3, F⟩ := F
    refine mv_bas rfl (sh_410) b3 ?_
    have F := F _ rfl
    refine mv_inc (lv' := [some (.ref 367), some (vI x1), some (vI x2), some (vI (x3 + 1)), none, none, none]) 3 1 rfl rfl rfl rfl ?_
    refine mv_goto 244 rfl rfl ?_
    exact F
theorem vc_MD_writeSorted_277 {q : Nat × (Nat → Int32)} {S S' : ms} {r : Option Value} (x1 x2 x3 x4 : Int)
    (F : ((w32 (S.1 367 66) ≤ w32 x4) → ∃ (S1 : ms), EV q 323 0 [some (.ref 367), some (vI x3), none, none] [] S none S1 ∧ (0 ≤ w32 (S1.1 367 72) ∧ w32 (S1.1 367 72) < (15400 : Nat)) ∧ ∀ S4 : ms, S4 = wI S1 411 (w32 (S1.1 367 72)) (x2 + 1) → ∀ S5 : ms, S5 = wI S4 367 72 (S4.1 367 72 + 1) → ∃ (S6 : ms), EV q 325 0 [some (.ref 367), some (vI (x2 + 2)), none, none, none, none, none] [] S5 none S6 ∧ r = none ∧ S' = S6) ∧ ((¬ w32 (S.1 367 66) ≤ w32 x4) → (0 ≤ w32 x4 ∧ w32 x4 < (15200 : Nat)) ∧ (¬ w32 (S.1 367 66) = 0) ∧ (0 ≤ w32 (Int.tmod (w32 (((S.1 407 (w32 x4)) + (S.1 367 66)) - 1)) (w32 (S.1 367 66))) ∧ w32 (Int.tmod (w32 (((S.1 407 (w32 x4)) + (S.1 367 66)) - 1)) (w32 (S.1 367 66))) < (15200 : Nat)) ∧ EV q 321 315 [some (.ref 367), some (vI x1), some (vI x2), some (vI x3), some (vI x4), some (vI (S.1 406 (w32 (Int.tmod (w32 (((S.1 407 (w32 x4)) + (S.1 367 66)) - 1)) (w32 (S.1 367 66)))))), some (vI 0)] [] S r S')) : EV q 321 277 [some (.ref 367), some (vI x1), some (vI x2), some (vI x3), some (vI x4), none, none] [] S r S' := by
  unfold EV
  refine ev_bk 2 (S' := (280, [some (.ref 367), some (vI x1), some (vI x2), some (vI x3), some (vI x4), none, none], [.ref 367, vI x4], hp S, 0, 0)) rfl ?_
  refine mv_gfI rfl rfl (sh_367) (by decide) rfl ?_
  refine mv_icmp 386 rfl rfl (fun c => ?_) (fun c => ?_)
  · have F := F.1 c
    refine ev_bk 2 (S' := (388, [some (.ref 367), some (vI x1), some (vI x2), some (vI x3), some (vI x4), none, none], [vI x3, .ref 367], hp S, 0, 0)) rfl ?_
    obtain ⟨S1, e2, F⟩ := F
    refine mv_calv (as := [vI x3]) (rest := []) e2 (sh_367) rfl rfl rfl ⟨rfl, rfl⟩ rfl rfl rfl rfl rfl ?_
    refine ev_bk 1 (S' := (392, [some (.ref 367), some (vI x1), some (vI x2), some (vI x3), some (vI x4), none, none], [.ref 367], hp S1, 0, 0)) rfl ?_
    refine mv_gfR rfl rfl (sh_367) (by decide) rfl ?_
    refine ev_bk 1 (S' := (396, [some (.ref 367), some (vI x1), some (vI x2), some (vI x3), some (vI x4), none, none], [.ref 367, .ref 411], hp S1, 0, 0)) rfl ?_
    refine mv_gfI rfl rfl (sh_367) (by decide) rfl ?_
    refine ev_bk 2 (S' := (401, [some (.ref 367), some (vI x1), some (vI x2), some (vI x3), some (vI x4), none, none], [vI 1, vI x2, vI (S1.1 367 72), .ref 411], hp S1, 0, 0)) rfl ?_
    refine mv_iadd rfl ?_
    obtain ⟨b3, F⟩ := F
    refine mv_ias rfl (sh_411) b3 ?_
    have F := F _ rfl
    refine ev_bk 2 (S' := (405, [some (.ref 367), some (vI x1), some (vI x2), some (vI x3), some (vI x4), none, none], [.ref 367, .ref 367], hp (wI S1 411 (w32 (S1.1 367 72)) (x2 + 1)), 0, 0)) rfl ?_
    refine mv_gfI rfl rfl (sh_367) (by decide) rfl ?_
    refine ev_bk 1 (S' := (409, [some (.ref 367), some (vI x1), some (vI x2), some (vI x3), some (vI x4), none, none], [vI 1, vI ((wI S1 411 (w32 (S1.1 367 72)) (x2 + 1)).1 367 72), .ref 367], hp (wI S1 411 (w32 (S1.1 367 72)) (x2 + 1)), 0, 0)) rfl ?_
    refine mv_iadd rfl ?_
    refine mv_pfI rfl rfl (sh_367) (by decide) rfl rfl ?_
    have F := F _ rfl
    refine ev_bk 3 (S' := (416, [some (.ref 367), some (vI x1), some (vI x2), some (vI x3), some (vI x4), none, none], [vI 2, vI x2, .ref 367], hp (wI (wI S1 411 (w32 (S1.1 367 72)) (x2 + 1)) 367 72 ((wI S1 411 (w32 (S1.1 367 72)) (x2 + 1)).1 367 72 + 1)), 0, 0)) rfl ?_
    refine mv_iadd rfl ?_
    obtain ⟨S6, e7, F⟩ := F
    refine mv_calv (as := [vI (x2 + 2)]) (rest := []) e7 (sh_367) rfl rfl rfl ⟨rfl, rfl⟩ rfl rfl rfl rfl rfl ?_
    obtain ⟨rfl, rfl⟩ := F
    exact ev_ret rfl rfl
  · have F := F.2 c
    refine ev_bk 1 (S' := (287, [some (.ref 367), some (vI x1), some (vI x2), some (vI x3), some (vI x4), none, none], [.ref 367], hp S, 0, 0)) rfl ?_
    refine mv_gfR rfl rfl (sh_367) (by decide) rfl ?_
    refine ev_bk 1 (S' := (291, [some (.ref 367), some (vI x1), some (vI x2), some (vI x3), some (vI x4), none, none], [.ref 367, .ref 406], hp S, 0, 0)) rfl ?_
    refine mv_gfR rfl rfl (sh_367) (by decide) rfl ?_
    refine ev_bk 1 (S' := (296, [some (.ref 367), some (vI x1), some (vI x2), some (vI x3), some (vI x4), none, none], [vI x4, .ref 407, .ref 406], hp S, 0, 0)) rfl ?_
    obtain ⟨b8, F⟩ := F
    refine mv_ial rfl (sh_407) b8 ?_
    refine ev_bk 1 (S' := (298, [some (.ref 367), some (vI x1), some (vI x2), some (vI x3), some (vI x4), none, none], [.ref 367, vI (S.1 407 (w32 x4)), .ref 406], hp S, 0, 0)) rfl ?_
    refine mv_gfI rfl rfl (sh_367) (by decide) rfl ?_
    refine mv_iadd rfl ?_
    refine ev_bk 1 (S' := (303, [some (.ref 367), some (vI x1), some (vI x2), some (vI x3), some (vI x4), none, none], [vI 1, vI ((S.1 407 (w32 x4)) + (S.1 367 66)), .ref 406], hp S, 0, 0)) rfl ?_
    refine mv_isub rfl ?_
    refine ev_bk 1 (S' := (305, [some (.ref 367), some (vI x1), some (vI x2), some (vI x3), some (vI x4), none, none], [.ref 367, vI (((S.1 407 (w32 x4)) + (S.1 367 66)) - 1), .ref 406], hp S, 0, 0)) rfl ?_
    refine mv_gfI rfl rfl (sh_367) (by decide) rfl ?_
    obtain ⟨b9, F⟩ := F
    refine mv_irem b9 rfl ?_
    obtain ⟨b10, F⟩ := F
    refine mv_bal rfl (sh_406) b10 ?_
    refine ev_bk 3 (S' := (315, [some (.ref 367), some (vI x1), some (vI x2), some (vI x3), some (vI x4), some (vI (S.1 406 (w32 (Int.tmod (w32 (((S.1 407 (w32 x4)) + (S.1 367 66)) - 1)) (w32 (S.1 367 66)))))), some (vI 0)], [], hp S, 0, 0)) rfl ?_
    exact F
theorem vc_MD_writeSorted_315 {q : Nat × (Nat → Int32)} {S S' : ms} {r : Option Value} (x1 x2 x3 x4 x5 x6 : Int)
    (F : (0 ≤ w32 x6 ∧ w32 x6 < (256 : Nat)) ∧ ((w32 (S.1 410 (w32 x6)) = w32 x5) → ((¬ w32 x6 = 0) → ∃ (S2 : ms), EV q 323 0 [some (.ref 367), some (vI x3), none, none] [] S none S2 ∧ (0 ≤ w32 (S2.1 367 72) ∧ w32 (S2.1 367 72) < (15400 : Nat)) ∧ ∀ S5 : ms, S5 = wI S2 411 (w32 (S2.1 367 72)) (x6 + 1) → ∀ S6 : ms, S6 = wI S5 367 72 (S5.1 367 72 + 1) → ∃ (S7 : ms), EV q 324 0 [some (.ref 367), some (vI x6), none, none] [] S6 none S7 ∧ EV q 321 380 [some (.ref 367), some (vI x1), some (vI x2), some (vI 0), some (vI x4), some (vI x5), some (vI x6)] [] S7 r S') ∧ ((¬ (¬ w32 x6 = 0)) → EV q 321 380 [some (.ref 367), some (vI x1), some (vI x2), some (vI (x3 + 1)), some (vI x4), some (vI x5), some (vI x6)] [] S r S')) ∧ ((¬ w32 (S.1 410 (w32 x6)) = w32 x5) → EV q 321 315 [some (.ref 367), some (vI x1), some (vI x2), some (vI x3), some (vI x4), some (vI x5), some (vI (x6 + 1))] [] S r S')) : EV q 321 315 [some (.ref 367), some (vI x1), some (vI x2), some (vI x3), some (vI x4), some (vI x5), some (vI x6)] [] S r S' := by
  unfold EV
  refine ev_bk 1 (S' := (316, [some (.ref 367), some (vI x1), some (vI x2), some (vI x3), some (vI x4), some (vI x5), some (vI x6)], [.ref 367], hp S, 0, 0)) rfl ?_
  refine mv_gfR rfl rfl (sh_367) (by decide) rfl ?_
  refine ev_bk 1 (S' := (321, [some (.ref 367), some (vI x1), some (vI x2), some (vI x3), some (vI x4), some (vI x5), some (vI x6)], [vI x6, .ref 410], hp S, 0, 0)) rfl ?_
  obtain ⟨b1, F⟩ := F
  refine mv_bal rfl (sh_410) b1 ?_
  refine ev_bk 1 (S' := (324, [some (.ref 367), some (vI x1), some (vI x2), some (vI x3), some (vI x4), some (vI x5), some (vI x6)], [vI x5, vI (S.1 410 (w32 x6))], hp S, 0, 0)) rfl ?_
  refine mv_icmp 333 rfl rfl (fun c => ?_) (fun c => ?_)
  · have F := F.1 c
    refine ev_bk 1 (S' := (335, [some (.ref 367), some (vI x1), some (vI x2), some (vI x3), some (vI x4), some (vI x5), some (vI x6)], [vI x6], hp S, 0, 0)) rfl ?_
    refine mv_if 344 rfl rfl (fun c => ?_) (fun c => ?_)
    · have F := F.1 c
      refine ev_bk 2 (S' := (346, [some (.ref 367), some (vI x1), some (vI x2), some (vI x3), some (vI x4), some (vI x5), some (vI x6)], [vI x3, .ref 367], hp S, 0, 0)) rfl ?_
      obtain ⟨S2, e3, F⟩ := F
      refine mv_calv (as := [vI x3]) (rest := []) e3 (sh_367) rfl rfl rfl ⟨rfl, rfl⟩ rfl rfl rfl rfl rfl ?_
      refine ev_bk 3 (S' := (352, [some (.ref 367), some (vI x1), some (vI x2), some (vI 0), some (vI x4), some (vI x5), some (vI x6)], [.ref 367], hp S2, 0, 0)) rfl ?_
      refine mv_gfR rfl rfl (sh_367) (by decide) rfl ?_
      refine ev_bk 1 (S' := (356, [some (.ref 367), some (vI x1), some (vI x2), some (vI 0), some (vI x4), some (vI x5), some (vI x6)], [.ref 367, .ref 411], hp S2, 0, 0)) rfl ?_
      refine mv_gfI rfl rfl (sh_367) (by decide) rfl ?_
      refine ev_bk 2 (S' := (362, [some (.ref 367), some (vI x1), some (vI x2), some (vI 0), some (vI x4), some (vI x5), some (vI x6)], [vI 1, vI x6, vI (S2.1 367 72), .ref 411], hp S2, 0, 0)) rfl ?_
      refine mv_iadd rfl ?_
      obtain ⟨b4, F⟩ := F
      refine mv_ias rfl (sh_411) b4 ?_
      have F := F _ rfl
      refine ev_bk 2 (S' := (366, [some (.ref 367), some (vI x1), some (vI x2), some (vI 0), some (vI x4), some (vI x5), some (vI x6)], [.ref 367, .ref 367], hp (wI S2 411 (w32 (S2.1 367 72)) (x6 + 1)), 0, 0)) rfl ?_
      refine mv_gfI rfl rfl (sh_367) (by decide) rfl ?_
      refine ev_bk 1 (S' := (370, [some (.ref 367), some (vI x1), some (vI x2), some (vI 0), some (vI x4), some (vI x5), some (vI x6)], [vI 1, vI ((wI S2 411 (w32 (S2.1 367 72)) (x6 + 1)).1 367 72), .ref 367], hp (wI S2 411 (w32 (S2.1 367 72)) (x6 + 1)), 0, 0)) rfl ?_
      refine mv_iadd rfl ?_
      refine mv_pfI rfl rfl (sh_367) (by decide) rfl rfl ?_
      have F := F _ rfl
      refine ev_bk 2 (S' := (377, [some (.ref 367), some (vI x1), some (vI x2), some (vI 0), some (vI x4), some (vI x5), some (vI x6)], [vI x6, .ref 367], hp (wI (wI S2 411 (w32 (S2.1 367 72)) (x6 + 1)) 367 72 ((wI S2 411 (w32 (S2.1 367 72)) (x6 + 1)).1 367 72 + 1)), 0, 0)) rfl ?_
      obtain ⟨S7, e8, F⟩ := F
      refine mv_calv (as := [vI x6]) (rest := []) e8 (sh_367) rfl rfl rfl ⟨rfl, rfl⟩ rfl rfl rfl rfl rfl ?_
      exact F
    · have F := F.2 c
      refine mv_inc (lv' := [some (.ref 367), some (vI x1), some (vI x2), some (vI (x3 + 1)), some (vI x4), some (vI x5), some (vI x6)]) 3 1 rfl rfl rfl rfl ?_
      refine mv_goto 380 rfl rfl ?_
      exact F
  · have F := F.2 c
    refine mv_inc (lv' := [some (.ref 367), some (vI x1), some (vI x2), some (vI x3), some (vI x4), some (vI x5), some (vI (x6 + 1))]) 6 1 rfl rfl rfl rfl ?_
    refine mv_goto 315 rfl rfl ?_
    exact F
theorem vc_MD_writeSorted_380 {q : Nat × (Nat → Int32)} {S S' : ms} {r : Option Value} (x1 x2 x3 x4 x5 x6 : Int)
    (F : EV q 321 277 [some (.ref 367), some (vI x1), some (vI x2), some (vI x3), some (vI (x4 + 1)), none, none] [] S r S') : EV q 321 380 [some (.ref 367), some (vI x1), some (vI x2), some (vI x3), some (vI x4), some (vI x5), some (vI x6)] [] S r S' := by
  unfold EV
  refine mv_inc (lv' := [some (.ref 367), some (vI x1), some (vI x2), some (vI x3), some (vI (x4 + 1)), some (vI x5), some (vI x6)]) 4 1 rfl rfl rfl rfl ?_
  refine mv_goto 277 rfl rfl ?_
  exact ev_wk (le_s (le_s (le_s (le_s (le_s (le_n (le_n le_0))))))) F
theorem vc_MD_hasSign {q : Nat × (Nat → Int32)} {S S' : ms} {r : Option Value} (x1 x2 x3 : Int)
    (F : EV q 322 6 [some (.ref 367), some (vI x1), some (vI x2), some (vI x3), some (vI 0), some (vI 0)] [] S r S') : EV q 322 0 [some (.ref 367), some (vI x1), some (vI x2), some (vI x3), none, none] [] S r S' := by
  unfold EV
  refine ev_bk 4 (S' := (6, [some (.ref 367), some (vI x1), some (vI x2), some (vI x3), some (vI 0), some (vI 0)], [], hp S, 0, 0)) rfl ?_
  exact F
theorem vc_MD_hasSign_6 {q : Nat × (Nat → Int32)} {S S' : ms} {r : Option Value} (x1 x2 x3 x4 x5 : Int)
    (F : ((w32 x1 ≤ w32 x5) → (x4 = 0 ∨ x4 = 1) ∧ r = some (vI x4) ∧ S' = S) ∧ ((¬ w32 x1 ≤ w32 x5) → ((¬ w32 x4 = 0) → EV q 322 36 [some (.ref 367), some (vI x1), some (vI x2), some (vI x3), some (vI x4), some (vI x5)] [] S r S') ∧ ((¬ (¬ w32 x4 = 0)) → (0 ≤ w32 x5 ∧ w32 x5 < (256 : Nat)) ∧ ∃ (z5 : Int) (S3 : ms), EV q 257 0 [some (vI ((S.1 409 (w32 x5)) % 256)), some (vI x2), some (vI x3)] [] S (some (vI z5)) S3 ∧ ((w32 z5 = 0) → EV q 322 41 [some (.ref 367), some (vI x1), some (vI x2), some (vI x3), some (vI x4), some (vI x5)] [vI 0] S3 r S') ∧ ((¬ w32 z5 = 0) → EV q 322 36 [some (.ref 367), some (vI x1), some (vI x2), some (vI x3), some (vI x4), some (vI x5)] [] S3 r S')))) : EV q 322 6 [some (.ref 367), some (vI x1), some (vI x2), some (vI x3), some (vI x4), some (vI x5)] [] S r S' := by
  unfold EV
  refine ev_bk 2 (S' := (9, [some (.ref 367), some (vI x1), some (vI x2), some (vI x3), some (vI x4), some (vI x5)], [vI x1, vI x5], hp S, 0, 0)) rfl ?_
  refine mv_icmp 49 rfl rfl (fun c => ?_) (fun c => ?_)
  · have F := F.1 c
    refine ev_bk 1 (S' := (51, [some (.ref 367), some (vI x1), some (vI x2), some (vI x3), some (vI x4), some (vI x5)], [vI x4], hp S, 0, 0)) rfl ?_
    obtain ⟨b1, F⟩ := F
    obtain ⟨rfl, rfl⟩ := F
    exact mv_zret b1 rfl rfl
  · have F := F.2 c
    refine ev_bk 1 (S' := (14, [some (.ref 367), some (vI x1), some (vI x2), some (vI x3), some (vI x4), some (vI x5)], [vI x4], hp S, 0, 0)) rfl ?_
    refine mv_if 36 rfl rfl (fun c => ?_) (fun c => ?_)
    · have F := F.1 c
      exact F
    · have F := F.2 c
      refine ev_bk 1 (S' := (18, [some (.ref 367), some (vI x1), some (vI x2), some (vI x3), some (vI x4), some (vI x5)], [.ref 367], hp S, 0, 0)) rfl ?_
      refine mv_gfR rfl rfl (sh_367) (by decide) rfl ?_
      refine ev_bk 1 (S' := (23, [some (.ref 367), some (vI x1), some (vI x2), some (vI x3), some (vI x4), some (vI x5)], [vI x5, .ref 409], hp S, 0, 0)) rfl ?_
      obtain ⟨b2, F⟩ := F
      refine mv_bal rfl (sh_409) b2 ?_
      refine ev_bk 1 (S' := (27, [some (.ref 367), some (vI x1), some (vI x2), some (vI x3), some (vI x4), some (vI x5)], [vI 255, vI (S.1 409 (w32 x5))], hp S, 0, 0)) rfl ?_
      refine mv_iandm 256 8 (by decide) rfl rfl rfl ?_
      refine ev_bk 2 (S' := (30, [some (.ref 367), some (vI x1), some (vI x2), some (vI x3), some (vI x4), some (vI x5)], [vI x3, vI x2, vI ((S.1 409 (w32 x5)) % 256)], hp S, 0, 0)) rfl ?_
      obtain ⟨z5, S3, e4, F⟩ := F
      refine mv_cals (as := [vI ((S.1 409 (w32 x5)) % 256), vI x2, vI x3]) (rest := []) e4 rfl rfl rfl ⟨rfl, rfl, rfl⟩ rfl rfl rfl rfl ?_
      refine mv_if 40 rfl rfl (fun c => ?_) (fun c => ?_)
      · have F := F.1 c
        refine ev_bk 1 (S' := (41, [some (.ref 367), some (vI x1), some (vI x2), some (vI x3), some (vI x4), some (vI x5)], [vI 0], hp S3, 0, 0)) rfl ?_
        exact F
      · have F := F.2 c
        exact F
theorem vc_MD_hasSign_36 {q : Nat × (Nat → Int32)} {S S' : ms} {r : Option Value} (x1 x2 x3 x4 x5 : Int)
    (F : EV q 322 41 [some (.ref 367), some (vI x1), some (vI x2), some (vI x3), some (vI x4), some (vI x5)] [vI 1] S r S') : EV q 322 36 [some (.ref 367), some (vI x1), some (vI x2), some (vI x3), some (vI x4), some (vI x5)] [] S r S' := by
  unfold EV
  refine ev_bk 1 (S' := (37, [some (.ref 367), some (vI x1), some (vI x2), some (vI x3), some (vI x4), some (vI x5)], [vI 1], hp S, 0, 0)) rfl ?_
  refine mv_goto 41 rfl rfl ?_
  exact F
theorem vc_MD_hasSign_41 {q : Nat × (Nat → Int32)} {S S' : ms} {r : Option Value} (x1 x2 x3 x4 x5 y0 : Int)
    (F : EV q 322 6 [some (.ref 367), some (vI x1), some (vI x2), some (vI x3), some (vI y0), some (vI (x5 + 1))] [] S r S') : EV q 322 41 [some (.ref 367), some (vI x1), some (vI x2), some (vI x3), some (vI x4), some (vI x5)] [vI y0] S r S' := by
  unfold EV
  refine ev_bk 1 (S' := (43, [some (.ref 367), some (vI x1), some (vI x2), some (vI x3), some (vI y0), some (vI x5)], [], hp S, 0, 0)) rfl ?_
  refine mv_inc (lv' := [some (.ref 367), some (vI x1), some (vI x2), some (vI x3), some (vI y0), some (vI (x5 + 1))]) 5 1 rfl rfl rfl rfl ?_
  refine mv_goto 6 rfl rfl ?_
  exact F
theorem vc_MD_zeros {q : Nat × (Nat → Int32)} {S S' : ms} {r : Option Value} (x1 : Int)
    (F : EV q 323 2 [some (.ref 367), some (vI x1), some (vI x1), none] [] S r S') : EV q 323 0 [some (.ref 367), some (vI x1), none, none] [] S r S' := by
  unfold EV
  refine ev_bk 2 (S' := (2, [some (.ref 367), some (vI x1), some (vI x1), none], [], hp S, 0, 0)) rfl ?_
  exact F
theorem vc_MD_zeros_2 {q : Nat × (Nat → Int32)} {S S' : ms} {r : Option Value} (x1 x2 : Int)
    (F : ((w32 x2 ≤ 0) → r = none ∧ S' = S) ∧ ((¬ w32 x2 ≤ 0) → ((¬ w32 (Int.tmod (w32 x2) (w32 2)) = 1) → EV q 323 18 [some (.ref 367), some (vI x1), some (vI x2), none] [vI 2] S r S') ∧ ((¬ (¬ w32 (Int.tmod (w32 x2) (w32 2)) = 1)) → EV q 323 18 [some (.ref 367), some (vI x1), some (vI x2), none] [vI 1] S r S'))) : EV q 323 2 [some (.ref 367), some (vI x1), some (vI x2), none] [] S r S' := by
  unfold EV
  refine ev_bk 1 (S' := (3, [some (.ref 367), some (vI x1), some (vI x2), none], [vI x2], hp S, 0, 0)) rfl ?_
  refine mv_if 50 rfl rfl (fun c => ?_) (fun c => ?_)
  · have F := F.1 c
    obtain ⟨rfl, rfl⟩ := F
    exact ev_ret rfl rfl
  · have F := F.2 c
    refine ev_bk 2 (S' := (8, [some (.ref 367), some (vI x1), some (vI x2), none], [vI 2, vI x2], hp S, 0, 0)) rfl ?_
    refine mv_irem (by decide) rfl ?_
    refine ev_bk 1 (S' := (10, [some (.ref 367), some (vI x1), some (vI x2), none], [vI 1, vI (Int.tmod (w32 x2) (w32 2))], hp S, 0, 0)) rfl ?_
    refine mv_icmp 17 rfl rfl (fun c => ?_) (fun c => ?_)
    · have F := F.1 c
      refine ev_bk 1 (S' := (18, [some (.ref 367), some (vI x1), some (vI x2), none], [vI 2], hp S, 0, 0)) rfl ?_
      exact F
    · have F := F.2 c
      refine ev_bk 1 (S' := (14, [some (.ref 367), some (vI x1), some (vI x2), none], [vI 1], hp S, 0, 0)) rfl ?_
      refine mv_goto 18 rfl rfl ?_
      exact F
theorem vc_MD_zeros_18 {q : Nat × (Nat → Int32)} {S S' : ms} {r : Option Value} (x1 x2 y0 : Int)
    (F : (0 ≤ w32 (S.1 367 72) ∧ w32 (S.1 367 72) < (15400 : Nat)) ∧ ∀ S2 : ms, S2 = wI S 411 (w32 (S.1 367 72)) (y0 - 1) → ∀ S3 : ms, S3 = wI S2 367 72 (S2.1 367 72 + 1) → EV q 323 2 [some (.ref 367), some (vI x1), some (vI (Int.tdiv (w32 (x2 - y0)) (w32 2))), none] [] S3 r S') : EV q 323 18 [some (.ref 367), some (vI x1), some (vI x2), none] [vI y0] S r S' := by
  unfold EV
  refine ev_bk 2 (S' := (20, [some (.ref 367), some (vI x1), some (vI x2), some (vI y0)], [.ref 367], hp S, 0, 0)) rfl ?_
  refine mv_gfR rfl rfl (sh_367) (by decide) rfl ?_
  refine ev_bk 1 (S' := (24, [some (.ref 367), some (vI x1), some (vI x2), some (vI y0)], [.ref 367, .ref 411], hp S, 0, 0)) rfl ?_
  refine mv_gfI rfl rfl (sh_367) (by decide) rfl ?_
  refine ev_bk 2 (S' := (29, [some (.ref 367), some (vI x1), some (vI x2), some (vI y0)], [vI 1, vI y0, vI (S.1 367 72), .ref 411], hp S, 0, 0)) rfl ?_
  refine mv_isub rfl ?_
  obtain ⟨b1, F⟩ := F
  refine mv_ias rfl (sh_411) b1 ?_
  have F := F _ rfl
  refine ev_bk 2 (S' := (33, [some (.ref 367), some (vI x1), some (vI x2), some (vI y0)], [.ref 367, .ref 367], hp (wI S 411 (w32 (S.1 367 72)) (y0 - 1)), 0, 0)) rfl ?_
  refine mv_gfI rfl rfl (sh_367) (by decide) rfl ?_
  refine ev_bk 1 (S' := (37, [some (.ref 367), some (vI x1), some (vI x2), some (vI y0)], [vI 1, vI ((wI S 411 (w32 (S.1 367 72)) (y0 - 1)).1 367 72), .ref 367], hp (wI S 411 (w32 (S.1 367 72)) (y0 - 1)), 0, 0)) rfl ?_
  refine mv_iadd rfl ?_
  refine mv_pfI rfl rfl (sh_367) (by decide) rfl rfl ?_
  have F := F _ rfl
  refine ev_bk 2 (S' := (43, [some (.ref 367), some (vI x1), some (vI x2), some (vI y0)], [vI y0, vI x2], hp (wI (wI S 411 (w32 (S.1 367 72)) (y0 - 1)) 367 72 ((wI S 411 (w32 (S.1 367 72)) (y0 - 1)).1 367 72 + 1)), 0, 0)) rfl ?_
  refine mv_isub rfl ?_
  refine ev_bk 1 (S' := (45, [some (.ref 367), some (vI x1), some (vI x2), some (vI y0)], [vI 2, vI (x2 - y0)], hp (wI (wI S 411 (w32 (S.1 367 72)) (y0 - 1)) 367 72 ((wI S 411 (w32 (S.1 367 72)) (y0 - 1)).1 367 72 + 1)), 0, 0)) rfl ?_
  refine mv_idiv (by decide) rfl ?_
  refine ev_bk 1 (S' := (47, [some (.ref 367), some (vI x1), some (vI (Int.tdiv (w32 (x2 - y0)) (w32 2))), some (vI y0)], [], hp (wI (wI S 411 (w32 (S.1 367 72)) (y0 - 1)) 367 72 ((wI S 411 (w32 (S.1 367 72)) (y0 - 1)).1 367 72 + 1)), 0, 0)) rfl ?_
  refine mv_goto 2 rfl rfl ?_
  exact ev_wk (le_s (le_s (le_s (le_n le_0)))) F
theorem vc_MD_toFront {q : Nat × (Nat → Int32)} {S S' : ms} {r : Option Value} (x1 : Int)
    (F : (0 ≤ w32 x1 ∧ w32 x1 < (256 : Nat)) ∧ EV q 324 9 [some (.ref 367), some (vI x1), some (vI (S.1 410 (w32 x1))), some (vI x1)] [] S r S') : EV q 324 0 [some (.ref 367), some (vI x1), none, none] [] S r S' := by
  unfold EV
  refine ev_bk 1 (S' := (1, [some (.ref 367), some (vI x1), none, none], [.ref 367], hp S, 0, 0)) rfl ?_
  refine mv_gfR rfl rfl (sh_367) (by decide) rfl ?_
  refine ev_bk 1 (S' := (5, [some (.ref 367), some (vI x1), none, none], [vI x1, .ref 410], hp S, 0, 0)) rfl ?_
  obtain ⟨b1, F⟩ := F
  refine mv_bal rfl (sh_410) b1 ?_
  refine ev_bk 3 (S' := (9, [some (.ref 367), some (vI x1), some (vI (S.1 410 (w32 x1))), some (vI x1)], [], hp S, 0, 0)) rfl ?_
  exact F
theorem vc_MD_toFront_9 {q : Nat × (Nat → Int32)} {S S' : ms} {r : Option Value} (x1 x2 x3 : Int)
    (F : ((w32 x3 ≤ 0) → (0 ≤ w32 0 ∧ w32 0 < (256 : Nat)) ∧ ∀ S2 : ms, S2 = wI S 410 (w32 0) (b8 x2) → r = none ∧ S' = S2) ∧ ((¬ w32 x3 ≤ 0) → (0 ≤ w32 (x3 - 1) ∧ w32 (x3 - 1) < (256 : Nat)) ∧ (0 ≤ w32 x3 ∧ w32 x3 < (256 : Nat)) ∧ ∀ S5 : ms, S5 = wI S 410 (w32 x3) (b8 (S.1 410 (w32 (x3 - 1)))) → EV q 324 9 [some (.ref 367), some (vI x1), some (vI x2), some (vI (x3 - 1))] [] S5 r S')) : EV q 324 9 [some (.ref 367), some (vI x1), some (vI x2), some (vI x3)] [] S r S' := by
  unfold EV
  refine ev_bk 1 (S' := (10, [some (.ref 367), some (vI x1), some (vI x2), some (vI x3)], [vI x3], hp S, 0, 0)) rfl ?_
  refine mv_if 33 rfl rfl (fun c => ?_) (fun c => ?_)
  · have F := F.1 c
    refine ev_bk 1 (S' := (34, [some (.ref 367), some (vI x1), some (vI x2), some (vI x3)], [.ref 367], hp S, 0, 0)) rfl ?_
    refine mv_gfR rfl rfl (sh_367) (by decide) rfl ?_
    refine ev_bk 2 (S' := (39, [some (.ref 367), some (vI x1), some (vI x2), some (vI x3)], [vI x2, vI 0, .ref 410], hp S, 0, 0)) rfl ?_
    obtain ⟨b1, F⟩ := F
    refine mv_bas rfl (sh_410) b1 ?_
    have F := F _ rfl
    obtain ⟨rfl, rfl⟩ := F
    exact ev_ret rfl rfl
  · have F := F.2 c
    refine ev_bk 1 (S' := (14, [some (.ref 367), some (vI x1), some (vI x2), some (vI x3)], [.ref 367], hp S, 0, 0)) rfl ?_
    refine mv_gfR rfl rfl (sh_367) (by decide) rfl ?_
    refine ev_bk 2 (S' := (19, [some (.ref 367), some (vI x1), some (vI x2), some (vI x3)], [.ref 367, vI x3, .ref 410], hp S, 0, 0)) rfl ?_
    refine mv_gfR rfl rfl (sh_367) (by decide) rfl ?_
    refine ev_bk 2 (S' := (24, [some (.ref 367), some (vI x1), some (vI x2), some (vI x3)], [vI 1, vI x3, .ref 410, vI x3, .ref 410], hp S, 0, 0)) rfl ?_
    refine mv_isub rfl ?_
    obtain ⟨b3, F⟩ := F
    refine mv_bal rfl (sh_410) b3 ?_
    obtain ⟨b4, F⟩ := F
    refine mv_bas rfl (sh_410) b4 ?_
    have F := F _ rfl
    refine mv_inc (lv' := [some (.ref 367), some (vI x1), some (vI x2), some (vI (x3 - 1))]) 3 (-1) rfl rfl rfl (by omega) ?_
    refine mv_goto 9 rfl rfl ?_
    exact F
theorem vc_MD_writeSymbols {q : Nat × (Nat → Int32)} {S S' : ms} {r : Option Value} (x1 : Int)
    (F : EV q 325 2 [some (.ref 367), some (vI x1), some (vI 0), none, none, none, none] [] S r S') : EV q 325 0 [some (.ref 367), some (vI x1), none, none, none, none, none] [] S r S' := by
  unfold EV
  refine ev_bk 2 (S' := (2, [some (.ref 367), some (vI x1), some (vI 0), none, none, none, none], [], hp S, 0, 0)) rfl ?_
  exact F
theorem vc_MD_writeSymbols_2 {q : Nat × (Nat → Int32)} {S S' : ms} {r : Option Value} (x1 x2 : Int)
    (F : ((w32 x1 ≤ w32 x2) → EV q 325 22 [some (.ref 367), some (vI x1), some (vI 0), none, none, none, none] [] S r S') ∧ ((¬ w32 x1 ≤ w32 x2) → (0 ≤ w32 x2 ∧ w32 x2 < (258 : Nat)) ∧ ∀ S2 : ms, S2 = wI S 412 (w32 x2) 0 → EV q 325 2 [some (.ref 367), some (vI x1), some (vI (x2 + 1)), none, none, none, none] [] S2 r S')) : EV q 325 2 [some (.ref 367), some (vI x1), some (vI x2), none, none, none, none] [] S r S' := by
  unfold EV
  refine ev_bk 2 (S' := (4, [some (.ref 367), some (vI x1), some (vI x2), none, none, none, none], [vI x1, vI x2], hp S, 0, 0)) rfl ?_
  refine mv_icmp 20 rfl rfl (fun c => ?_) (fun c => ?_)
  · have F := F.1 c
    refine ev_bk 2 (S' := (22, [some (.ref 367), some (vI x1), some (vI 0), none, none, none, none], [], hp S, 0, 0)) rfl ?_
    exact F
  · have F := F.2 c
    refine ev_bk 1 (S' := (8, [some (.ref 367), some (vI x1), some (vI x2), none, none, none, none], [.ref 367], hp S, 0, 0)) rfl ?_
    refine mv_gfR rfl rfl (sh_367) (by decide) rfl ?_
    refine ev_bk 2 (S' := (13, [some (.ref 367), some (vI x1), some (vI x2), none, none, none, none], [vI 0, vI x2, .ref 412], hp S, 0, 0)) rfl ?_
    obtain ⟨b1, F⟩ := F
    refine mv_ias rfl (sh_412) b1 ?_
    have F := F _ rfl
    refine mv_inc (lv' := [some (.ref 367), some (vI x1), some (vI (x2 + 1)), none, none, none, none]) 2 1 rfl rfl rfl rfl ?_
    refine mv_goto 2 rfl rfl ?_
    exact F
theorem vc_MD_writeSymbols_22 {q : Nat × (Nat → Int32)} {S S' : ms} {r : Option Value} (x1 x2 : Int)
    (F : ((w32 (S.1 367 72) ≤ w32 x2) → EV q 325 53 [some (.ref 367), some (vI x1), some (vI 0), none, none, none, none] [] S r S') ∧ ((¬ w32 (S.1 367 72) ≤ w32 x2) → (0 ≤ w32 x2 ∧ w32 x2 < (15400 : Nat)) ∧ (0 ≤ w32 (S.1 411 (w32 x2)) ∧ w32 (S.1 411 (w32 x2)) < (258 : Nat)) ∧ (0 ≤ w32 (S.1 411 (w32 x2)) ∧ w32 (S.1 411 (w32 x2)) < (258 : Nat)) ∧ ∀ S4 : ms, S4 = wI S 412 (w32 (S.1 411 (w32 x2))) ((S.1 412 (w32 (S.1 411 (w32 x2)))) + 1) → EV q 325 22 [some (.ref 367), some (vI x1), some (vI (x2 + 1)), none, none, none, none] [] S4 r S')) : EV q 325 22 [some (.ref 367), some (vI x1), some (vI x2), none, none, none, none] [] S r S' := by
  unfold EV
  refine ev_bk 2 (S' := (24, [some (.ref 367), some (vI x1), some (vI x2), none, none, none, none], [.ref 367, vI x2], hp S, 0, 0)) rfl ?_
  refine mv_gfI rfl rfl (sh_367) (by decide) rfl ?_
  refine mv_icmp 51 rfl rfl (fun c => ?_) (fun c => ?_)
  · have F := F.1 c
    refine ev_bk 2 (S' := (53, [some (.ref 367), some (vI x1), some (vI 0), none, none, none, none], [], hp S, 0, 0)) rfl ?_
    exact F
  · have F := F.2 c
    refine ev_bk 1 (S' := (31, [some (.ref 367), some (vI x1), some (vI x2), none, none, none, none], [.ref 367], hp S, 0, 0)) rfl ?_
    refine mv_gfR rfl rfl (sh_367) (by decide) rfl ?_
    refine ev_bk 1 (S' := (35, [some (.ref 367), some (vI x1), some (vI x2), none, none, none, none], [.ref 367, .ref 412], hp S, 0, 0)) rfl ?_
    refine mv_gfR rfl rfl (sh_367) (by decide) rfl ?_
    refine ev_bk 1 (S' := (39, [some (.ref 367), some (vI x1), some (vI x2), none, none, none, none], [vI x2, .ref 411, .ref 412], hp S, 0, 0)) rfl ?_
    obtain ⟨b1, F⟩ := F
    refine mv_ial rfl (sh_411) b1 ?_
    refine ev_bk 1 (S' := (41, [some (.ref 367), some (vI x1), some (vI x2), none, none, none, none], [vI (S.1 411 (w32 x2)), .ref 412, vI (S.1 411 (w32 x2)), .ref 412], hp S, 0, 0)) rfl ?_
    obtain ⟨b2, F⟩ := F
    refine mv_ial rfl (sh_412) b2 ?_
    refine ev_bk 1 (S' := (43, [some (.ref 367), some (vI x1), some (vI x2), none, none, none, none], [vI 1, vI (S.1 412 (w32 (S.1 411 (w32 x2)))), vI (S.1 411 (w32 x2)), .ref 412], hp S, 0, 0)) rfl ?_
    refine mv_iadd rfl ?_
    obtain ⟨b3, F⟩ := F
    refine mv_ias rfl (sh_412) b3 ?_
    have F := F _ rfl
    refine mv_inc (lv' := [some (.ref 367), some (vI x1), some (vI (x2 + 1)), none, none, none, none]) 2 1 rfl rfl rfl rfl ?_
    refine mv_goto 22 rfl rfl ?_
    exact F
theorem vc_MD_writeSymbols_53 {q : Nat × (Nat → Int32)} {S S' : ms} {r : Option Value} (x1 x2 : Int)
    (F : ((w32 x1 ≤ w32 x2) → ∃ (S1 : ms), EV q 299 0 [some (.ref 367), some (.ref 412), some (vI x1), some (vI 17), some (.ref 413), some (vI 0), none, none, none, none, none, none] [] S none S1 ∧ ∃ (z5 : Int) (S3 : ms), EV q 301 0 [some (.ref 413), some (vI 0), some (vI x1), some (.ref 414), none, none, none, none] [] S1 (some (vI z5)) S3 ∧ ∃ (S6 : ms), EV q 284 0 [some (.ref 367), some (vL 2), none, some (vI 3), none] [] S3 none S6 ∧ ∃ (S8 : ms), EV q 284 0 [some (.ref 367), some (vL (w32 (Int.tdiv (w32 (S3.1 367 72 + 49)) (w32 50)))), none, some (vI 15), none] [] S6 none S8 ∧ EV q 325 149 [some (.ref 367), some (vI x1), some (vI z5), some (vI (Int.tdiv (w32 (S3.1 367 72 + 49)) (w32 50))), some (vI 0), none, none] [] S8 r S') ∧ ((¬ w32 x1 ≤ w32 x2) → (0 ≤ w32 x2 ∧ w32 x2 < (258 : Nat)) ∧ ((¬ w32 (S.1 412 (w32 x2)) = 0) → (0 ≤ w32 x2 ∧ w32 x2 < (258 : Nat)) ∧ EV q 325 82 [some (.ref 367), some (vI x1), some (vI x2), none, none, none, none] [vI (S.1 412 (w32 x2)), vI x2, .ref 412] S r S') ∧ ((¬ (¬ w32 (S.1 412 (w32 x2)) = 0)) → EV q 325 82 [some (.ref 367), some (vI x1), some (vI x2), none, none, none, none] [vI 1, vI x2, .ref 412] S r S'))) : EV q 325 53 [some (.ref 367), some (vI x1), some (vI x2), none, none, none, none] [] S r S' := by
  unfold EV
  refine ev_bk 2 (S' := (55, [some (.ref 367), some (vI x1), some (vI x2), none, none, none, none], [vI x1, vI x2], hp S, 0, 0)) rfl ?_
  refine mv_icmp 89 rfl rfl (fun c => ?_) (fun c => ?_)
  · have F := F.1 c
    refine ev_bk 2 (S' := (91, [some (.ref 367), some (vI x1), some (vI x2), none, none, none, none], [.ref 367, .ref 367], hp S, 0, 0)) rfl ?_
    refine mv_gfR rfl rfl (sh_367) (by decide) rfl ?_
    refine ev_bk 3 (S' := (98, [some (.ref 367), some (vI x1), some (vI x2), none, none, none, none], [.ref 367, vI 17, vI x1, .ref 412, .ref 367], hp S, 0, 0)) rfl ?_
    refine mv_gfR rfl rfl (sh_367) (by decide) rfl ?_
    refine ev_bk 1 (S' := (102, [some (.ref 367), some (vI x1), some (vI x2), none, none, none, none], [vI 0, .ref 413, vI 17, vI x1, .ref 412, .ref 367], hp S, 0, 0)) rfl ?_
    obtain ⟨S1, e2, F⟩ := F
    refine mv_calv (as := [.ref 412, vI x1, vI 17, .ref 413, vI 0]) (rest := []) e2 (sh_367) rfl rfl rfl ⟨rfl, rfl⟩ rfl rfl rfl rfl rfl ?_
    refine ev_bk 1 (S' := (106, [some (.ref 367), some (vI x1), some (vI x2), none, none, none, none], [.ref 367], hp S1, 0, 0)) rfl ?_
    refine mv_gfR rfl rfl (sh_367) (by decide) rfl ?_
    refine ev_bk 3 (S' := (112, [some (.ref 367), some (vI x1), some (vI x2), none, none, none, none], [.ref 367, vI x1, vI 0, .ref 413], hp S1, 0, 0)) rfl ?_
    refine mv_gfR rfl rfl (sh_367) (by decide) rfl ?_
    obtain ⟨z5, S3, e4, F⟩ := F
    refine mv_cals (as := [.ref 413, vI 0, vI x1, .ref 414]) (rest := []) e4 rfl rfl rfl ⟨rfl, rfl, rfl⟩ rfl rfl rfl rfl ?_
    refine ev_bk 2 (S' := (120, [some (.ref 367), some (vI x1), some (vI z5), none, none, none, none], [.ref 367], hp S3, 0, 0)) rfl ?_
    refine mv_gfI rfl rfl (sh_367) (by decide) rfl ?_
    refine ev_bk 1 (S' := (125, [some (.ref 367), some (vI x1), some (vI z5), none, none, none, none], [vI 49, vI (S3.1 367 72)], hp S3, 0, 0)) rfl ?_
    refine mv_iadd rfl ?_
    refine ev_bk 1 (S' := (128, [some (.ref 367), some (vI x1), some (vI z5), none, none, none, none], [vI 50, vI (S3.1 367 72 + 49)], hp S3, 0, 0)) rfl ?_
    refine mv_idiv (by decide) rfl ?_
    refine ev_bk 4 (S' := (135, [some (.ref 367), some (vI x1), some (vI z5), some (vI (Int.tdiv (w32 (S3.1 367 72 + 49)) (w32 50))), none, none, none], [vI 3, vL 2, .ref 367], hp S3, 0, 0)) rfl ?_
    obtain ⟨S6, e7, F⟩ := F
    refine mv_calv (as := [vL 2, vI 3]) (rest := []) e7 (sh_367) rfl rfl rfl ⟨rfl, rfl⟩ rfl rfl rfl rfl rfl ?_
    refine ev_bk 2 (S' := (140, [some (.ref 367), some (vI x1), some (vI z5), some (vI (Int.tdiv (w32 (S3.1 367 72 + 49)) (w32 50))), none, none, none], [vI (Int.tdiv (w32 (S3.1 367 72 + 49)) (w32 50)), .ref 367], hp S6, 0, 0)) rfl ?_
    refine mv_i2l rfl ?_
    refine ev_bk 1 (S' := (143, [some (.ref 367), some (vI x1), some (vI z5), some (vI (Int.tdiv (w32 (S3.1 367 72 + 49)) (w32 50))), none, none, none], [vI 15, vL (w32 (Int.tdiv (w32 (S3.1 367 72 + 49)) (w32 50))), .ref 367], hp S6, 0, 0)) rfl ?_
    obtain ⟨S8, e9, F⟩ := F
    refine mv_calv (as := [vL (w32 (Int.tdiv (w32 (S3.1 367 72 + 49)) (w32 50))), vI 15]) (rest := []) e9 (sh_367) rfl rfl rfl ⟨rfl, rfl⟩ rfl rfl rfl rfl rfl ?_
    refine ev_bk 2 (S' := (149, [some (.ref 367), some (vI x1), some (vI z5), some (vI (Int.tdiv (w32 (S3.1 367 72 + 49)) (w32 50))), some (vI 0), none, none], [], hp S8, 0, 0)) rfl ?_
    exact F
  · have F := F.2 c
    refine ev_bk 1 (S' := (59, [some (.ref 367), some (vI x1), some (vI x2), none, none, none, none], [.ref 367], hp S, 0, 0)) rfl ?_
    refine mv_gfR rfl rfl (sh_367) (by decide) rfl ?_
    refine ev_bk 2 (S' := (64, [some (.ref 367), some (vI x1), some (vI x2), none, none, none, none], [.ref 367, vI x2, .ref 412], hp S, 0, 0)) rfl ?_
    refine mv_gfR rfl rfl (sh_367) (by decide) rfl ?_
    refine ev_bk 1 (S' := (68, [some (.ref 367), some (vI x1), some (vI x2), none, none, none, none], [vI x2, .ref 412, vI x2, .ref 412], hp S, 0, 0)) rfl ?_
    obtain ⟨b10, F⟩ := F
    refine mv_ial rfl (sh_412) b10 ?_
    refine mv_if 76 rfl rfl (fun c => ?_) (fun c => ?_)
    · have F := F.1 c
      refine ev_bk 1 (S' := (77, [some (.ref 367), some (vI x1), some (vI x2), none, none, none, none], [.ref 367, vI x2, .ref 412], hp S, 0, 0)) rfl ?_
      refine mv_gfR rfl rfl (sh_367) (by decide) rfl ?_
      refine ev_bk 1 (S' := (81, [some (.ref 367), some (vI x1), some (vI x2), none, none, none, none], [vI x2, .ref 412, vI x2, .ref 412], hp S, 0, 0)) rfl ?_
      obtain ⟨b11, F⟩ := F
      refine mv_ial rfl (sh_412) b11 ?_
      exact F
    · have F := F.2 c
      refine ev_bk 1 (S' := (73, [some (.ref 367), some (vI x1), some (vI x2), none, none, none, none], [vI 1, vI x2, .ref 412], hp S, 0, 0)) rfl ?_
      refine mv_goto 82 rfl rfl ?_
      exact F
theorem vc_MD_writeSymbols_82 {q : Nat × (Nat → Int32)} {S S' : ms} {r : Option Value} (x1 x2 y0 y1 : Int)
    (F : (0 ≤ w32 y1 ∧ w32 y1 < (258 : Nat)) ∧ ∀ S2 : ms, S2 = wI S 412 (w32 y1) y0 → EV q 325 53 [some (.ref 367), some (vI x1), some (vI (x2 + 1)), none, none, none, none] [] S2 r S') : EV q 325 82 [some (.ref 367), some (vI x1), some (vI x2), none, none, none, none] [vI y0, vI y1, .ref 412] S r S' := by
  unfold EV
  obtain ⟨b1, F⟩ := F
  refine mv_ias rfl (sh_412) b1 ?_
  have F := F _ rfl
  refine mv_inc (lv' := [some (.ref 367), some (vI x1), some (vI (x2 + 1)), none, none, none, none]) 2 1 rfl rfl rfl rfl ?_
  refine mv_goto 53 rfl rfl ?_
  exact F
theorem vc_MD_writeSymbols_149 {q : Nat × (Nat → Int32)} {S S' : ms} {r : Option Value} (x1 x2 x3 x4 : Int)
    (F : ((w32 x3 ≤ w32 x4) → EV q 325 179 [some (.ref 367), some (vI x1), some (vI x2), some (vI x3), some (vI 0), none, none] [] S r S') ∧ ((¬ w32 x3 ≤ w32 x4) → ((w32 x4 ≤ 0) → EV q 325 165 [some (.ref 367), some (vI x1), some (vI x2), some (vI x3), some (vI x4), none, none] [] S r S') ∧ ((¬ w32 x4 ≤ 0) → ∃ (S1 : ms), EV q 285 0 [some (.ref 367), some (vI 1)] [] S none S1 ∧ EV q 325 165 [some (.ref 367), some (vI x1), some (vI x2), some (vI x3), some (vI x4), none, none] [] S1 r S'))) : EV q 325 149 [some (.ref 367), some (vI x1), some (vI x2), some (vI x3), some (vI x4), none, none] [] S r S' := by
  unfold EV
  refine ev_bk 2 (S' := (152, [some (.ref 367), some (vI x1), some (vI x2), some (vI x3), some (vI x4), none, none], [vI x3, vI x4], hp S, 0, 0)) rfl ?_
  refine mv_icmp 176 rfl rfl (fun c => ?_) (fun c => ?_)
  · have F := F.1 c
    refine ev_bk 2 (S' := (179, [some (.ref 367), some (vI x1), some (vI x2), some (vI x3), some (vI 0), none, none], [], hp S, 0, 0)) rfl ?_
    exact F
  · have F := F.2 c
    refine ev_bk 1 (S' := (157, [some (.ref 367), some (vI x1), some (vI x2), some (vI x3), some (vI x4), none, none], [vI x4], hp S, 0, 0)) rfl ?_
    refine mv_if 165 rfl rfl (fun c => ?_) (fun c => ?_)
    · have F := F.1 c
      exact F
    · have F := F.2 c
      refine ev_bk 2 (S' := (162, [some (.ref 367), some (vI x1), some (vI x2), some (vI x3), some (vI x4), none, none], [vI 1, .ref 367], hp S, 0, 0)) rfl ?_
      obtain ⟨S1, e2, F⟩ := F
      refine mv_calv (as := [vI 1]) (rest := []) e2 (sh_367) rfl rfl rfl ⟨rfl, rfl⟩ rfl rfl rfl rfl rfl ?_
      exact F
theorem vc_MD_writeSymbols_165 {q : Nat × (Nat → Int32)} {S S' : ms} {r : Option Value} (x1 x2 x3 x4 : Int)
    (F : ∃ (S1 : ms), EV q 285 0 [some (.ref 367), some (vI 0)] [] S none S1 ∧ EV q 325 149 [some (.ref 367), some (vI x1), some (vI x2), some (vI x3), some (vI (x4 + 1)), none, none] [] S1 r S') : EV q 325 165 [some (.ref 367), some (vI x1), some (vI x2), some (vI x3), some (vI x4), none, none] [] S r S' := by
  unfold EV
  refine ev_bk 2 (S' := (167, [some (.ref 367), some (vI x1), some (vI x2), some (vI x3), some (vI x4), none, none], [vI 0, .ref 367], hp S, 0, 0)) rfl ?_
  obtain ⟨S1, e2, F⟩ := F
  refine mv_calv (as := [vI 0]) (rest := []) e2 (sh_367) rfl rfl rfl ⟨rfl, rfl⟩ rfl rfl rfl rfl rfl ?_
  refine mv_inc (lv' := [some (.ref 367), some (vI x1), some (vI x2), some (vI x3), some (vI (x4 + 1)), none, none]) 4 1 rfl rfl rfl rfl ?_
  refine mv_goto 149 rfl rfl ?_
  exact F
theorem vc_MD_writeSymbols_179 {q : Nat × (Nat → Int32)} {S S' : ms} {r : Option Value} (x1 x2 x3 x4 : Int)
    (F : ((2 ≤ w32 x4) → EV q 325 282 [some (.ref 367), some (vI x1), some (vI x2), some (vI x3), some (vI 0), none, none] [] S r S') ∧ ((¬ 2 ≤ w32 x4) → (0 ≤ w32 0 ∧ w32 0 < (1560 : Nat)) ∧ ∃ (S2 : ms), EV q 284 0 [some (.ref 367), some (vL (w32 (S.1 413 (w32 0)))), none, some (vI 5), none] [] S none S2 ∧ EV q 325 204 [some (.ref 367), some (vI x1), some (vI x2), some (vI x3), some (vI x4), some (vI (S.1 413 (w32 0))), some (vI 0)] [] S2 r S')) : EV q 325 179 [some (.ref 367), some (vI x1), some (vI x2), some (vI x3), some (vI x4), none, none] [] S r S' := by
  unfold EV
  refine ev_bk 2 (S' := (182, [some (.ref 367), some (vI x1), some (vI x2), some (vI x3), some (vI x4), none, none], [vI 2, vI x4], hp S, 0, 0)) rfl ?_
  refine mv_icmp 279 rfl rfl (fun c => ?_) (fun c => ?_)
  · have F := F.1 c
    refine ev_bk 2 (S' := (282, [some (.ref 367), some (vI x1), some (vI x2), some (vI x3), some (vI 0), none, none], [], hp S, 0, 0)) rfl ?_
    exact F
  · have F := F.2 c
    refine ev_bk 1 (S' := (186, [some (.ref 367), some (vI x1), some (vI x2), some (vI x3), some (vI x4), none, none], [.ref 367], hp S, 0, 0)) rfl ?_
    refine mv_gfR rfl rfl (sh_367) (by decide) rfl ?_
    refine ev_bk 1 (S' := (190, [some (.ref 367), some (vI x1), some (vI x2), some (vI x3), some (vI x4), none, none], [vI 0, .ref 413], hp S, 0, 0)) rfl ?_
    obtain ⟨b1, F⟩ := F
    refine mv_ial rfl (sh_413) b1 ?_
    refine ev_bk 3 (S' := (196, [some (.ref 367), some (vI x1), some (vI x2), some (vI x3), some (vI x4), some (vI (S.1 413 (w32 0))), none], [vI (S.1 413 (w32 0)), .ref 367], hp S, 0, 0)) rfl ?_
    refine mv_i2l rfl ?_
    refine ev_bk 1 (S' := (198, [some (.ref 367), some (vI x1), some (vI x2), some (vI x3), some (vI x4), some (vI (S.1 413 (w32 0))), none], [vI 5, vL (w32 (S.1 413 (w32 0))), .ref 367], hp S, 0, 0)) rfl ?_
    obtain ⟨S2, e3, F⟩ := F
    refine mv_calv (as := [vL (w32 (S.1 413 (w32 0))), vI 5]) (rest := []) e3 (sh_367) rfl rfl rfl ⟨rfl, rfl⟩ rfl rfl rfl rfl rfl ?_
    refine ev_bk 2 (S' := (204, [some (.ref 367), some (vI x1), some (vI x2), some (vI x3), some (vI x4), some (vI (S.1 413 (w32 0))), some (vI 0)], [], hp S2, 0, 0)) rfl ?_
    exact F
theorem vc_MD_writeSymbols_204 {q : Nat × (Nat → Int32)} {S S' : ms} {r : Option Value} (x1 x2 x3 x4 x5 x6 : Int)
    (F : ((w32 x1 ≤ w32 x6) → EV q 325 179 [some (.ref 367), some (vI x1), some (vI x2), some (vI x3), some (vI (x4 + 1)), none, none] [] S r S') ∧ ((¬ w32 x1 ≤ w32 x6) → EV q 325 210 [some (.ref 367), some (vI x1), some (vI x2), some (vI x3), some (vI x4), some (vI x5), some (vI x6)] [] S r S')) : EV q 325 204 [some (.ref 367), some (vI x1), some (vI x2), some (vI x3), some (vI x4), some (vI x5), some (vI x6)] [] S r S' := by
  unfold EV
  refine ev_bk 2 (S' := (207, [some (.ref 367), some (vI x1), some (vI x2), some (vI x3), some (vI x4), some (vI x5), some (vI x6)], [vI x1, vI x6], hp S, 0, 0)) rfl ?_
  refine mv_icmp 273 rfl rfl (fun c => ?_) (fun c => ?_)
  · have F := F.1 c
    refine mv_inc (lv' := [some (.ref 367), some (vI x1), some (vI x2), some (vI x3), some (vI (x4 + 1)), some (vI x5), some (vI x6)]) 4 1 rfl rfl rfl rfl ?_
    refine mv_goto 179 rfl rfl ?_
    exact ev_wk (le_s (le_s (le_s (le_s (le_s (le_n (le_n le_0))))))) F
  · have F := F.2 c
    exact F
theorem vc_MD_writeSymbols_210 {q : Nat × (Nat → Int32)} {S S' : ms} {r : Option Value} (x1 x2 x3 x4 x5 x6 : Int)
    (F : (0 ≤ w32 x6 ∧ w32 x6 < (1560 : Nat)) ∧ ((w32 (S.1 413 (w32 x6)) ≤ w32 x5) → EV q 325 236 [some (.ref 367), some (vI x1), some (vI x2), some (vI x3), some (vI x4), some (vI x5), some (vI x6)] [] S r S') ∧ ((¬ w32 (S.1 413 (w32 x6)) ≤ w32 x5) → ∃ (S2 : ms), EV q 284 0 [some (.ref 367), some (vL 2), none, some (vI 2), none] [] S none S2 ∧ EV q 325 210 [some (.ref 367), some (vI x1), some (vI x2), some (vI x3), some (vI x4), some (vI (x5 + 1)), some (vI x6)] [] S2 r S')) : EV q 325 210 [some (.ref 367), some (vI x1), some (vI x2), some (vI x3), some (vI x4), some (vI x5), some (vI x6)] [] S r S' := by
  unfold EV
  refine ev_bk 2 (S' := (213, [some (.ref 367), some (vI x1), some (vI x2), some (vI x3), some (vI x4), some (vI x5), some (vI x6)], [.ref 367, vI x5], hp S, 0, 0)) rfl ?_
  refine mv_gfR rfl rfl (sh_367) (by decide) rfl ?_
  refine ev_bk 1 (S' := (218, [some (.ref 367), some (vI x1), some (vI x2), some (vI x3), some (vI x4), some (vI x5), some (vI x6)], [vI x6, .ref 413, vI x5], hp S, 0, 0)) rfl ?_
  obtain ⟨b1, F⟩ := F
  refine mv_ial rfl (sh_413) b1 ?_
  refine mv_icmp 236 rfl rfl (fun c => ?_) (fun c => ?_)
  · have F := F.1 c
    exact F
  · have F := F.2 c
    refine ev_bk 3 (S' := (227, [some (.ref 367), some (vI x1), some (vI x2), some (vI x3), some (vI x4), some (vI x5), some (vI x6)], [vI 2, vL 2, .ref 367], hp S, 0, 0)) rfl ?_
    obtain ⟨S2, e3, F⟩ := F
    refine mv_calv (as := [vL 2, vI 2]) (rest := []) e3 (sh_367) rfl rfl rfl ⟨rfl, rfl⟩ rfl rfl rfl rfl rfl ?_
    refine mv_inc (lv' := [some (.ref 367), some (vI x1), some (vI x2), some (vI x3), some (vI x4), some (vI (x5 + 1)), some (vI x6)]) 5 1 rfl rfl rfl rfl ?_
    refine mv_goto 210 rfl rfl ?_
    exact F
theorem vc_MD_writeSymbols_236 {q : Nat × (Nat → Int32)} {S S' : ms} {r : Option Value} (x1 x2 x3 x4 x5 x6 : Int)
    (F : (0 ≤ w32 x6 ∧ w32 x6 < (1560 : Nat)) ∧ ((w32 x5 ≤ w32 (S.1 413 (w32 x6))) → ∃ (S2 : ms), EV q 285 0 [some (.ref 367), some (vI 0)] [] S none S2 ∧ EV q 325 204 [some (.ref 367), some (vI x1), some (vI x2), some (vI x3), some (vI x4), some (vI x5), some (vI (x6 + 1))] [] S2 r S') ∧ ((¬ w32 x5 ≤ w32 (S.1 413 (w32 x6))) → ∃ (S4 : ms), EV q 284 0 [some (.ref 367), some (vL 3), none, some (vI 2), none] [] S none S4 ∧ EV q 325 236 [some (.ref 367), some (vI x1), some (vI x2), some (vI x3), some (vI x4), some (vI (x5 - 1)), some (vI x6)] [] S4 r S')) : EV q 325 236 [some (.ref 367), some (vI x1), some (vI x2), some (vI x3), some (vI x4), some (vI x5), some (vI x6)] [] S r S' := by
  unfold EV
  refine ev_bk 2 (S' := (239, [some (.ref 367), some (vI x1), some (vI x2), some (vI x3), some (vI x4), some (vI x5), some (vI x6)], [.ref 367, vI x5], hp S, 0, 0)) rfl ?_
  refine mv_gfR rfl rfl (sh_367) (by decide) rfl ?_
  refine ev_bk 1 (S' := (244, [some (.ref 367), some (vI x1), some (vI x2), some (vI x3), some (vI x4), some (vI x5), some (vI x6)], [vI x6, .ref 413, vI x5], hp S, 0, 0)) rfl ?_
  obtain ⟨b1, F⟩ := F
  refine mv_ial rfl (sh_413) b1 ?_
  refine mv_icmp 262 rfl rfl (fun c => ?_) (fun c => ?_)
  · have F := F.1 c
    refine ev_bk 2 (S' := (264, [some (.ref 367), some (vI x1), some (vI x2), some (vI x3), some (vI x4), some (vI x5), some (vI x6)], [vI 0, .ref 367], hp S, 0, 0)) rfl ?_
    obtain ⟨S2, e3, F⟩ := F
    refine mv_calv (as := [vI 0]) (rest := []) e3 (sh_367) rfl rfl rfl ⟨rfl, rfl⟩ rfl rfl rfl rfl rfl ?_
    refine mv_inc (lv' := [some (.ref 367), some (vI x1), some (vI x2), some (vI x3), some (vI x4), some (vI x5), some (vI (x6 + 1))]) 6 1 rfl rfl rfl rfl ?_
    refine mv_goto 204 rfl rfl ?_
    exact F
  · have F := F.2 c
    refine ev_bk 3 (S' := (253, [some (.ref 367), some (vI x1), some (vI x2), some (vI x3), some (vI x4), some (vI x5), some (vI x6)], [vI 2, vL 3, .ref 367], hp S, 0, 0)) rfl ?_
    obtain ⟨S4, e5, F⟩ := F
    refine mv_calv (as := [vL 3, vI 2]) (rest := []) e5 (sh_367) rfl rfl rfl ⟨rfl, rfl⟩ rfl rfl rfl rfl rfl ?_
    refine mv_inc (lv' := [some (.ref 367), some (vI x1), some (vI x2), some (vI x3), some (vI x4), some (vI (x5 - 1)), some (vI x6)]) 5 (-1) rfl rfl rfl (by omega) ?_
    refine mv_goto 236 rfl rfl ?_
    exact F
theorem vc_MD_writeSymbols_282 {q : Nat × (Nat → Int32)} {S S' : ms} {r : Option Value} (x1 x2 x3 x4 : Int)
    (F : ((w32 (S.1 367 72) ≤ w32 x4) → r = none ∧ S' = S) ∧ ((¬ w32 (S.1 367 72) ≤ w32 x4) → (0 ≤ w32 x4 ∧ w32 x4 < (15400 : Nat)) ∧ (0 ≤ w32 (S.1 411 (w32 x4)) ∧ w32 (S.1 411 (w32 x4)) < (1560 : Nat)) ∧ (0 ≤ w32 x4 ∧ w32 x4 < (15400 : Nat)) ∧ (0 ≤ w32 (S.1 411 (w32 x4)) ∧ w32 (S.1 411 (w32 x4)) < (1560 : Nat)) ∧ ∃ (S5 : ms), EV q 304 0 [some (.ref 367), some (vI (S.1 414 (w32 (S.1 411 (w32 x4))))), some (vI (S.1 413 (w32 (S.1 411 (w32 x4))))), none] [] S none S5 ∧ EV q 325 282 [some (.ref 367), some (vI x1), some (vI x2), some (vI x3), some (vI (x4 + 1)), none, none] [] S5 r S')) : EV q 325 282 [some (.ref 367), some (vI x1), some (vI x2), some (vI x3), some (vI x4), none, none] [] S r S' := by
  unfold EV
  refine ev_bk 2 (S' := (285, [some (.ref 367), some (vI x1), some (vI x2), some (vI x3), some (vI x4), none, none], [.ref 367, vI x4], hp S, 0, 0)) rfl ?_
  refine mv_gfI rfl rfl (sh_367) (by decide) rfl ?_
  refine mv_icmp 325 rfl rfl (fun c => ?_) (fun c => ?_)
  · have F := F.1 c
    obtain ⟨rfl, rfl⟩ := F
    exact ev_ret rfl rfl
  · have F := F.2 c
    refine ev_bk 2 (S' := (293, [some (.ref 367), some (vI x1), some (vI x2), some (vI x3), some (vI x4), none, none], [.ref 367, .ref 367], hp S, 0, 0)) rfl ?_
    refine mv_gfR rfl rfl (sh_367) (by decide) rfl ?_
    refine ev_bk 1 (S' := (297, [some (.ref 367), some (vI x1), some (vI x2), some (vI x3), some (vI x4), none, none], [.ref 367, .ref 414, .ref 367], hp S, 0, 0)) rfl ?_
    refine mv_gfR rfl rfl (sh_367) (by decide) rfl ?_
    refine ev_bk 1 (S' := (302, [some (.ref 367), some (vI x1), some (vI x2), some (vI x3), some (vI x4), none, none], [vI x4, .ref 411, .ref 414, .ref 367], hp S, 0, 0)) rfl ?_
    obtain ⟨b1, F⟩ := F
    refine mv_ial rfl (sh_411) b1 ?_
    obtain ⟨b2, F⟩ := F
    refine mv_ial rfl (sh_414) b2 ?_
    refine ev_bk 1 (S' := (305, [some (.ref 367), some (vI x1), some (vI x2), some (vI x3), some (vI x4), none, none], [.ref 367, vI (S.1 414 (w32 (S.1 411 (w32 x4)))), .ref 367], hp S, 0, 0)) rfl ?_
    refine mv_gfR rfl rfl (sh_367) (by decide) rfl ?_
    refine ev_bk 1 (S' := (309, [some (.ref 367), some (vI x1), some (vI x2), some (vI x3), some (vI x4), none, none], [.ref 367, .ref 413, vI (S.1 414 (w32 (S.1 411 (w32 x4)))), .ref 367], hp S, 0, 0)) rfl ?_
    refine mv_gfR rfl rfl (sh_367) (by decide) rfl ?_
    refine ev_bk 1 (S' := (314, [some (.ref 367), some (vI x1), some (vI x2), some (vI x3), some (vI x4), none, none], [vI x4, .ref 411, .ref 413, vI (S.1 414 (w32 (S.1 411 (w32 x4)))), .ref 367], hp S, 0, 0)) rfl ?_
    obtain ⟨b3, F⟩ := F
    refine mv_ial rfl (sh_411) b3 ?_
    obtain ⟨b4, F⟩ := F
    refine mv_ial rfl (sh_413) b4 ?_
    obtain ⟨S5, e6, F⟩ := F
    refine mv_calv (as := [vI (S.1 414 (w32 (S.1 411 (w32 x4)))), vI (S.1 413 (w32 (S.1 411 (w32 x4))))]) (rest := []) e6 (sh_367) rfl rfl rfl ⟨rfl, rfl⟩ rfl rfl rfl rfl rfl ?_
    refine mv_inc (lv' := [some (.ref 367), some (vI x1), some (vI x2), some (vI x3), some (vI (x4 + 1)), none, none]) 4 1 rfl rfl rfl rfl ?_
    refine mv_goto 282 rfl rfl ?_
    exact F
theorem vc_MD_packOdds {q : Nat × (Nat → Int32)} {S S' : ms} {r : Option Value}
    (F : ∃ (S1 : ms), EV q 309 0 [some (.ref 367), some (vL (w32 (S.1 367 2))), none, some (vI 2), none] [] S none S1 ∧ EV q 326 12 [some (.ref 367), some (vI 0), none, none, none, none, none, none, none, none, none] [] S1 r S') : EV q 326 0 [some (.ref 367), none, none, none, none, none, none, none, none, none, none] [] S r S' := by
  unfold EV
  refine ev_bk 2 (S' := (2, [some (.ref 367), none, none, none, none, none, none, none, none, none, none], [.ref 367, .ref 367], hp S, 0, 0)) rfl ?_
  refine mv_gfI rfl rfl (sh_367) (by decide) rfl ?_
  refine mv_i2l rfl ?_
  refine ev_bk 1 (S' := (7, [some (.ref 367), none, none, none, none, none, none, none, none, none, none], [vI 2, vL (w32 (S.1 367 2)), .ref 367], hp S, 0, 0)) rfl ?_
  obtain ⟨S1, e2, F⟩ := F
  refine mv_calv (as := [vL (w32 (S.1 367 2)), vI 2]) (rest := []) e2 (sh_367) rfl rfl rfl ⟨rfl, rfl⟩ rfl rfl rfl rfl rfl ?_
  refine ev_bk 2 (S' := (12, [some (.ref 367), some (vI 0), none, none, none, none, none, none, none, none, none], [], hp S1, 0, 0)) rfl ?_
  exact F
theorem vc_MD_packOdds_12 {q : Nat × (Nat → Int32)} {S S' : ms} {r : Option Value} (x1 : Int)
    (F : ((65536 ≤ w32 x1) → ∀ S1 : ms, S1 = wJ S 367 63 0 → ∀ S2 : ms, S2 = wJ S1 367 64 4294967295 → EV q 326 49 [some (.ref 367), some (vI 0), some (vI 0), none, none, none, none, none, none, none, none] [] S2 r S') ∧ ((¬ 65536 ≤ w32 x1) → (0 ≤ w32 x1 ∧ w32 x1 < (65536 : Nat)) ∧ ∀ S4 : ms, S4 = wI S 405 (w32 x1) 1024 → EV q 326 12 [some (.ref 367), some (vI (x1 + 1)), none, none, none, none, none, none, none, none, none] [] S4 r S')) : EV q 326 12 [some (.ref 367), some (vI x1), none, none, none, none, none, none, none, none, none] [] S r S' := by
  unfold EV
  refine ev_bk 2 (S' := (15, [some (.ref 367), some (vI x1), none, none, none, none, none, none, none, none, none], [vI 65536, vI x1], hp S, 0, 0)) rfl ?_
  refine mv_icmp 33 rfl rfl (fun c => ?_) (fun c => ?_)
  · have F := F.1 c
    refine ev_bk 2 (S' := (35, [some (.ref 367), some (vI x1), none, none, none, none, none, none, none, none, none], [vL 0, .ref 367], hp S, 0, 0)) rfl ?_
    refine mv_pfJ rfl rfl (sh_367) (by decide) rfl rfl ?_
    have F := F _ rfl
    refine ev_bk 2 (S' := (42, [some (.ref 367), some (vI x1), none, none, none, none, none, none, none, none, none], [vL 4294967295, .ref 367], hp (wJ S 367 63 0), 0, 0)) rfl ?_
    refine mv_pfJ rfl rfl (sh_367) (by decide) rfl rfl ?_
    have F := F _ rfl
    refine ev_bk 4 (S' := (49, [some (.ref 367), some (vI 0), some (vI 0), none, none, none, none, none, none, none, none], [], hp (wJ (wJ S 367 63 0) 367 64 4294967295), 0, 0)) rfl ?_
    exact F
  · have F := F.2 c
    refine ev_bk 1 (S' := (19, [some (.ref 367), some (vI x1), none, none, none, none, none, none, none, none, none], [.ref 367], hp S, 0, 0)) rfl ?_
    refine mv_gfR rfl rfl (sh_367) (by decide) rfl ?_
    refine ev_bk 2 (S' := (26, [some (.ref 367), some (vI x1), none, none, none, none, none, none, none, none, none], [vI 1024, vI x1, .ref 405], hp S, 0, 0)) rfl ?_
    obtain ⟨b3, F⟩ := F
    refine mv_ias rfl (sh_405) b3 ?_
    have F := F _ rfl
    refine mv_inc (lv' := [some (.ref 367), some (vI (x1 + 1)), none, none, none, none, none, none, none, none, none]) 1 1 rfl rfl rfl rfl ?_
    refine mv_goto 12 rfl rfl ?_
    exact F
theorem vc_MD_packOdds_49 {q : Nat × (Nat → Int32)} {S S' : ms} {r : Option Value} (x1 x2 : Int)
    (F : ((w32 (S.1 367 2) ≤ w32 x2) → ∃ (S1 : ms), EV q 309 0 [some (.ref 367), some (vL (S.2.1 367 63)), none, some (vI 4), none] [] S none S1 ∧ r = none ∧ S' = S1) ∧ ((¬ w32 (S.1 367 2) ≤ w32 x2) → (0 ≤ w32 x2 ∧ w32 x2 < (6000 : Nat)) ∧ EV q 326 75 [some (.ref 367), some (vI x1), some (vI x2), some (vI ((S.1 368 (w32 x2)) % 256)), some (vI 1), some (vI 7), none, none, none, none, none] [] S r S')) : EV q 326 49 [some (.ref 367), some (vI x1), some (vI x2), none, none, none, none, none, none, none, none] [] S r S' := by
  unfold EV
  refine ev_bk 2 (S' := (51, [some (.ref 367), some (vI x1), some (vI x2), none, none, none, none, none, none, none, none], [.ref 367, vI x2], hp S, 0, 0)) rfl ?_
  refine mv_gfI rfl rfl (sh_367) (by decide) rfl ?_
  refine mv_icmp 292 rfl rfl (fun c => ?_) (fun c => ?_)
  · have F := F.1 c
    refine ev_bk 2 (S' := (294, [some (.ref 367), some (vI x1), some (vI x2), none, none, none, none, none, none, none, none], [.ref 367, .ref 367], hp S, 0, 0)) rfl ?_
    refine mv_gfJ rfl rfl (sh_367) (by decide) rfl ?_
    refine ev_bk 1 (S' := (298, [some (.ref 367), some (vI x1), some (vI x2), none, none, none, none, none, none, none, none], [vI 4, vL (S.2.1 367 63), .ref 367], hp S, 0, 0)) rfl ?_
    obtain ⟨S1, e2, F⟩ := F
    refine mv_calv (as := [vL (S.2.1 367 63), vI 4]) (rest := []) e2 (sh_367) rfl rfl rfl ⟨rfl, rfl⟩ rfl rfl rfl rfl rfl ?_
    obtain ⟨rfl, rfl⟩ := F
    exact ev_ret rfl rfl
  · have F := F.2 c
    refine ev_bk 1 (S' := (58, [some (.ref 367), some (vI x1), some (vI x2), none, none, none, none, none, none, none, none], [.ref 367], hp S, 0, 0)) rfl ?_
    refine mv_gfR rfl rfl (sh_367) (by decide) rfl ?_
    refine ev_bk 1 (S' := (62, [some (.ref 367), some (vI x1), some (vI x2), none, none, none, none, none, none, none, none], [vI x2, .ref 368], hp S, 0, 0)) rfl ?_
    obtain ⟨b3, F⟩ := F
    refine mv_bal rfl (sh_368) b3 ?_
    refine ev_bk 1 (S' := (66, [some (.ref 367), some (vI x1), some (vI x2), none, none, none, none, none, none, none, none], [vI 255, vI (S.1 368 (w32 x2))], hp S, 0, 0)) rfl ?_
    refine mv_iandm 256 8 (by decide) rfl rfl rfl ?_
    refine ev_bk 5 (S' := (75, [some (.ref 367), some (vI x1), some (vI x2), some (vI ((S.1 368 (w32 x2)) % 256)), some (vI 1), some (vI 7), none, none, none, none, none], [], hp S, 0, 0)) rfl ?_
    exact F
theorem vc_MD_packOdds_75 {q : Nat × (Nat → Int32)} {S S' : ms} {r : Option Value} (x1 x2 x3 x4 x5 : Int)
    (F : ((w32 x5 < 0) → EV q 326 49 [some (.ref 367), some (vI x3), some (vI (x2 + 1)), none, none, none, none, none, none, none, none] [] S r S') ∧ ((¬ w32 x5 < 0) → (0 ≤ w32 ((256 * x1) + x4) ∧ w32 ((256 * x1) + x4) < (65536 : Nat)) ∧ ((¬ w32 ((w32 x3 / ((2 : Int) ^ (x5 % 32).toNat)) % 2) = 0) → ∀ S2 : ms, S2 = wJ S 367 63 (S.2.1 367 63 + ((Int.tdiv (w64 (S.2.1 367 64)) (w64 2048)) * (w32 (S.1 405 (w32 ((256 * x1) + x4)))))) → ∀ S3 : ms, S3 = wJ S2 367 64 ((S2.2.1 367 64) - ((Int.tdiv (w64 (S.2.1 367 64)) (w64 2048)) * (w32 (S.1 405 (w32 ((256 * x1) + x4)))))) → (0 ≤ w32 ((256 * x1) + x4) ∧ w32 ((256 * x1) + x4) < (65536 : Nat)) ∧ (0 ≤ w32 ((256 * x1) + x4) ∧ w32 ((256 * x1) + x4) < (65536 : Nat)) ∧ (0 ≤ w32 ((256 * x1) + x4) ∧ w32 ((256 * x1) + x4) < (65536 : Nat)) ∧ ∀ S7 : ms, S7 = wI S3 405 (w32 ((256 * x1) + x4)) ((S3.1 405 (w32 ((256 * x1) + x4))) - (Int.tdiv (w32 (S3.1 405 (w32 ((256 * x1) + x4)))) (w32 32))) → EV q 326 197 [some (.ref 367), some (vI x1), some (vI x2), some (vI x3), some (vI x4), some (vI x5), some (vI ((w32 x3 / ((2 : Int) ^ (x5 % 32).toNat)) % 2)), some (vI ((256 * x1) + x4)), some (vL ((Int.tdiv (w64 (S.2.1 367 64)) (w64 2048)) * (w32 (S.1 405 (w32 ((256 * x1) + x4)))))), none, none] [] S7 r S') ∧ ((¬ (¬ w32 ((w32 x3 / ((2 : Int) ^ (x5 % 32).toNat)) % 2) = 0)) → ∀ S8 : ms, S8 = wJ S 367 64 ((Int.tdiv (w64 (S.2.1 367 64)) (w64 2048)) * (w32 (S.1 405 (w32 ((256 * x1) + x4))))) → (0 ≤ w32 ((256 * x1) + x4) ∧ w32 ((256 * x1) + x4) < (65536 : Nat)) ∧ (0 ≤ w32 ((256 * x1) + x4) ∧ w32 ((256 * x1) + x4) < (65536 : Nat)) ∧ (0 ≤ w32 ((256 * x1) + x4) ∧ w32 ((256 * x1) + x4) < (65536 : Nat)) ∧ ∀ S12 : ms, S12 = wI S8 405 (w32 ((256 * x1) + x4)) ((S8.1 405 (w32 ((256 * x1) + x4))) + (Int.tdiv (w32 (2048 - (S8.1 405 (w32 ((256 * x1) + x4))))) (w32 32))) → EV q 326 197 [some (.ref 367), some (vI x1), some (vI x2), some (vI x3), some (vI x4), some (vI x5), some (vI ((w32 x3 / ((2 : Int) ^ (x5 % 32).toNat)) % 2)), some (vI ((256 * x1) + x4)), some (vL ((Int.tdiv (w64 (S.2.1 367 64)) (w64 2048)) * (w32 (S.1 405 (w32 ((256 * x1) + x4)))))), none, none] [] S12 r S'))) : EV q 326 75 [some (.ref 367), some (vI x1), some (vI x2), some (vI x3), some (vI x4), some (vI x5), none, none, none, none, none] [] S r S' := by
  unfold EV
  refine ev_bk 1 (S' := (77, [some (.ref 367), some (vI x1), some (vI x2), some (vI x3), some (vI x4), some (vI x5), none, none, none, none, none], [vI x5], hp S, 0, 0)) rfl ?_
  refine mv_if 284 rfl rfl (fun c => ?_) (fun c => ?_)
  · have F := F.1 c
    refine ev_bk 2 (S' := (286, [some (.ref 367), some (vI x3), some (vI x2), some (vI x3), some (vI x4), some (vI x5), none, none, none, none, none], [], hp S, 0, 0)) rfl ?_
    refine mv_inc (lv' := [some (.ref 367), some (vI x3), some (vI (x2 + 1)), some (vI x3), some (vI x4), some (vI x5), none, none, none, none, none]) 2 1 rfl rfl rfl rfl ?_
    refine mv_goto 49 rfl rfl ?_
    exact ev_wk (le_s (le_s (le_s (le_n (le_n (le_n (le_s (le_s (le_s (le_s (le_s le_0))))))))))) F
  · have F := F.2 c
    refine ev_bk 2 (S' := (83, [some (.ref 367), some (vI x1), some (vI x2), some (vI x3), some (vI x4), some (vI x5), none, none, none, none, none], [vI x5, vI x3], hp S, 0, 0)) rfl ?_
    refine mv_ishr ((2 : Int) ^ (x5 % 32).toNat) rfl rfl ?_
    refine ev_bk 1 (S' := (85, [some (.ref 367), some (vI x1), some (vI x2), some (vI x3), some (vI x4), some (vI x5), none, none, none, none, none], [vI 1, vI (w32 x3 / ((2 : Int) ^ (x5 % 32).toNat))], hp S, 0, 0)) rfl ?_
    refine mv_iandm 2 1 (by decide) rfl rfl rfl ?_
    refine ev_bk 3 (S' := (92, [some (.ref 367), some (vI x1), some (vI x2), some (vI x3), some (vI x4), some (vI x5), some (vI ((w32 x3 / ((2 : Int) ^ (x5 % 32).toNat)) % 2)), none, none, none, none], [vI x1, vI 256], hp S, 0, 0)) rfl ?_
    refine mv_imul rfl ?_
    refine ev_bk 1 (S' := (95, [some (.ref 367), some (vI x1), some (vI x2), some (vI x3), some (vI x4), some (vI x5), some (vI ((w32 x3 / ((2 : Int) ^ (x5 % 32).toNat)) % 2)), none, none, none, none], [vI x4, vI (256 * x1)], hp S, 0, 0)) rfl ?_
    refine mv_iadd rfl ?_
    refine ev_bk 2 (S' := (99, [some (.ref 367), some (vI x1), some (vI x2), some (vI x3), some (vI x4), some (vI x5), some (vI ((w32 x3 / ((2 : Int) ^ (x5 % 32).toNat)) % 2)), some (vI ((256 * x1) + x4)), none, none, none], [.ref 367], hp S, 0, 0)) rfl ?_
    refine mv_gfJ rfl rfl (sh_367) (by decide) rfl ?_
    refine ev_bk 1 (S' := (105, [some (.ref 367), some (vI x1), some (vI x2), some (vI x3), some (vI x4), some (vI x5), some (vI ((w32 x3 / ((2 : Int) ^ (x5 % 32).toNat)) % 2)), some (vI ((256 * x1) + x4)), none, none, none], [vL 2048, vL (S.2.1 367 64)], hp S, 0, 0)) rfl ?_
    refine mv_ldiv (by decide) rfl ?_
    refine ev_bk 1 (S' := (107, [some (.ref 367), some (vI x1), some (vI x2), some (vI x3), some (vI x4), some (vI x5), some (vI ((w32 x3 / ((2 : Int) ^ (x5 % 32).toNat)) % 2)), some (vI ((256 * x1) + x4)), none, none, none], [.ref 367, vL (Int.tdiv (w64 (S.2.1 367 64)) (w64 2048))], hp S, 0, 0)) rfl ?_
    refine mv_gfR rfl rfl (sh_367) (by decide) rfl ?_
    refine ev_bk 1 (S' := (112, [some (.ref 367), some (vI x1), some (vI x2), some (vI x3), some (vI x4), some (vI x5), some (vI ((w32 x3 / ((2 : Int) ^ (x5 % 32).toNat)) % 2)), some (vI ((256 * x1) + x4)), none, none, none], [vI ((256 * x1) + x4), .ref 405, vL (Int.tdiv (w64 (S.2.1 367 64)) (w64 2048))], hp S, 0, 0)) rfl ?_
    obtain ⟨b1, F⟩ := F
    refine mv_ial rfl (sh_405) b1 ?_
    refine mv_i2l rfl ?_
    refine mv_lmul rfl ?_
    refine ev_bk 2 (S' := (119, [some (.ref 367), some (vI x1), some (vI x2), some (vI x3), some (vI x4), some (vI x5), some (vI ((w32 x3 / ((2 : Int) ^ (x5 % 32).toNat)) % 2)), some (vI ((256 * x1) + x4)), some (vL ((Int.tdiv (w64 (S.2.1 367 64)) (w64 2048)) * (w32 (S.1 405 (w32 ((256 * x1) + x4)))))), none, none], [vI ((w32 x3 / ((2 : Int) ^ (x5 % 32).toNat)) % 2)], hp S, 0, 0)) rfl ?_
    refine mv_if 155 rfl rfl (fun c => ?_) (fun c => ?_)
    · have F := F.1 c
      refine ev_bk 2 (S' := (157, [some (.ref 367), some (vI x1), some (vI x2), some (vI x3), some (vI x4), some (vI x5), some (vI ((w32 x3 / ((2 : Int) ^ (x5 % 32).toNat)) % 2)), some (vI ((256 * x1) + x4)), some (vL ((Int.tdiv (w64 (S.2.1 367 64)) (w64 2048)) * (w32 (S.1 405 (w32 ((256 * x1) + x4)))))), none, none], [.ref 367, .ref 367], hp S, 0, 0)) rfl ?_
      refine mv_gfJ rfl rfl (sh_367) (by decide) rfl ?_
      refine ev_bk 1 (S' := (162, [some (.ref 367), some (vI x1), some (vI x2), some (vI x3), some (vI x4), some (vI x5), some (vI ((w32 x3 / ((2 : Int) ^ (x5 % 32).toNat)) % 2)), some (vI ((256 * x1) + x4)), some (vL ((Int.tdiv (w64 (S.2.1 367 64)) (w64 2048)) * (w32 (S.1 405 (w32 ((256 * x1) + x4)))))), none, none], [vL ((Int.tdiv (w64 (S.2.1 367 64)) (w64 2048)) * (w32 (S.1 405 (w32 ((256 * x1) + x4))))), vL (S.2.1 367 63), .ref 367], hp S, 0, 0)) rfl ?_
      refine mv_ladd rfl ?_
      refine mv_pfJ rfl rfl (sh_367) (by decide) rfl rfl ?_
      have F := F _ rfl
      refine ev_bk 2 (S' := (168, [some (.ref 367), some (vI x1), some (vI x2), some (vI x3), some (vI x4), some (vI x5), some (vI ((w32 x3 / ((2 : Int) ^ (x5 % 32).toNat)) % 2)), some (vI ((256 * x1) + x4)), some (vL ((Int.tdiv (w64 (S.2.1 367 64)) (w64 2048)) * (w32 (S.1 405 (w32 ((256 * x1) + x4)))))), none, none], [.ref 367, .ref 367], hp (wJ S 367 63 (S.2.1 367 63 + ((Int.tdiv (w64 (S.2.1 367 64)) (w64 2048)) * (w32 (S.1 405 (w32 ((256 * x1) + x4))))))), 0, 0)) rfl ?_
      refine mv_gfJ rfl rfl (sh_367) (by decide) rfl ?_
      refine ev_bk 1 (S' := (173, [some (.ref 367), some (vI x1), some (vI x2), some (vI x3), some (vI x4), some (vI x5), some (vI ((w32 x3 / ((2 : Int) ^ (x5 % 32).toNat)) % 2)), some (vI ((256 * x1) + x4)), some (vL ((Int.tdiv (w64 (S.2.1 367 64)) (w64 2048)) * (w32 (S.1 405 (w32 ((256 * x1) + x4)))))), none, none], [vL ((Int.tdiv (w64 (S.2.1 367 64)) (w64 2048)) * (w32 (S.1 405 (w32 ((256 * x1) + x4))))), vL ((wJ S 367 63 (S.2.1 367 63 + ((Int.tdiv (w64 (S.2.1 367 64)) (w64 2048)) * (w32 (S.1 405 (w32 ((256 * x1) + x4))))))).2.1 367 64), .ref 367], hp (wJ S 367 63 (S.2.1 367 63 + ((Int.tdiv (w64 (S.2.1 367 64)) (w64 2048)) * (w32 (S.1 405 (w32 ((256 * x1) + x4))))))), 0, 0)) rfl ?_
      refine mv_lsub rfl ?_
      refine mv_pfJ rfl rfl (sh_367) (by decide) rfl rfl ?_
      have F := F _ rfl
      refine ev_bk 1 (S' := (178, [some (.ref 367), some (vI x1), some (vI x2), some (vI x3), some (vI x4), some (vI x5), some (vI ((w32 x3 / ((2 : Int) ^ (x5 % 32).toNat)) % 2)), some (vI ((256 * x1) + x4)), some (vL ((Int.tdiv (w64 (S.2.1 367 64)) (w64 2048)) * (w32 (S.1 405 (w32 ((256 * x1) + x4)))))), none, none], [.ref 367], hp (wJ (wJ S 367 63 (S.2.1 367 63 + ((Int.tdiv (w64 (S.2.1 367 64)) (w64 2048)) * (w32 (S.1 405 (w32 ((256 * x1) + x4))))))) 367 64 (((wJ S 367 63 (S.2.1 367 63 + ((Int.tdiv (w64 (S.2.1 367 64)) (w64 2048)) * (w32 (S.1 405 (w32 ((256 * x1) + x4))))))).2.1 367 64) - ((Int.tdiv (w64 (S.2.1 367 64)) (w64 2048)) * (w32 (S.1 405 (w32 ((256 * x1) + x4))))))), 0, 0)) rfl ?_
      refine mv_gfR rfl rfl (sh_367) (by decide) rfl ?_
      refine ev_bk 2 (S' := (184, [some (.ref 367), some (vI x1), some (vI x2), some (vI x3), some (vI x4), some (vI x5), some (vI ((w32 x3 / ((2 : Int) ^ (x5 % 32).toNat)) % 2)), some (vI ((256 * x1) + x4)), some (vL ((Int.tdiv (w64 (S.2.1 367 64)) (w64 2048)) * (w32 (S.1 405 (w32 ((256 * x1) + x4)))))), none, none], [vI ((256 * x1) + x4), .ref 405, vI ((256 * x1) + x4), .ref 405], hp (wJ (wJ S 367 63 (S.2.1 367 63 + ((Int.tdiv (w64 (S.2.1 367 64)) (w64 2048)) * (w32 (S.1 405 (w32 ((256 * x1) + x4))))))) 367 64 (((wJ S 367 63 (S.2.1 367 63 + ((Int.tdiv (w64 (S.2.1 367 64)) (w64 2048)) * (w32 (S.1 405 (w32 ((256 * x1) + x4))))))).2.1 367 64) - ((Int.tdiv (w64 (S.2.1 367 64)) (w64 2048)) * (w32 (S.1 405 (w32 ((256 * x1) + x4))))))), 0, 0)) rfl ?_
      obtain ⟨b4, F⟩ := F
      refine mv_ial rfl (sh_405) b4 ?_
      refine ev_bk 1 (S' := (186, [some (.ref 367), some (vI x1), some (vI x2), some (vI x3), some (vI x4), some (vI x5), some (vI ((w32 x3 / ((2 : Int) ^ (x5 % 32).toNat)) % 2)), some (vI ((256 * x1) + x4)), some (vL ((Int.tdiv (w64 (S.2.1 367 64)) (w64 2048)) * (w32 (S.1 405 (w32 ((256 * x1) + x4)))))), none, none], [.ref 367, vI ((wJ (wJ S 367 63 (S.2.1 367 63 + ((Int.tdiv (w64 (S.2.1 367 64)) (w64 2048)) * (w32 (S.1 405 (w32 ((256 * x1) + x4))))))) 367 64 (((wJ S 367 63 (S.2.1 367 63 + ((Int.tdiv (w64 (S.2.1 367 64)) (w64 2048)) * (w32 (S.1 405 (w32 ((256 * x1) + x4))))))).2.1 367 64) - ((Int.tdiv (w64 (S.2.1 367 64)) (w64 2048)) * (w32 (S.1 405 (w32 ((256 * x1) + x4))))))).1 405 (w32 ((256 * x1) + x4))), vI ((256 * x1) + x4), .ref 405], hp (wJ (wJ S 367 63 (S.2.1 367 63 + ((Int.tdiv (w64 (S.2.1 367 64)) (w64 2048)) * (w32 (S.1 405 (w32 ((256 * x1) + x4))))))) 367 64 (((wJ S 367 63 (S.2.1 367 63 + ((Int.tdiv (w64 (S.2.1 367 64)) (w64 2048)) * (w32 (S.1 405 (w32 ((256 * x1) + x4))))))).2.1 367 64) - ((Int.tdiv (w64 (S.2.1 367 64)) (w64 2048)) * (w32 (S.1 405 (w32 ((256 * x1) + x4))))))), 0, 0)) rfl ?_
      refine mv_gfR rfl rfl (sh_367) (by decide) rfl ?_
      refine ev_bk 1 (S' := (191, [some (.ref 367), some (vI x1), some (vI x2), some (vI x3), some (vI x4), some (vI x5), some (vI ((w32 x3 / ((2 : Int) ^ (x5 % 32).toNat)) % 2)), some (vI ((256 * x1) + x4)), some (vL ((Int.tdiv (w64 (S.2.1 367 64)) (w64 2048)) * (w32 (S.1 405 (w32 ((256 * x1) + x4)))))), none, none], [vI ((256 * x1) + x4), .ref 405, vI ((wJ (wJ S 367 63 (S.2.1 367 63 + ((Int.tdiv (w64 (S.2.1 367 64)) (w64 2048)) * (w32 (S.1 405 (w32 ((256 * x1) + x4))))))) 367 64 (((wJ S 367 63 (S.2.1 367 63 + ((Int.tdiv (w64 (S.2.1 367 64)) (w64 2048)) * (w32 (S.1 405 (w32 ((256 * x1) + x4))))))).2.1 367 64) - ((Int.tdiv (w64 (S.2.1 367 64)) (w64 2048)) * (w32 (S.1 405 (w32 ((256 * x1) + x4))))))).1 405 (w32 ((256 * x1) + x4))), vI ((256 * x1) + x4), .ref 405], hp (wJ (wJ S 367 63 (S.2.1 367 63 + ((Int.tdiv (w64 (S.2.1 367 64)) (w64 2048)) * (w32 (S.1 405 (w32 ((256 * x1) + x4))))))) 367 64 (((wJ S 367 63 (S.2.1 367 63 + ((Int.tdiv (w64 (S.2.1 367 64)) (w64 2048)) * (w32 (S.1 405 (w32 ((256 * x1) + x4))))))).2.1 367 64) - ((Int.tdiv (w64 (S.2.1 367 64)) (w64 2048)) * (w32 (S.1 405 (w32 ((256 * x1) + x4))))))), 0, 0)) rfl ?_
      obtain ⟨b5, F⟩ := F
      refine mv_ial rfl (sh_405) b5 ?_
      refine ev_bk 1 (S' := (194, [some (.ref 367), some (vI x1), some (vI x2), some (vI x3), some (vI x4), some (vI x5), some (vI ((w32 x3 / ((2 : Int) ^ (x5 % 32).toNat)) % 2)), some (vI ((256 * x1) + x4)), some (vL ((Int.tdiv (w64 (S.2.1 367 64)) (w64 2048)) * (w32 (S.1 405 (w32 ((256 * x1) + x4)))))), none, none], [vI 32, vI ((wJ (wJ S 367 63 (S.2.1 367 63 + ((Int.tdiv (w64 (S.2.1 367 64)) (w64 2048)) * (w32 (S.1 405 (w32 ((256 * x1) + x4))))))) 367 64 (((wJ S 367 63 (S.2.1 367 63 + ((Int.tdiv (w64 (S.2.1 367 64)) (w64 2048)) * (w32 (S.1 405 (w32 ((256 * x1) + x4))))))).2.1 367 64) - ((Int.tdiv (w64 (S.2.1 367 64)) (w64 2048)) * (w32 (S.1 405 (w32 ((256 * x1) + x4))))))).1 405 (w32 ((256 * x1) + x4))), vI ((wJ (wJ S 367 63 (S.2.1 367 63 + ((Int.tdiv (w64 (S.2.1 367 64)) (w64 2048)) * (w32 (S.1 405 (w32 ((256 * x1) + x4))))))) 367 64 (((wJ S 367 63 (S.2.1 367 63 + ((Int.tdiv (w64 (S.2.1 367 64)) (w64 2048)) * (w32 (S.1 405 (w32 ((256 * x1) + x4))))))).2.1 367 64) - ((Int.tdiv (w64 (S.2.1 367 64)) (w64 2048)) * (w32 (S.1 405 (w32 ((256 * x1) + x4))))))).1 405 (w32 ((256 * x1) + x4))), vI ((256 * x1) + x4), .ref 405], hp (wJ (wJ S 367 63 (S.2.1 367 63 + ((Int.tdiv (w64 (S.2.1 367 64)) (w64 2048)) * (w32 (S.1 405 (w32 ((256 * x1) + x4))))))) 367 64 (((wJ S 367 63 (S.2.1 367 63 + ((Int.tdiv (w64 (S.2.1 367 64)) (w64 2048)) * (w32 (S.1 405 (w32 ((256 * x1) + x4))))))).2.1 367 64) - ((Int.tdiv (w64 (S.2.1 367 64)) (w64 2048)) * (w32 (S.1 405 (w32 ((256 * x1) + x4))))))), 0, 0)) rfl ?_
      refine mv_idiv (by decide) rfl ?_
      refine mv_isub rfl ?_
      obtain ⟨b6, F⟩ := F
      refine mv_ias rfl (sh_405) b6 ?_
      have F := F _ rfl
      exact F
    · have F := F.2 c
      refine ev_bk 2 (S' := (125, [some (.ref 367), some (vI x1), some (vI x2), some (vI x3), some (vI x4), some (vI x5), some (vI ((w32 x3 / ((2 : Int) ^ (x5 % 32).toNat)) % 2)), some (vI ((256 * x1) + x4)), some (vL ((Int.tdiv (w64 (S.2.1 367 64)) (w64 2048)) * (w32 (S.1 405 (w32 ((256 * x1) + x4)))))), none, none], [vL ((Int.tdiv (w64 (S.2.1 367 64)) (w64 2048)) * (w32 (S.1 405 (w32 ((256 * x1) + x4))))), .ref 367], hp S, 0, 0)) rfl ?_
      refine mv_pfJ rfl rfl (sh_367) (by decide) rfl rfl ?_
      have F := F _ rfl
      refine ev_bk 1 (S' := (129, [some (.ref 367), some (vI x1), some (vI x2), some (vI x3), some (vI x4), some (vI x5), some (vI ((w32 x3 / ((2 : Int) ^ (x5 % 32).toNat)) % 2)), some (vI ((256 * x1) + x4)), some (vL ((Int.tdiv (w64 (S.2.1 367 64)) (w64 2048)) * (w32 (S.1 405 (w32 ((256 * x1) + x4)))))), none, none], [.ref 367], hp (wJ S 367 64 ((Int.tdiv (w64 (S.2.1 367 64)) (w64 2048)) * (w32 (S.1 405 (w32 ((256 * x1) + x4)))))), 0, 0)) rfl ?_
      refine mv_gfR rfl rfl (sh_367) (by decide) rfl ?_
      refine ev_bk 2 (S' := (135, [some (.ref 367), some (vI x1), some (vI x2), some (vI x3), some (vI x4), some (vI x5), some (vI ((w32 x3 / ((2 : Int) ^ (x5 % 32).toNat)) % 2)), some (vI ((256 * x1) + x4)), some (vL ((Int.tdiv (w64 (S.2.1 367 64)) (w64 2048)) * (w32 (S.1 405 (w32 ((256 * x1) + x4)))))), none, none], [vI ((256 * x1) + x4), .ref 405, vI ((256 * x1) + x4), .ref 405], hp (wJ S 367 64 ((Int.tdiv (w64 (S.2.1 367 64)) (w64 2048)) * (w32 (S.1 405 (w32 ((256 * x1) + x4)))))), 0, 0)) rfl ?_
      obtain ⟨b9, F⟩ := F
      refine mv_ial rfl (sh_405) b9 ?_
      refine ev_bk 2 (S' := (140, [some (.ref 367), some (vI x1), some (vI x2), some (vI x3), some (vI x4), some (vI x5), some (vI ((w32 x3 / ((2 : Int) ^ (x5 % 32).toNat)) % 2)), some (vI ((256 * x1) + x4)), some (vL ((Int.tdiv (w64 (S.2.1 367 64)) (w64 2048)) * (w32 (S.1 405 (w32 ((256 * x1) + x4)))))), none, none], [.ref 367, vI 2048, vI ((wJ S 367 64 ((Int.tdiv (w64 (S.2.1 367 64)) (w64 2048)) * (w32 (S.1 405 (w32 ((256 * x1) + x4)))))).1 405 (w32 ((256 * x1) + x4))), vI ((256 * x1) + x4), .ref 405], hp (wJ S 367 64 ((Int.tdiv (w64 (S.2.1 367 64)) (w64 2048)) * (w32 (S.1 405 (w32 ((256 * x1) + x4)))))), 0, 0)) rfl ?_
      refine mv_gfR rfl rfl (sh_367) (by decide) rfl ?_
      refine ev_bk 1 (S' := (145, [some (.ref 367), some (vI x1), some (vI x2), some (vI x3), some (vI x4), some (vI x5), some (vI ((w32 x3 / ((2 : Int) ^ (x5 % 32).toNat)) % 2)), some (vI ((256 * x1) + x4)), some (vL ((Int.tdiv (w64 (S.2.1 367 64)) (w64 2048)) * (w32 (S.1 405 (w32 ((256 * x1) + x4)))))), none, none], [vI ((256 * x1) + x4), .ref 405, vI 2048, vI ((wJ S 367 64 ((Int.tdiv (w64 (S.2.1 367 64)) (w64 2048)) * (w32 (S.1 405 (w32 ((256 * x1) + x4)))))).1 405 (w32 ((256 * x1) + x4))), vI ((256 * x1) + x4), .ref 405], hp (wJ S 367 64 ((Int.tdiv (w64 (S.2.1 367 64)) (w64 2048)) * (w32 (S.1 405 (w32 ((256 * x1) + x4)))))), 0, 0)) rfl ?_
      obtain ⟨b10, F⟩ := F
      refine mv_ial rfl (sh_405) b10 ?_
      refine mv_isub rfl ?_
      refine ev_bk 1 (S' := (149, [some (.ref 367), some (vI x1), some (vI x2), some (vI x3), some (vI x4), some (vI x5), some (vI ((w32 x3 / ((2 : Int) ^ (x5 % 32).toNat)) % 2)), some (vI ((256 * x1) + x4)), some (vL ((Int.tdiv (w64 (S.2.1 367 64)) (w64 2048)) * (w32 (S.1 405 (w32 ((256 * x1) + x4)))))), none, none], [vI 32, vI (2048 - ((wJ S 367 64 ((Int.tdiv (w64 (S.2.1 367 64)) (w64 2048)) * (w32 (S.1 405 (w32 ((256 * x1) + x4)))))).1 405 (w32 ((256 * x1) + x4)))), vI ((wJ S 367 64 ((Int.tdiv (w64 (S.2.1 367 64)) (w64 2048)) * (w32 (S.1 405 (w32 ((256 * x1) + x4)))))).1 405 (w32 ((256 * x1) + x4))), vI ((256 * x1) + x4), .ref 405], hp (wJ S 367 64 ((Int.tdiv (w64 (S.2.1 367 64)) (w64 2048)) * (w32 (S.1 405 (w32 ((256 * x1) + x4)))))), 0, 0)) rfl ?_
      refine mv_idiv (by decide) rfl ?_
      refine mv_iadd rfl ?_
      obtain ⟨b11, F⟩ := F
      refine mv_ias rfl (sh_405) b11 ?_
      have F := F _ rfl
      refine mv_goto 197 rfl rfl ?_
      exact F
theorem vc_MD_packOdds_197 {q : Nat × (Nat → Int32)} {S S' : ms} {r : Option Value} (x1 x2 x3 x4 x5 x6 x7 x8 : Int)
    (F : ((w64 (S.2.1 367 63) ≤ w64 4294967295) → EV q 326 265 [some (.ref 367), some (vI x1), some (vI x2), some (vI x3), some (vI x4), some (vI x5), some (vI x6), some (vI x7), some (vL x8), none, none] [] S r S') ∧ ((¬ w64 (S.2.1 367 63) ≤ w64 4294967295) → ∀ S1 : ms, S1 = wJ S 367 63 ((S.2.1 367 63) % 4294967296) → EV q 326 228 [some (.ref 367), some (vI x1), some (vI x2), some (vI x3), some (vI x4), some (vI x5), some (vI x6), some (vI x7), some (vL x8), none, some (vI ((S1.1 367 9) - 1))] [] S1 r S')) : EV q 326 197 [some (.ref 367), some (vI x1), some (vI x2), some (vI x3), some (vI x4), some (vI x5), some (vI x6), some (vI x7), some (vL x8), none, none] [] S r S' := by
  unfold EV
  refine ev_bk 1 (S' := (198, [some (.ref 367), some (vI x1), some (vI x2), some (vI x3), some (vI x4), some (vI x5), some (vI x6), some (vI x7), some (vL x8), none, none], [.ref 367], hp S, 0, 0)) rfl ?_
  refine mv_gfJ rfl rfl (sh_367) (by decide) rfl ?_
  refine ev_bk 1 (S' := (204, [some (.ref 367), some (vI x1), some (vI x2), some (vI x3), some (vI x4), some (vI x5), some (vI x6), some (vI x7), some (vL x8), none, none], [vL 4294967295, vL (S.2.1 367 63)], hp S, 0, 0)) rfl ?_
  refine mv_lif 265 rfl rfl rfl (fun c => ?_) (fun c => ?_)
  · have F := F.1 c
    exact F
  · have F := F.2 c
    refine ev_bk 2 (S' := (210, [some (.ref 367), some (vI x1), some (vI x2), some (vI x3), some (vI x4), some (vI x5), some (vI x6), some (vI x7), some (vL x8), none, none], [.ref 367, .ref 367], hp S, 0, 0)) rfl ?_
    refine mv_gfJ rfl rfl (sh_367) (by decide) rfl ?_
    refine ev_bk 1 (S' := (216, [some (.ref 367), some (vI x1), some (vI x2), some (vI x3), some (vI x4), some (vI x5), some (vI x6), some (vI x7), some (vL x8), none, none], [vL 4294967295, vL (S.2.1 367 63), .ref 367], hp S, 0, 0)) rfl ?_
    refine mv_landm 4294967296 32 (by decide) rfl rfl rfl ?_
    refine mv_pfJ rfl rfl (sh_367) (by decide) rfl rfl ?_
    have F := F _ rfl
    refine ev_bk 1 (S' := (221, [some (.ref 367), some (vI x1), some (vI x2), some (vI x3), some (vI x4), some (vI x5), some (vI x6), some (vI x7), some (vL x8), none, none], [.ref 367], hp (wJ S 367 63 ((S.2.1 367 63) % 4294967296)), 0, 0)) rfl ?_
    refine mv_gfI rfl rfl (sh_367) (by decide) rfl ?_
    refine ev_bk 1 (S' := (225, [some (.ref 367), some (vI x1), some (vI x2), some (vI x3), some (vI x4), some (vI x5), some (vI x6), some (vI x7), some (vL x8), none, none], [vI 1, vI ((wJ S 367 63 ((S.2.1 367 63) % 4294967296)).1 367 9)], hp (wJ S 367 63 ((S.2.1 367 63) % 4294967296)), 0, 0)) rfl ?_
    refine mv_isub rfl ?_
    refine ev_bk 1 (S' := (228, [some (.ref 367), some (vI x1), some (vI x2), some (vI x3), some (vI x4), some (vI x5), some (vI x6), some (vI x7), some (vL x8), none, some (vI (((wJ S 367 63 ((S.2.1 367 63) % 4294967296)).1 367 9) - 1))], [], hp (wJ S 367 63 ((S.2.1 367 63) % 4294967296)), 0, 0)) rfl ?_
    exact F
theorem vc_MD_packOdds_228 {q : Nat × (Nat → Int32)} {S S' : ms} {r : Option Value} (x1 x2 x3 x4 x5 x6 x7 x8 x10 : Int)
    (F : (0 ≤ w32 x10 ∧ w32 x10 < (30000 : Nat)) ∧ ((¬ w32 (S.1 374 (w32 x10)) = (-1)) → (0 ≤ w32 x10 ∧ w32 x10 < (30000 : Nat)) ∧ (0 ≤ w32 x10 ∧ w32 x10 < (30000 : Nat)) ∧ ∀ S4 : ms, S4 = wI S 374 (w32 x10) (b8 (b8 ((S.1 374 (w32 x10)) + 1))) → EV q 326 265 [some (.ref 367), some (vI x1), some (vI x2), some (vI x3), some (vI x4), some (vI x5), some (vI x6), some (vI x7), some (vL x8), none, none] [] S4 r S') ∧ ((¬ (¬ w32 (S.1 374 (w32 x10)) = (-1))) → (0 ≤ w32 x10 ∧ w32 x10 < (30000 : Nat)) ∧ ∀ S6 : ms, S6 = wI S 374 (w32 x10) (b8 0) → EV q 326 228 [some (.ref 367), some (vI x1), some (vI x2), some (vI x3), some (vI x4), some (vI x5), some (vI x6), some (vI x7), some (vL x8), none, some (vI (x10 - 1))] [] S6 r S')) : EV q 326 228 [some (.ref 367), some (vI x1), some (vI x2), some (vI x3), some (vI x4), some (vI x5), some (vI x6), some (vI x7), some (vL x8), none, some (vI x10)] [] S r S' := by
  unfold EV
  refine ev_bk 1 (S' := (229, [some (.ref 367), some (vI x1), some (vI x2), some (vI x3), some (vI x4), some (vI x5), some (vI x6), some (vI x7), some (vL x8), none, some (vI x10)], [.ref 367], hp S, 0, 0)) rfl ?_
  refine mv_gfR rfl rfl (sh_367) (by decide) rfl ?_
  refine ev_bk 1 (S' := (234, [some (.ref 367), some (vI x1), some (vI x2), some (vI x3), some (vI x4), some (vI x5), some (vI x6), some (vI x7), some (vL x8), none, some (vI x10)], [vI x10, .ref 374], hp S, 0, 0)) rfl ?_
  obtain ⟨b1, F⟩ := F
  refine mv_bal rfl (sh_374) b1 ?_
  refine ev_bk 1 (S' := (236, [some (.ref 367), some (vI x1), some (vI x2), some (vI x3), some (vI x4), some (vI x5), some (vI x6), some (vI x7), some (vL x8), none, some (vI x10)], [vI ((-1)), vI (S.1 374 (w32 x10))], hp S, 0, 0)) rfl ?_
  refine mv_icmp 253 rfl rfl (fun c => ?_) (fun c => ?_)
  · have F := F.1 c
    refine ev_bk 1 (S' := (254, [some (.ref 367), some (vI x1), some (vI x2), some (vI x3), some (vI x4), some (vI x5), some (vI x6), some (vI x7), some (vL x8), none, some (vI x10)], [.ref 367], hp S, 0, 0)) rfl ?_
    refine mv_gfR rfl rfl (sh_367) (by decide) rfl ?_
    refine ev_bk 2 (S' := (260, [some (.ref 367), some (vI x1), some (vI x2), some (vI x3), some (vI x4), some (vI x5), some (vI x6), some (vI x7), some (vL x8), none, some (vI x10)], [vI x10, .ref 374, vI x10, .ref 374], hp S, 0, 0)) rfl ?_
    obtain ⟨b2, F⟩ := F
    refine mv_bal rfl (sh_374) b2 ?_
    refine ev_bk 1 (S' := (262, [some (.ref 367), some (vI x1), some (vI x2), some (vI x3), some (vI x4), some (vI x5), some (vI x6), some (vI x7), some (vL x8), none, some (vI x10)], [vI 1, vI (S.1 374 (w32 x10)), vI x10, .ref 374], hp S, 0, 0)) rfl ?_
    refine mv_iadd rfl ?_
    refine mv_i2b rfl ?_
    obtain ⟨b3, F⟩ := F
    refine mv_bas rfl (sh_374) b3 ?_
    have F := F _ rfl
    exact ev_wk (le_s (le_s (le_s (le_s (le_s (le_s (le_s (le_s (le_s (le_s (le_n le_0))))))))))) F
  · have F := F.2 c
    refine ev_bk 1 (S' := (240, [some (.ref 367), some (vI x1), some (vI x2), some (vI x3), some (vI x4), some (vI x5), some (vI x6), some (vI x7), some (vL x8), none, some (vI x10)], [.ref 367], hp S, 0, 0)) rfl ?_
    refine mv_gfR rfl rfl (sh_367) (by decide) rfl ?_
    refine ev_bk 2 (S' := (246, [some (.ref 367), some (vI x1), some (vI x2), some (vI x3), some (vI x4), some (vI x5), some (vI x6), some (vI x7), some (vL x8), none, some (vI x10)], [vI 0, vI x10, .ref 374], hp S, 0, 0)) rfl ?_
    obtain ⟨b5, F⟩ := F
    refine mv_bas rfl (sh_374) b5 ?_
    have F := F _ rfl
    refine mv_inc (lv' := [some (.ref 367), some (vI x1), some (vI x2), some (vI x3), some (vI x4), some (vI x5), some (vI x6), some (vI x7), some (vL x8), none, some (vI (x10 - 1))]) 10 (-1) rfl rfl rfl (by omega) ?_
    refine mv_goto 228 rfl rfl ?_
    exact F
theorem vc_MD_packOdds_265 {q : Nat × (Nat → Int32)} {S S' : ms} {r : Option Value} (x1 x2 x3 x4 x5 x6 x7 x8 : Int)
    (F : ∃ (S1 : ms), EV q 327 0 [some (.ref 367)] [] S none S1 ∧ EV q 326 75 [some (.ref 367), some (vI x1), some (vI x2), some (vI x3), some (vI ((2 * x4) + x6)), some (vI (x5 - 1)), none, none, none, none, none] [] S1 r S') : EV q 326 265 [some (.ref 367), some (vI x1), some (vI x2), some (vI x3), some (vI x4), some (vI x5), some (vI x6), some (vI x7), some (vL x8), none, none] [] S r S' := by
  unfold EV
  refine ev_bk 1 (S' := (266, [some (.ref 367), some (vI x1), some (vI x2), some (vI x3), some (vI x4), some (vI x5), some (vI x6), some (vI x7), some (vL x8), none, none], [.ref 367], hp S, 0, 0)) rfl ?_
  obtain ⟨S1, e2, F⟩ := F
  refine mv_calv (as := []) (rest := []) e2 (sh_367) rfl rfl rfl ⟨rfl, rfl⟩ rfl rfl rfl rfl rfl ?_
  refine ev_bk 2 (S' := (272, [some (.ref 367), some (vI x1), some (vI x2), some (vI x3), some (vI x4), some (vI x5), some (vI x6), some (vI x7), some (vL x8), none, none], [vI x4, vI 2], hp S1, 0, 0)) rfl ?_
  refine mv_imul rfl ?_
  refine ev_bk 1 (S' := (275, [some (.ref 367), some (vI x1), some (vI x2), some (vI x3), some (vI x4), some (vI x5), some (vI x6), some (vI x7), some (vL x8), none, none], [vI x6, vI (2 * x4)], hp S1, 0, 0)) rfl ?_
  refine mv_iadd rfl ?_
  refine ev_bk 1 (S' := (278, [some (.ref 367), some (vI x1), some (vI x2), some (vI x3), some (vI ((2 * x4) + x6)), some (vI x5), some (vI x6), some (vI x7), some (vL x8), none, none], [], hp S1, 0, 0)) rfl ?_
  refine mv_inc (lv' := [some (.ref 367), some (vI x1), some (vI x2), some (vI x3), some (vI ((2 * x4) + x6)), some (vI (x5 - 1)), some (vI x6), some (vI x7), some (vL x8), none, none]) 5 (-1) rfl rfl rfl (by omega) ?_
  refine mv_goto 75 rfl rfl ?_
  exact ev_wk (le_s (le_s (le_s (le_s (le_s (le_s (le_n (le_n (le_n (le_s (le_s le_0))))))))))) F
theorem vc_MD_shift {q : Nat × (Nat → Int32)} {S S' : ms} {r : Option Value}
    (F : ((w64 16777216 ≤ w64 (S.2.1 367 64)) → r = none ∧ S' = S) ∧ ((¬ w64 16777216 ≤ w64 (S.2.1 367 64)) → ∃ (S1 : ms), EV q 282 0 [some (.ref 367), some (vI (w64 (S.2.1 367 63) / 16777216))] [] S none S1 ∧ ∀ S3 : ms, S3 = wJ S1 367 63 (((S1.2.1 367 63) * 256) % 4294967296) → ∀ S4 : ms, S4 = wJ S3 367 64 ((S3.2.1 367 64) * 256) → EV q 327 0 [some (.ref 367)] [] S4 r S')) : EV q 327 0 [some (.ref 367)] [] S r S' := by
  unfold EV
  refine ev_bk 1 (S' := (1, [some (.ref 367)], [.ref 367], hp S, 0, 0)) rfl ?_
  refine mv_gfJ rfl rfl (sh_367) (by decide) rfl ?_
  refine ev_bk 1 (S' := (7, [some (.ref 367)], [vL 16777216, vL (S.2.1 367 64)], hp S, 0, 0)) rfl ?_
  refine mv_lif 52 rfl rfl rfl (fun c => ?_) (fun c => ?_)
  · have F := F.1 c
    obtain ⟨rfl, rfl⟩ := F
    exact ev_ret rfl rfl
  · have F := F.2 c
    refine ev_bk 2 (S' := (13, [some (.ref 367)], [.ref 367, .ref 367], hp S, 0, 0)) rfl ?_
    refine mv_gfJ rfl rfl (sh_367) (by decide) rfl ?_
    refine ev_bk 1 (S' := (18, [some (.ref 367)], [vI 24, vL (S.2.1 367 63), .ref 367], hp S, 0, 0)) rfl ?_
    refine mv_lshr 16777216 rfl rfl ?_
    refine mv_l2i rfl ?_
    obtain ⟨S1, e2, F⟩ := F
    refine mv_calv (as := [vI (w64 (S.2.1 367 63) / 16777216)]) (rest := []) e2 (sh_367) rfl rfl rfl ⟨rfl, rfl⟩ rfl rfl rfl rfl rfl ?_
    refine ev_bk 2 (S' := (25, [some (.ref 367)], [.ref 367, .ref 367], hp S1, 0, 0)) rfl ?_
    refine mv_gfJ rfl rfl (sh_367) (by decide) rfl ?_
    refine ev_bk 1 (S' := (30, [some (.ref 367)], [vI 8, vL (S1.2.1 367 63), .ref 367], hp S1, 0, 0)) rfl ?_
    refine mv_lshl 256 rfl rfl ?_
    refine ev_bk 1 (S' := (34, [some (.ref 367)], [vL 4294967295, vL ((S1.2.1 367 63) * 256), .ref 367], hp S1, 0, 0)) rfl ?_
    refine mv_landm 4294967296 32 (by decide) rfl rfl rfl ?_
    refine mv_pfJ rfl rfl (sh_367) (by decide) rfl rfl ?_
    have F := F _ rfl
    refine ev_bk 2 (S' := (40, [some (.ref 367)], [.ref 367, .ref 367], hp (wJ S1 367 63 (((S1.2.1 367 63) * 256) % 4294967296)), 0, 0)) rfl ?_
    refine mv_gfJ rfl rfl (sh_367) (by decide) rfl ?_
    refine ev_bk 1 (S' := (45, [some (.ref 367)], [vI 8, vL ((wJ S1 367 63 (((S1.2.1 367 63) * 256) % 4294967296)).2.1 367 64), .ref 367], hp (wJ S1 367 63 (((S1.2.1 367 63) * 256) % 4294967296)), 0, 0)) rfl ?_
    refine mv_lshl 256 rfl rfl ?_
    refine mv_pfJ rfl rfl (sh_367) (by decide) rfl rfl ?_
    have F := F _ rfl
    refine mv_goto 0 rfl rfl ?_
    exact F
theorem vc_MD_newStream {q : Nat × (Nat → Int32)} {S S' : ms} {r : Option Value} (x2 x3 : Int) (a1 na1 : Nat) (ha1 : SH a1 = (1, na1, []))
    (F : ∃ (z3 : Int) (S1 : ms), EV q 277 0 [some (.ref 367), none] [] S (some (vI z3)) S1 ∧ (0 ≤ w32 z3 ∧ w32 z3 < (13 : Nat)) ∧ ∀ S5 : ms, S5 = wI S1 371 (w32 z3) (1 % 2) → (0 ≤ w32 z3 ∧ w32 z3 < (13 : Nat)) ∧ ∀ S7 : ms, S7 = wI S5 370 (w32 z3) x3 → EV q 328 25 [some (.ref 367), some (.ref a1), some (vI x2), some (vI x3), some (vI z3), some (vI 0)] [] S7 r S') : EV q 328 0 [some (.ref 367), some (.ref a1), some (vI x2), some (vI x3), none, none] [] S r S' := by
  unfold EV
  refine ev_bk 1 (S' := (1, [some (.ref 367), some (.ref a1), some (vI x2), some (vI x3), none, none], [.ref 367], hp S, 0, 0)) rfl ?_
  obtain ⟨z3, S1, e2, F⟩ := F
  refine mv_calv (as := []) (rest := []) e2 (sh_367) rfl rfl rfl ⟨rfl, rfl⟩ rfl rfl rfl rfl rfl ?_
  refine ev_bk 2 (S' := (7, [some (.ref 367), some (.ref a1), some (vI x2), some (vI x3), some (vI z3), none], [.ref 367], hp S1, 0, 0)) rfl ?_
  refine mv_gfR rfl rfl (sh_367) (by decide) rfl ?_
  refine ev_bk 2 (S' := (13, [some (.ref 367), some (.ref a1), some (vI x2), some (vI x3), some (vI z3), none], [vI 1, vI z3, .ref 371], hp S1, 0, 0)) rfl ?_
  obtain ⟨b4, F⟩ := F
  refine mv_zas rfl (sh_371) b4 ?_
  have F := F _ rfl
  refine ev_bk 1 (S' := (15, [some (.ref 367), some (.ref a1), some (vI x2), some (vI x3), some (vI z3), none], [.ref 367], hp (wI S1 371 (w32 z3) (1 % 2)), 0, 0)) rfl ?_
  refine mv_gfR rfl rfl (sh_367) (by decide) rfl ?_
  refine ev_bk 2 (S' := (21, [some (.ref 367), some (.ref a1), some (vI x2), some (vI x3), some (vI z3), none], [vI x3, vI z3, .ref 370], hp (wI S1 371 (w32 z3) (1 % 2)), 0, 0)) rfl ?_
  obtain ⟨b6, F⟩ := F
  refine mv_ias rfl (sh_370) b6 ?_
  have F := F _ rfl
  refine ev_bk 2 (S' := (25, [some (.ref 367), some (.ref a1), some (vI x2), some (vI x3), some (vI z3), some (vI 0)], [], hp (wI (wI S1 371 (w32 z3) (1 % 2)) 370 (w32 z3) x3), 0, 0)) rfl ?_
  exact F
theorem vc_MD_newStream_25 {q : Nat × (Nat → Int32)} {S S' : ms} {r : Option Value} (x2 x3 x4 x5 : Int) (a1 na1 : Nat) (ha1 : SH a1 = (1, na1, []))
    (F : ((w32 x3 ≤ w32 x5) → r = some (vI x4) ∧ S' = S) ∧ ((¬ w32 x3 ≤ w32 x5) → (0 ≤ w32 (x2 + x5) ∧ w32 (x2 + x5) < (na1 : Nat)) ∧ (0 ≤ w32 ((12000 * x4) + x5) ∧ w32 ((12000 * x4) + x5) < (156000 : Nat)) ∧ ∀ S3 : ms, S3 = wI S 369 (w32 ((12000 * x4) + x5)) (b8 (S.1 a1 (w32 (x2 + x5)))) → EV q 328 25 [some (.ref 367), some (.ref a1), some (vI x2), some (vI x3), some (vI x4), some (vI (x5 + 1))] [] S3 r S')) : EV q 328 25 [some (.ref 367), some (.ref a1), some (vI x2), some (vI x3), some (vI x4), some (vI x5)] [] S r S' := by
  unfold EV
  refine ev_bk 2 (S' := (28, [some (.ref 367), some (.ref a1), some (vI x2), some (vI x3), some (vI x4), some (vI x5)], [vI x3, vI x5], hp S, 0, 0)) rfl ?_
  refine mv_icmp 57 rfl rfl (fun c => ?_) (fun c => ?_)
  · have F := F.1 c
    refine ev_bk 1 (S' := (59, [some (.ref 367), some (.ref a1), some (vI x2), some (vI x3), some (vI x4), some (vI x5)], [vI x4], hp S, 0, 0)) rfl ?_
    obtain ⟨rfl, rfl⟩ := F
    exact ev_ret rfl rfl
  · have F := F.2 c
    refine ev_bk 1 (S' := (32, [some (.ref 367), some (.ref a1), some (vI x2), some (vI x3), some (vI x4), some (vI x5)], [.ref 367], hp S, 0, 0)) rfl ?_
    refine mv_gfR rfl rfl (sh_367) (by decide) rfl ?_
    refine ev_bk 2 (S' := (40, [some (.ref 367), some (.ref a1), some (vI x2), some (vI x3), some (vI x4), some (vI x5)], [vI x4, vI 12000, .ref 369], hp S, 0, 0)) rfl ?_
    refine mv_imul rfl ?_
    refine ev_bk 1 (S' := (43, [some (.ref 367), some (.ref a1), some (vI x2), some (vI x3), some (vI x4), some (vI x5)], [vI x5, vI (12000 * x4), .ref 369], hp S, 0, 0)) rfl ?_
    refine mv_iadd rfl ?_
    refine ev_bk 3 (S' := (48, [some (.ref 367), some (.ref a1), some (vI x2), some (vI x3), some (vI x4), some (vI x5)], [vI x5, vI x2, .ref a1, vI ((12000 * x4) + x5), .ref 369], hp S, 0, 0)) rfl ?_
    refine mv_iadd rfl ?_
    obtain ⟨b1, F⟩ := F
    refine mv_bal rfl (ha1) b1 ?_
    obtain ⟨b2, F⟩ := F
    refine mv_bas rfl (sh_369) b2 ?_
    have F := F _ rfl
    refine mv_inc (lv' := [some (.ref 367), some (.ref a1), some (vI x2), some (vI x3), some (vI x4), some (vI (x5 + 1))]) 5 1 rfl rfl rfl rfl ?_
    refine mv_goto 25 rfl rfl ?_
    exact F
theorem vc_MD_open {q : Nat × (Nat → Int32)} {S S' : ms} {r : Option Value} (x1 : Int)
    (F : ∀ S1 : ms, S1 = wI S 367 0 0 → ∃ (z4 : Int) (S2 : ms), EV q 257 0 [some (vI x1), some (vI 1), some (vI 10)] [] S1 (some (vI z4)) S2 ∧ ((¬ w32 z4 = 0) → ∃ (z7 : Int) (S5 : ms), EV q 277 0 [some (.ref 367), none] [] S2 (some (vI z7)) S5 ∧ ((0 ≤ w32 z7) → ∃ (S8 : ms), EV q 330 0 [some (.ref 367)] [] S5 none S8 ∧ ((w32 x1 = 1) → ∃ (S12 : ms), EV q 332 0 [some (.ref 367), none, none, none] [] S8 none S12 ∧ EV q 329 160 [some (.ref 367), some (vI x1), none] [] S12 r S') ∧ ((w32 x1 = 2) → ∃ (S14 : ms), EV q 338 0 [some (.ref 367), none, none, none, none, none, none, none, none, none, none] [] S8 none S14 ∧ EV q 329 160 [some (.ref 367), some (vI x1), none] [] S14 r S') ∧ ((w32 x1 = 3) → ∃ (S16 : ms), EV q 343 0 [some (.ref 367), some (vL 32768), none, none, none] [] S8 none S16 ∧ ∃ (S18 : ms), EV q 341 0 [some (.ref 367)] [] S16 none S18 ∧ EV q 329 160 [some (.ref 367), some (vI x1), none] [] S18 r S') ∧ ((w32 x1 = 4) → ∃ (S20 : ms), EV q 351 0 [some (.ref 367), none, none, none, none] [] S8 none S20 ∧ EV q 329 160 [some (.ref 367), some (vI x1), none] [] S20 r S') ∧ ((w32 x1 = 5) → ∃ (S22 : ms), EV q 353 0 [some (.ref 367), none, none, none, none, none, none] [] S8 none S22 ∧ EV q 329 160 [some (.ref 367), some (vI x1), none] [] S22 r S') ∧ ((w32 x1 = 6) → ∃ (S24 : ms), EV q 356 0 [some (.ref 367), some (vI 0), some (vI 0), none, none, none, none, none, none, none, none] [] S8 none S24 ∧ EV q 329 160 [some (.ref 367), some (vI x1), none] [] S24 r S') ∧ ((w32 x1 = 7) → ∃ (S26 : ms), EV q 358 0 [some (.ref 367), none, none, none, none, none, none, none, none, none] [] S8 none S26 ∧ EV q 329 160 [some (.ref 367), some (vI x1), none] [] S26 r S') ∧ ((w32 x1 = 8) → ∃ (S28 : ms), EV q 360 0 [some (.ref 367), none, none, none, none, none, none, none, none, none] [] S8 none S28 ∧ EV q 329 160 [some (.ref 367), some (vI x1), none] [] S28 r S') ∧ ((w32 x1 = 9) → ∃ (S30 : ms), EV q 362 0 [some (.ref 367), none, none, none, none, none, none, none] [] S8 none S30 ∧ EV q 329 160 [some (.ref 367), some (vI x1), none] [] S30 r S') ∧ ((¬ w32 x1 = 1) → (¬ w32 x1 = 2) → (¬ w32 x1 = 3) → (¬ w32 x1 = 4) → (¬ w32 x1 = 5) → (¬ w32 x1 = 6) → (¬ w32 x1 = 7) → (¬ w32 x1 = 8) → (¬ w32 x1 = 9) → ∃ (S10 : ms), EV q 367 0 [some (.ref 367), none, none, none, none, none, none, none, none, none, none, none, none, none] [] S8 none S10 ∧ EV q 329 160 [some (.ref 367), some (vI x1), none] [] S10 r S')) ∧ ((¬ 0 ≤ w32 z7) → r = some (vI ((-4))) ∧ S' = S5)) ∧ ((¬ (¬ w32 z4 = 0)) → r = some (vI ((-2))) ∧ S' = S2)) : EV q 329 0 [some (.ref 367), some (vI x1), none] [] S r S' := by
  unfold EV
  refine ev_bk 2 (S' := (2, [some (.ref 367), some (vI x1), none], [vI 0, .ref 367], hp S, 0, 0)) rfl ?_
  refine mv_pfI rfl rfl (sh_367) (by decide) rfl rfl ?_
  have F := F _ rfl
  refine ev_bk 3 (S' := (9, [some (.ref 367), some (vI x1), none], [vI 10, vI 1, vI x1], hp (wI S 367 0 0), 0, 0)) rfl ?_
  obtain ⟨z4, S2, e3, F⟩ := F
  refine mv_cals (as := [vI x1, vI 1, vI 10]) (rest := []) e3 rfl rfl rfl ⟨rfl, rfl, rfl⟩ rfl rfl rfl rfl ?_
  refine mv_if 18 rfl rfl (fun c => ?_) (fun c => ?_)
  · have F := F.1 c
    refine ev_bk 1 (S' := (19, [some (.ref 367), some (vI x1), none], [.ref 367], hp S2, 0, 0)) rfl ?_
    obtain ⟨z7, S5, e6, F⟩ := F
    refine mv_calv (as := []) (rest := []) e6 (sh_367) rfl rfl rfl ⟨rfl, rfl⟩ rfl rfl rfl rfl rfl ?_
    refine mv_if 28 rfl rfl (fun c => ?_) (fun c => ?_)
    · have F := F.1 c
      refine ev_bk 1 (S' := (29, [some (.ref 367), some (vI x1), none], [.ref 367], hp S5, 0, 0)) rfl ?_
      obtain ⟨S8, e9, F⟩ := F
      refine mv_calv (as := []) (rest := []) e9 (sh_367) rfl rfl rfl ⟨rfl, rfl⟩ rfl rfl rfl rfl rfl ?_
      refine ev_bk 1 (S' := (33, [some (.ref 367), some (vI x1), none], [vI x1], hp S8, 0, 0)) rfl ?_
      by_cases d0 : w32 x1 < 1
      · have F := F.2.2.2.2.2.2.2.2.2 (ts_lo d0 (by decide)) (ts_lo d0 (by decide)) (ts_lo d0 (by decide)) (ts_lo d0 (by decide)) (ts_lo d0 (by decide)) (ts_lo d0 (by decide)) (ts_lo d0 (by decide)) (ts_lo d0 (by decide)) (ts_lo d0 (by decide))
        refine mv_tout 156 (Or.inl d0) rfl rfl ?_
        refine ev_bk 1 (S' := (157, [some (.ref 367), some (vI x1), none], [.ref 367], hp S8, 0, 0)) rfl ?_
        obtain ⟨S10, e11, F⟩ := F
        refine mv_calv (as := []) (rest := []) e11 (sh_367) rfl rfl rfl ⟨rfl, rfl⟩ rfl rfl rfl rfl rfl ?_
        exact F
      by_cases d1 : w32 x1 < 2
      · have e := ts_eq d0 d1
        have F := F.1 e
        refine mv_tin 84 1 e rfl (by decide) rfl rfl ?_
        refine ev_bk 1 (S' := (85, [some (.ref 367), some (vI x1), none], [.ref 367], hp S8, 0, 0)) rfl ?_
        obtain ⟨S12, e13, F⟩ := F
        refine mv_calv (as := []) (rest := []) e13 (sh_367) rfl rfl rfl ⟨rfl, rfl⟩ rfl rfl rfl rfl rfl ?_
        refine mv_goto 160 rfl rfl ?_
        exact F
      by_cases d2 : w32 x1 < 3
      · have e := ts_eq d1 d2
        have F := F.2.1 e
        refine mv_tin 91 2 e rfl (by decide) rfl rfl ?_
        refine ev_bk 1 (S' := (92, [some (.ref 367), some (vI x1), none], [.ref 367], hp S8, 0, 0)) rfl ?_
        obtain ⟨S14, e15, F⟩ := F
        refine mv_calv (as := []) (rest := []) e15 (sh_367) rfl rfl rfl ⟨rfl, rfl⟩ rfl rfl rfl rfl rfl ?_
        refine mv_goto 160 rfl rfl ?_
        exact F
      by_cases d3 : w32 x1 < 4
      · have e := ts_eq d2 d3
        have F := F.2.2.1 e
        refine mv_tin 98 3 e rfl (by decide) rfl rfl ?_
        refine ev_bk 2 (S' := (102, [some (.ref 367), some (vI x1), none], [vL 32768, .ref 367], hp S8, 0, 0)) rfl ?_
        obtain ⟨S16, e17, F⟩ := F
        refine mv_calv (as := [vL 32768]) (rest := []) e17 (sh_367) rfl rfl rfl ⟨rfl, rfl⟩ rfl rfl rfl rfl rfl ?_
        refine ev_bk 1 (S' := (106, [some (.ref 367), some (vI x1), none], [.ref 367], hp S16, 0, 0)) rfl ?_
        obtain ⟨S18, e19, F⟩ := F
        refine mv_calv (as := []) (rest := []) e19 (sh_367) rfl rfl rfl ⟨rfl, rfl⟩ rfl rfl rfl rfl rfl ?_
        refine mv_goto 160 rfl rfl ?_
        exact F
      by_cases d4 : w32 x1 < 5
      · have e := ts_eq d3 d4
        have F := F.2.2.2.1 e
        refine mv_tin 112 4 e rfl (by decide) rfl rfl ?_
        refine ev_bk 1 (S' := (113, [some (.ref 367), some (vI x1), none], [.ref 367], hp S8, 0, 0)) rfl ?_
        obtain ⟨S20, e21, F⟩ := F
        refine mv_calv (as := []) (rest := []) e21 (sh_367) rfl rfl rfl ⟨rfl, rfl⟩ rfl rfl rfl rfl rfl ?_
        refine mv_goto 160 rfl rfl ?_
        exact F
      by_cases d5 : w32 x1 < 6
      · have e := ts_eq d4 d5
        have F := F.2.2.2.2.1 e
        refine mv_tin 119 5 e rfl (by decide) rfl rfl ?_
        refine ev_bk 1 (S' := (120, [some (.ref 367), some (vI x1), none], [.ref 367], hp S8, 0, 0)) rfl ?_
        obtain ⟨S22, e23, F⟩ := F
        refine mv_calv (as := []) (rest := []) e23 (sh_367) rfl rfl rfl ⟨rfl, rfl⟩ rfl rfl rfl rfl rfl ?_
        refine mv_goto 160 rfl rfl ?_
        exact F
      by_cases d6 : w32 x1 < 7
      · have e := ts_eq d5 d6
        have F := F.2.2.2.2.2.1 e
        refine mv_tin 126 6 e rfl (by decide) rfl rfl ?_
        refine ev_bk 3 (S' := (129, [some (.ref 367), some (vI x1), none], [vI 0, vI 0, .ref 367], hp S8, 0, 0)) rfl ?_
        obtain ⟨S24, e25, F⟩ := F
        refine mv_calv (as := [vI 0, vI 0]) (rest := []) e25 (sh_367) rfl rfl rfl ⟨rfl, rfl⟩ rfl rfl rfl rfl rfl ?_
        refine mv_goto 160 rfl rfl ?_
        exact F
      by_cases d7 : w32 x1 < 8
      · have e := ts_eq d6 d7
        have F := F.2.2.2.2.2.2.1 e
        refine mv_tin 135 7 e rfl (by decide) rfl rfl ?_
        refine ev_bk 1 (S' := (136, [some (.ref 367), some (vI x1), none], [.ref 367], hp S8, 0, 0)) rfl ?_
        obtain ⟨S26, e27, F⟩ := F
        refine mv_calv (as := []) (rest := []) e27 (sh_367) rfl rfl rfl ⟨rfl, rfl⟩ rfl rfl rfl rfl rfl ?_
        refine mv_goto 160 rfl rfl ?_
        exact F
      by_cases d8 : w32 x1 < 9
      · have e := ts_eq d7 d8
        have F := F.2.2.2.2.2.2.2.1 e
        refine mv_tin 142 8 e rfl (by decide) rfl rfl ?_
        refine ev_bk 1 (S' := (143, [some (.ref 367), some (vI x1), none], [.ref 367], hp S8, 0, 0)) rfl ?_
        obtain ⟨S28, e29, F⟩ := F
        refine mv_calv (as := []) (rest := []) e29 (sh_367) rfl rfl rfl ⟨rfl, rfl⟩ rfl rfl rfl rfl rfl ?_
        refine mv_goto 160 rfl rfl ?_
        exact F
      by_cases d9 : w32 x1 < 10
      · have e := ts_eq d8 d9
        have F := F.2.2.2.2.2.2.2.2.1 e
        refine mv_tin 149 9 e rfl (by decide) rfl rfl ?_
        refine ev_bk 1 (S' := (150, [some (.ref 367), some (vI x1), none], [.ref 367], hp S8, 0, 0)) rfl ?_
        obtain ⟨S30, e31, F⟩ := F
        refine mv_calv (as := []) (rest := []) e31 (sh_367) rfl rfl rfl ⟨rfl, rfl⟩ rfl rfl rfl rfl rfl ?_
        refine mv_goto 160 rfl rfl ?_
        exact F
      have F := F.2.2.2.2.2.2.2.2.2 (ts_hi d9 (by decide)) (ts_hi d9 (by decide)) (ts_hi d9 (by decide)) (ts_hi d9 (by decide)) (ts_hi d9 (by decide)) (ts_hi d9 (by decide)) (ts_hi d9 (by decide)) (ts_hi d9 (by decide)) (ts_hi d9 (by decide))
      refine mv_tout 156 (Or.inr (ts_gt (hi := 9) d9)) rfl rfl ?_
      refine ev_bk 1 (S' := (157, [some (.ref 367), some (vI x1), none], [.ref 367], hp S8, 0, 0)) rfl ?_
      obtain ⟨S10, e11, F⟩ := F
      refine mv_calv (as := []) (rest := []) e11 (sh_367) rfl rfl rfl ⟨rfl, rfl⟩ rfl rfl rfl rfl rfl ?_
      exact F
    · have F := F.2 c
      refine ev_bk 1 (S' := (27, [some (.ref 367), some (vI x1), none], [vI ((-4))], hp S5, 0, 0)) rfl ?_
      obtain ⟨rfl, rfl⟩ := F
      exact ev_ret rfl rfl
  · have F := F.2 c
    refine ev_bk 1 (S' := (17, [some (.ref 367), some (vI x1), none], [vI ((-2))], hp S2, 0, 0)) rfl ?_
    obtain ⟨rfl, rfl⟩ := F
    exact ev_ret rfl rfl
theorem vc_MD_open_160 {q : Nat × (Nat → Int32)} {S S' : ms} {r : Option Value} (x1 : Int)
    (F : ∃ (z3 : Int) (S1 : ms), EV q 368 0 [some (.ref 367), some (vI (S.1 367 22))] [] S (some (vI z3)) S1 ∧ ((w32 (S1.1 367 19) ≤ 0) → ∃ (z6 : Int) (S4 : ms), EV q 328 0 [some (.ref 367), some (.ref 375), some (vI 0), some (vI (S1.1 367 22)), none, none] [] S1 (some (vI z6)) S4 ∧ r = some (vI z6) ∧ S' = S4) ∧ ((¬ w32 (S1.1 367 19) ≤ 0) → r = some (vI z3) ∧ S' = S1)) : EV q 329 160 [some (.ref 367), some (vI x1), none] [] S r S' := by
  unfold EV
  refine ev_bk 2 (S' := (162, [some (.ref 367), some (vI x1), none], [.ref 367, .ref 367], hp S, 0, 0)) rfl ?_
  refine mv_gfI rfl rfl (sh_367) (by decide) rfl ?_
  obtain ⟨z3, S1, e2, F⟩ := F
  refine mv_calv (as := [vI (S.1 367 22)]) (rest := []) e2 (sh_367) rfl rfl rfl ⟨rfl, rfl⟩ rfl rfl rfl rfl rfl ?_
  refine ev_bk 2 (S' := (170, [some (.ref 367), some (vI x1), some (vI z3)], [.ref 367], hp S1, 0, 0)) rfl ?_
  refine mv_gfI rfl rfl (sh_367) (by decide) rfl ?_
  refine mv_if 180 rfl rfl (fun c => ?_) (fun c => ?_)
  · have F := F.1 c
    refine ev_bk 2 (S' := (182, [some (.ref 367), some (vI x1), some (vI z3)], [.ref 367, .ref 367], hp S1, 0, 0)) rfl ?_
    refine mv_gfR rfl rfl (sh_367) (by decide) rfl ?_
    refine ev_bk 2 (S' := (187, [some (.ref 367), some (vI x1), some (vI z3)], [.ref 367, vI 0, .ref 375, .ref 367], hp S1, 0, 0)) rfl ?_
    refine mv_gfI rfl rfl (sh_367) (by decide) rfl ?_
    obtain ⟨z6, S4, e5, F⟩ := F
    refine mv_calv (as := [.ref 375, vI 0, vI (S1.1 367 22)]) (rest := []) e5 (sh_367) rfl rfl rfl ⟨rfl, rfl⟩ rfl rfl rfl rfl rfl ?_
    obtain ⟨rfl, rfl⟩ := F
    exact ev_ret rfl rfl
  · have F := F.2 c
    refine ev_bk 1 (S' := (177, [some (.ref 367), some (vI x1), some (vI z3)], [vI z3], hp S1, 0, 0)) rfl ?_
    refine mv_goto 193 rfl rfl ?_
    obtain ⟨rfl, rfl⟩ := F
    exact ev_ret rfl rfl
theorem vc_MD_start {q : Nat × (Nat → Int32)} {S S' : ms} {r : Option Value}
    (F : ∀ S1 : ms, S1 = wI S 367 19 0 → ∀ S2 : ms, S2 = wI S1 367 20 0 → ∀ S3 : ms, S3 = wI S2 367 22 0 → ∀ S4 : ms, S4 = wI S3 367 18 0 → ∃ (S5 : ms), EV q 331 0 [some (.ref 367), some (.ref 368), some (vI 0), some (vI (S4.1 367 2))] [] S4 none S5 ∧ r = none ∧ S' = S5) : EV q 330 0 [some (.ref 367)] [] S r S' := by
  unfold EV
  refine ev_bk 2 (S' := (2, [some (.ref 367)], [vI 0, .ref 367], hp S, 0, 0)) rfl ?_
  refine mv_pfI rfl rfl (sh_367) (by decide) rfl rfl ?_
  have F := F _ rfl
  refine ev_bk 2 (S' := (7, [some (.ref 367)], [vI 0, .ref 367], hp (wI S 367 19 0), 0, 0)) rfl ?_
  refine mv_pfI rfl rfl (sh_367) (by decide) rfl rfl ?_
  have F := F _ rfl
  refine ev_bk 2 (S' := (12, [some (.ref 367)], [vI 0, .ref 367], hp (wI (wI S 367 19 0) 367 20 0), 0, 0)) rfl ?_
  refine mv_pfI rfl rfl (sh_367) (by decide) rfl rfl ?_
  have F := F _ rfl
  refine ev_bk 2 (S' := (17, [some (.ref 367)], [vI 0, .ref 367], hp (wI (wI (wI S 367 19 0) 367 20 0) 367 22 0), 0, 0)) rfl ?_
  refine mv_pfI rfl rfl (sh_367) (by decide) rfl rfl ?_
  have F := F _ rfl
  refine ev_bk 2 (S' := (22, [some (.ref 367)], [.ref 367, .ref 367], hp (wI (wI (wI (wI S 367 19 0) 367 20 0) 367 22 0) 367 18 0), 0, 0)) rfl ?_
  refine mv_gfR rfl rfl (sh_367) (by decide) rfl ?_
  refine ev_bk 2 (S' := (27, [some (.ref 367)], [.ref 367, vI 0, .ref 368, .ref 367], hp (wI (wI (wI (wI S 367 19 0) 367 20 0) 367 22 0) 367 18 0), 0, 0)) rfl ?_
  refine mv_gfI rfl rfl (sh_367) (by decide) rfl ?_
  obtain ⟨S5, e6, F⟩ := F
  refine mv_calv (as := [.ref 368, vI 0, vI ((wI (wI (wI (wI S 367 19 0) 367 20 0) 367 22 0) 367 18 0).1 367 2)]) (rest := []) e6 (sh_367) rfl rfl rfl ⟨rfl, rfl⟩ rfl rfl rfl rfl rfl ?_
  obtain ⟨rfl, rfl⟩ := F
  exact ev_ret rfl rfl
theorem vc_MD_readFrom {q : Nat × (Nat → Int32)} {S S' : ms} {r : Option Value} (x2 x3 : Int) (a1 na1 : Nat) (ha1 : SH a1 = (1, na1, []))
    (F : ∀ S1 : ms, S1 = wR S 367 13 a1 → ∀ S2 : ms, S2 = wI S1 367 14 x2 → ∀ S3 : ms, S3 = wI S2 367 16 x2 → ∀ S4 : ms, S4 = wI S3 367 15 x3 → ∀ S5 : ms, S5 = wI S4 367 17 0 → r = none ∧ S' = S5) : EV q 331 0 [some (.ref 367), some (.ref a1), some (vI x2), some (vI x3)] [] S r S' := by
  unfold EV
  refine ev_bk 2 (S' := (2, [some (.ref 367), some (.ref a1), some (vI x2), some (vI x3)], [.ref a1, .ref 367], hp S, 0, 0)) rfl ?_
  refine mv_pfR rfl rfl (sh_367) (by decide) rfl rfl ?_
  have F := F _ rfl
  refine ev_bk 2 (S' := (7, [some (.ref 367), some (.ref a1), some (vI x2), some (vI x3)], [vI x2, .ref 367], hp (wR S 367 13 a1), 0, 0)) rfl ?_
  refine mv_pfI rfl rfl (sh_367) (by decide) rfl rfl ?_
  have F := F _ rfl
  refine ev_bk 2 (S' := (12, [some (.ref 367), some (.ref a1), some (vI x2), some (vI x3)], [vI x2, .ref 367], hp (wI (wR S 367 13 a1) 367 14 x2), 0, 0)) rfl ?_
  refine mv_pfI rfl rfl (sh_367) (by decide) rfl rfl ?_
  have F := F _ rfl
  refine ev_bk 2 (S' := (17, [some (.ref 367), some (.ref a1), some (vI x2), some (vI x3)], [vI x3, .ref 367], hp (wI (wI (wR S 367 13 a1) 367 14 x2) 367 16 x2), 0, 0)) rfl ?_
  refine mv_pfI rfl rfl (sh_367) (by decide) rfl rfl ?_
  have F := F _ rfl
  refine ev_bk 2 (S' := (22, [some (.ref 367), some (.ref a1), some (vI x2), some (vI x3)], [vI 0, .ref 367], hp (wI (wI (wI (wR S 367 13 a1) 367 14 x2) 367 16 x2) 367 15 x3), 0, 0)) rfl ?_
  refine mv_pfI rfl rfl (sh_367) (by decide) rfl rfl ?_
  have F := F _ rfl
  obtain ⟨rfl, rfl⟩ := F
  exact ev_ret rfl rfl
theorem vc_MD_openRuns {q : Nat × (Nat → Int32)} {S S' : ms} {r : Option Value}
    (F : ∃ (z3 : Int) (S1 : ms), EV q 333 0 [some (.ref 367)] [] S (some (vI z3)) S1 ∧ ((w32 z3 = 0) → r = none ∧ S' = S1) ∧ ((¬ w32 z3 = 0) → ((w32 (S1.1 367 15) ≤ w32 (S1.1 367 16)) → r = none ∧ S' = S1) ∧ ((¬ w32 (S1.1 367 15) ≤ w32 (S1.1 367 16)) → ∃ (z6 : Int) (S4 : ms), EV q 334 0 [some (.ref 367)] [] S1 (some (vI z6)) S4 ∧ ((128 ≤ w32 z6) → ((w32 z6 ≤ 128) → EV q 332 97 [some (.ref 367), some (vI z6), none, none] [] S4 r S') ∧ ((¬ w32 z6 ≤ 128) → ∃ (z9 : Int) (S7 : ms), EV q 334 0 [some (.ref 367)] [] S4 (some (vI z9)) S7 ∧ EV q 332 77 [some (.ref 367), some (vI z6), some (vI z9), some (vI 0)] [] S7 r S')) ∧ ((¬ 128 ≤ w32 z6) → EV q 332 32 [some (.ref 367), some (vI z6), some (vI 0), none] [] S4 r S')))) : EV q 332 0 [some (.ref 367), none, none, none] [] S r S' := by
  unfold EV
  refine ev_bk 1 (S' := (1, [some (.ref 367), none, none, none], [.ref 367], hp S, 0, 0)) rfl ?_
  obtain ⟨z3, S1, e2, F⟩ := F
  refine mv_calv (as := []) (rest := []) e2 (sh_367) rfl rfl rfl ⟨rfl, rfl⟩ rfl rfl rfl rfl rfl ?_
  refine mv_if 100 rfl rfl (fun c => ?_) (fun c => ?_)
  · have F := F.1 c
    obtain ⟨rfl, rfl⟩ := F
    exact ev_ret rfl rfl
  · have F := F.2 c
    refine ev_bk 1 (S' := (8, [some (.ref 367), none, none, none], [.ref 367], hp S1, 0, 0)) rfl ?_
    refine mv_gfI rfl rfl (sh_367) (by decide) rfl ?_
    refine ev_bk 1 (S' := (12, [some (.ref 367), none, none, none], [.ref 367, vI (S1.1 367 16)], hp S1, 0, 0)) rfl ?_
    refine mv_gfI rfl rfl (sh_367) (by decide) rfl ?_
    refine mv_icmp 100 rfl rfl (fun c => ?_) (fun c => ?_)
    · have F := F.1 c
      obtain ⟨rfl, rfl⟩ := F
      exact ev_ret rfl rfl
    · have F := F.2 c
      refine ev_bk 1 (S' := (19, [some (.ref 367), none, none, none], [.ref 367], hp S1, 0, 0)) rfl ?_
      obtain ⟨z6, S4, e5, F⟩ := F
      refine mv_calv (as := []) (rest := []) e5 (sh_367) rfl rfl rfl ⟨rfl, rfl⟩ rfl rfl rfl rfl rfl ?_
      refine ev_bk 3 (S' := (27, [some (.ref 367), some (vI z6), none, none], [vI 128, vI z6], hp S4, 0, 0)) rfl ?_
      refine mv_icmp 63 rfl rfl (fun c => ?_) (fun c => ?_)
      · have F := F.1 c
        refine ev_bk 2 (S' := (67, [some (.ref 367), some (vI z6), none, none], [vI 128, vI z6], hp S4, 0, 0)) rfl ?_
        refine mv_icmp 97 rfl rfl (fun c => ?_) (fun c => ?_)
        · have F := F.1 c
          exact F
        · have F := F.2 c
          refine ev_bk 1 (S' := (71, [some (.ref 367), some (vI z6), none, none], [.ref 367], hp S4, 0, 0)) rfl ?_
          obtain ⟨z9, S7, e8, F⟩ := F
          refine mv_calv (as := []) (rest := []) e8 (sh_367) rfl rfl rfl ⟨rfl, rfl⟩ rfl rfl rfl rfl rfl ?_
          refine ev_bk 3 (S' := (77, [some (.ref 367), some (vI z6), some (vI z9), some (vI 0)], [], hp S7, 0, 0)) rfl ?_
          exact F
      · have F := F.2 c
        refine ev_bk 2 (S' := (32, [some (.ref 367), some (vI z6), some (vI 0), none], [], hp S4, 0, 0)) rfl ?_
        exact F
theorem vc_MD_openRuns_32 {q : Nat × (Nat → Int32)} {S S' : ms} {r : Option Value} (x1 x2 : Int)
    (F : ((w32 x1 < w32 x2) → EV q 332 60 [some (.ref 367), some (vI x1), some (vI x2), none] [] S r S') ∧ ((¬ w32 x1 < w32 x2) → ∃ (z3 : Int) (S1 : ms), EV q 333 0 [some (.ref 367)] [] S (some (vI z3)) S1 ∧ ((w32 z3 = 0) → EV q 332 60 [some (.ref 367), some (vI x1), some (vI x2), none] [] S1 r S') ∧ ((¬ w32 z3 = 0) → ∃ (z6 : Int) (S4 : ms), EV q 334 0 [some (.ref 367)] [] S1 (some (vI z6)) S4 ∧ ∃ (S7 : ms), EV q 336 0 [some (.ref 367), some (vI z6)] [] S4 none S7 ∧ EV q 332 32 [some (.ref 367), some (vI x1), some (vI (x2 + 1)), none] [] S7 r S'))) : EV q 332 32 [some (.ref 367), some (vI x1), some (vI x2), none] [] S r S' := by
  unfold EV
  refine ev_bk 2 (S' := (34, [some (.ref 367), some (vI x1), some (vI x2), none], [vI x1, vI x2], hp S, 0, 0)) rfl ?_
  refine mv_icmp 60 rfl rfl (fun c => ?_) (fun c => ?_)
  · have F := F.1 c
    exact F
  · have F := F.2 c
    refine ev_bk 1 (S' := (38, [some (.ref 367), some (vI x1), some (vI x2), none], [.ref 367], hp S, 0, 0)) rfl ?_
    obtain ⟨z3, S1, e2, F⟩ := F
    refine mv_calv (as := []) (rest := []) e2 (sh_367) rfl rfl rfl ⟨rfl, rfl⟩ rfl rfl rfl rfl rfl ?_
    refine mv_if 60 rfl rfl (fun c => ?_) (fun c => ?_)
    · have F := F.1 c
      exact F
    · have F := F.2 c
      refine ev_bk 1 (S' := (45, [some (.ref 367), some (vI x1), some (vI x2), none], [.ref 367], hp S1, 0, 0)) rfl ?_
      obtain ⟨z6, S4, e5, F⟩ := F
      refine mv_calv (as := []) (rest := []) e5 (sh_367) rfl rfl rfl ⟨rfl, rfl⟩ rfl rfl rfl rfl rfl ?_
      refine ev_bk 3 (S' := (51, [some (.ref 367), some (vI x1), some (vI x2), some (vI z6)], [vI z6, .ref 367], hp S4, 0, 0)) rfl ?_
      obtain ⟨S7, e8, F⟩ := F
      refine mv_calv (as := [vI z6]) (rest := []) e8 (sh_367) rfl rfl rfl ⟨rfl, rfl⟩ rfl rfl rfl rfl rfl ?_
      refine mv_inc (lv' := [some (.ref 367), some (vI x1), some (vI (x2 + 1)), some (vI z6)]) 2 1 rfl rfl rfl rfl ?_
      refine mv_goto 32 rfl rfl ?_
      exact ev_wk (le_s (le_s (le_s (le_n le_0)))) F
theorem vc_MD_openRuns_60 {q : Nat × (Nat → Int32)} {S S' : ms} {r : Option Value} (x1 x2 : Int)
    (F : EV q 332 97 [some (.ref 367), some (vI x1), none, none] [] S r S') : EV q 332 60 [some (.ref 367), some (vI x1), some (vI x2), none] [] S r S' := by
  unfold EV
  refine mv_goto 97 rfl rfl ?_
  exact ev_wk (le_s (le_s (le_n (le_s le_0)))) F
theorem vc_MD_openRuns_77 {q : Nat × (Nat → Int32)} {S S' : ms} {r : Option Value} (x1 x2 x3 : Int)
    (F : ((w32 (257 - x1) ≤ w32 x3) → EV q 332 97 [some (.ref 367), some (vI x1), none, none] [] S r S') ∧ ((¬ w32 (257 - x1) ≤ w32 x3) → ∃ (S1 : ms), EV q 336 0 [some (.ref 367), some (vI x2)] [] S none S1 ∧ EV q 332 77 [some (.ref 367), some (vI x1), some (vI x2), some (vI (x3 + 1))] [] S1 r S')) : EV q 332 77 [some (.ref 367), some (vI x1), some (vI x2), some (vI x3)] [] S r S' := by
  unfold EV
  refine ev_bk 3 (S' := (82, [some (.ref 367), some (vI x1), some (vI x2), some (vI x3)], [vI x1, vI 257, vI x3], hp S, 0, 0)) rfl ?_
  refine mv_isub rfl ?_
  refine mv_icmp 97 rfl rfl (fun c => ?_) (fun c => ?_)
  · have F := F.1 c
    exact ev_wk (le_s (le_s (le_n (le_n le_0)))) F
  · have F := F.2 c
    refine ev_bk 2 (S' := (88, [some (.ref 367), some (vI x1), some (vI x2), some (vI x3)], [vI x2, .ref 367], hp S, 0, 0)) rfl ?_
    obtain ⟨S1, e2, F⟩ := F
    refine mv_calv (as := [vI x2]) (rest := []) e2 (sh_367) rfl rfl rfl ⟨rfl, rfl⟩ rfl rfl rfl rfl rfl ?_
    refine mv_inc (lv' := [some (.ref 367), some (vI x1), some (vI x2), some (vI (x3 + 1))]) 3 1 rfl rfl rfl rfl ?_
    refine mv_goto 77 rfl rfl ?_
    exact F
theorem vc_MD_openRuns_97 {q : Nat × (Nat → Int32)} {S S' : ms} {r : Option Value} (x1 : Int)
    (F : EV q 332 0 [some (.ref 367), none, none, none] [] S r S') : EV q 332 97 [some (.ref 367), some (vI x1), none, none] [] S r S' := by
  unfold EV
  refine mv_goto 0 rfl rfl ?_
  exact ev_wk (le_s (le_n (le_s (le_s le_0)))) F
theorem vc_MD_fine {q : Nat × (Nat → Int32)} {S S' : ms} {r : Option Value}
    (F : ((¬ w32 (S.1 367 19) = 0) → r = some (vI 0) ∧ S' = S) ∧ ((¬ (¬ w32 (S.1 367 19) = 0)) → r = some (vI 1) ∧ S' = S)) : EV q 333 0 [some (.ref 367)] [] S r S' := by
  unfold EV
  refine ev_bk 1 (S' := (1, [some (.ref 367)], [.ref 367], hp S, 0, 0)) rfl ?_
  refine mv_gfI rfl rfl (sh_367) (by decide) rfl ?_
  refine mv_if 11 rfl rfl (fun c => ?_) (fun c => ?_)
  · have F := F.1 c
    refine ev_bk 1 (S' := (12, [some (.ref 367)], [vI 0], hp S, 0, 0)) rfl ?_
    obtain ⟨rfl, rfl⟩ := F
    exact ev_ret rfl rfl
  · have F := F.2 c
    refine ev_bk 1 (S' := (8, [some (.ref 367)], [vI 1], hp S, 0, 0)) rfl ?_
    refine mv_goto 12 rfl rfl ?_
    obtain ⟨rfl, rfl⟩ := F
    exact ev_ret rfl rfl
theorem vc_MD_next {q : Nat × (Nat → Int32)} {S S' : ms} {r : Option Value}
    (F : ((w32 (S.1 367 19) = 0) → ((w32 (S.1 367 16) < w32 (S.1 367 15)) → ∀ S1 : ms, S1 = wI S 367 16 (S.1 367 16 + 1) → ∃ (o2 no2 : Nat), S1.2.2 367 13 = o2 ∧ SH o2 = (1, no2, []) ∧ (0 ≤ w32 ((S1.1 367 16) - 1) ∧ w32 ((S1.1 367 16) - 1) < (no2 : Nat)) ∧ r = some (vI ((S1.1 o2 (w32 ((S1.1 367 16) - 1))) % 256)) ∧ S' = S1) ∧ ((¬ w32 (S.1 367 16) < w32 (S.1 367 15)) → ∃ (S6 : ms), EV q 335 0 [some (.ref 367), some (vI 1), some (vI (S.1 367 15))] [] S none S6 ∧ r = some (vI 0) ∧ S' = S6)) ∧ ((¬ w32 (S.1 367 19) = 0) → r = some (vI 0) ∧ S' = S)) : EV q 334 0 [some (.ref 367)] [] S r S' := by
  unfold EV
  refine ev_bk 1 (S' := (1, [some (.ref 367)], [.ref 367], hp S, 0, 0)) rfl ?_
  refine mv_gfI rfl rfl (sh_367) (by decide) rfl ?_
  refine mv_if 9 rfl rfl (fun c => ?_) (fun c => ?_)
  · have F := F.1 c
    refine ev_bk 1 (S' := (10, [some (.ref 367)], [.ref 367], hp S, 0, 0)) rfl ?_
    refine mv_gfI rfl rfl (sh_367) (by decide) rfl ?_
    refine ev_bk 1 (S' := (14, [some (.ref 367)], [.ref 367, vI (S.1 367 16)], hp S, 0, 0)) rfl ?_
    refine mv_gfI rfl rfl (sh_367) (by decide) rfl ?_
    refine mv_icmp 31 rfl rfl (fun c => ?_) (fun c => ?_)
    · have F := F.1 c
      refine ev_bk 2 (S' := (33, [some (.ref 367)], [.ref 367, .ref 367], hp S, 0, 0)) rfl ?_
      refine mv_gfI rfl rfl (sh_367) (by decide) rfl ?_
      refine ev_bk 1 (S' := (37, [some (.ref 367)], [vI 1, vI (S.1 367 16), .ref 367], hp S, 0, 0)) rfl ?_
      refine mv_iadd rfl ?_
      refine mv_pfI rfl rfl (sh_367) (by decide) rfl rfl ?_
      have F := F _ rfl
      refine ev_bk 1 (S' := (42, [some (.ref 367)], [.ref 367], hp (wI S 367 16 (S.1 367 16 + 1)), 0, 0)) rfl ?_
      obtain ⟨o2, no2, e4, h3, F⟩ := F
      refine mv_gfV rfl rfl (sh_367) (by decide) rfl e4 ?_
      refine ev_bk 1 (S' := (46, [some (.ref 367)], [.ref 367, .ref o2], hp (wI S 367 16 (S.1 367 16 + 1)), 0, 0)) rfl ?_
      refine mv_gfI rfl rfl (sh_367) (by decide) rfl ?_
      refine ev_bk 1 (S' := (50, [some (.ref 367)], [vI 1, vI ((wI S 367 16 (S.1 367 16 + 1)).1 367 16), .ref o2], hp (wI S 367 16 (S.1 367 16 + 1)), 0, 0)) rfl ?_
      refine mv_isub rfl ?_
      obtain ⟨b5, F⟩ := F
      refine mv_bal rfl (h3) b5 ?_
      refine ev_bk 1 (S' := (55, [some (.ref 367)], [vI 255, vI ((wI S 367 16 (S.1 367 16 + 1)).1 o2 (w32 (((wI S 367 16 (S.1 367 16 + 1)).1 367 16) - 1)))], hp (wI S 367 16 (S.1 367 16 + 1)), 0, 0)) rfl ?_
      refine mv_iandm 256 8 (by decide) rfl rfl rfl ?_
      obtain ⟨rfl, rfl⟩ := F
      exact ev_ret rfl rfl
    · have F := F.2 c
      refine ev_bk 3 (S' := (23, [some (.ref 367)], [.ref 367, vI 1, .ref 367], hp S, 0, 0)) rfl ?_
      refine mv_gfI rfl rfl (sh_367) (by decide) rfl ?_
      obtain ⟨S6, e7, F⟩ := F
      refine mv_calv (as := [vI 1, vI (S.1 367 15)]) (rest := []) e7 (sh_367) rfl rfl rfl ⟨rfl, rfl⟩ rfl rfl rfl rfl rfl ?_
      refine ev_bk 1 (S' := (30, [some (.ref 367)], [vI 0], hp S6, 0, 0)) rfl ?_
      obtain ⟨rfl, rfl⟩ := F
      exact ev_ret rfl rfl
  · have F := F.2 c
    refine ev_bk 1 (S' := (8, [some (.ref 367)], [vI 0], hp S, 0, 0)) rfl ?_
    obtain ⟨rfl, rfl⟩ := F
    exact ev_ret rfl rfl
theorem vc_MD_wrongAt {q : Nat × (Nat → Int32)} {S S' : ms} {r : Option Value} (x1 x2 : Int)
    (F : ((¬ w32 (S.1 367 19) = 0) → r = none ∧ S' = S) ∧ ((¬ (¬ w32 (S.1 367 19) = 0)) → ∀ S1 : ms, S1 = wI S 367 19 x1 → ∀ S2 : ms, S2 = wI S1 367 20 x2 → r = none ∧ S' = S2)) : EV q 335 0 [some (.ref 367), some (vI x1), some (vI x2)] [] S r S' := by
  unfold EV
  refine ev_bk 1 (S' := (1, [some (.ref 367), some (vI x1), some (vI x2)], [.ref 367], hp S, 0, 0)) rfl ?_
  refine mv_gfI rfl rfl (sh_367) (by decide) rfl ?_
  refine mv_if 17 rfl rfl (fun c => ?_) (fun c => ?_)
  · have F := F.1 c
    obtain ⟨rfl, rfl⟩ := F
    exact ev_ret rfl rfl
  · have F := F.2 c
    refine ev_bk 2 (S' := (9, [some (.ref 367), some (vI x1), some (vI x2)], [vI x1, .ref 367], hp S, 0, 0)) rfl ?_
    refine mv_pfI rfl rfl (sh_367) (by decide) rfl rfl ?_
    have F := F _ rfl
    refine ev_bk 2 (S' := (14, [some (.ref 367), some (vI x1), some (vI x2)], [vI x2, .ref 367], hp (wI S 367 19 x1), 0, 0)) rfl ?_
    refine mv_pfI rfl rfl (sh_367) (by decide) rfl rfl ?_
    have F := F _ rfl
    obtain ⟨rfl, rfl⟩ := F
    exact ev_ret rfl rfl
theorem vc_MD_come {q : Nat × (Nat → Int32)} {S S' : ms} {r : Option Value} (x1 : Int)
    (F : ((w32 (S.1 367 19) = 0) → ((¬ w32 (S.1 367 22) = 12000) → (0 ≤ w32 (S.1 367 22) ∧ w32 (S.1 367 22) < (12000 : Nat)) ∧ ∀ S2 : ms, S2 = wI S 375 (w32 (S.1 367 22)) (b8 (b8 x1)) → ∀ S3 : ms, S3 = wI S2 367 22 (S2.1 367 22 + 1) → r = none ∧ S' = S3) ∧ ((¬ (¬ w32 (S.1 367 22) = 12000)) → ∃ (S4 : ms), EV q 337 0 [some (.ref 367), some (vI 13)] [] S none S4 ∧ r = none ∧ S' = S4)) ∧ ((¬ w32 (S.1 367 19) = 0) → r = none ∧ S' = S)) : EV q 336 0 [some (.ref 367), some (vI x1)] [] S r S' := by
  unfold EV
  refine ev_bk 1 (S' := (1, [some (.ref 367), some (vI x1)], [.ref 367], hp S, 0, 0)) rfl ?_
  refine mv_gfI rfl rfl (sh_367) (by decide) rfl ?_
  refine mv_if 8 rfl rfl (fun c => ?_) (fun c => ?_)
  · have F := F.1 c
    refine ev_bk 1 (S' := (9, [some (.ref 367), some (vI x1)], [.ref 367], hp S, 0, 0)) rfl ?_
    refine mv_gfI rfl rfl (sh_367) (by decide) rfl ?_
    refine ev_bk 1 (S' := (15, [some (.ref 367), some (vI x1)], [vI 12000, vI (S.1 367 22)], hp S, 0, 0)) rfl ?_
    refine mv_icmp 25 rfl rfl (fun c => ?_) (fun c => ?_)
    · have F := F.1 c
      refine ev_bk 1 (S' := (26, [some (.ref 367), some (vI x1)], [.ref 367], hp S, 0, 0)) rfl ?_
      refine mv_gfR rfl rfl (sh_367) (by decide) rfl ?_
      refine ev_bk 1 (S' := (30, [some (.ref 367), some (vI x1)], [.ref 367, .ref 375], hp S, 0, 0)) rfl ?_
      refine mv_gfI rfl rfl (sh_367) (by decide) rfl ?_
      refine ev_bk 1 (S' := (34, [some (.ref 367), some (vI x1)], [vI x1, vI (S.1 367 22), .ref 375], hp S, 0, 0)) rfl ?_
      refine mv_i2b rfl ?_
      obtain ⟨b1, F⟩ := F
      refine mv_bas rfl (sh_375) b1 ?_
      have F := F _ rfl
      refine ev_bk 2 (S' := (38, [some (.ref 367), some (vI x1)], [.ref 367, .ref 367], hp (wI S 375 (w32 (S.1 367 22)) (b8 (b8 x1))), 0, 0)) rfl ?_
      refine mv_gfI rfl rfl (sh_367) (by decide) rfl ?_
      refine ev_bk 1 (S' := (42, [some (.ref 367), some (vI x1)], [vI 1, vI ((wI S 375 (w32 (S.1 367 22)) (b8 (b8 x1))).1 367 22), .ref 367], hp (wI S 375 (w32 (S.1 367 22)) (b8 (b8 x1))), 0, 0)) rfl ?_
      refine mv_iadd rfl ?_
      refine mv_pfI rfl rfl (sh_367) (by decide) rfl rfl ?_
      have F := F _ rfl
      obtain ⟨rfl, rfl⟩ := F
      exact ev_ret rfl rfl
    · have F := F.2 c
      refine ev_bk 2 (S' := (21, [some (.ref 367), some (vI x1)], [vI 13, .ref 367], hp S, 0, 0)) rfl ?_
      obtain ⟨S4, e5, F⟩ := F
      refine mv_calv (as := [vI 13]) (rest := []) e5 (sh_367) rfl rfl rfl ⟨rfl, rfl⟩ rfl rfl rfl rfl rfl ?_
      obtain ⟨rfl, rfl⟩ := F
      exact ev_ret rfl rfl
  · have F := F.2 c
    obtain ⟨rfl, rfl⟩ := F
    exact ev_ret rfl rfl
theorem vc_MD_wrong {q : Nat × (Nat → Int32)} {S S' : ms} {r : Option Value} (x1 : Int)
    (F : ((¬ w32 (S.1 367 19) = 0) → r = none ∧ S' = S) ∧ ((¬ (¬ w32 (S.1 367 19) = 0)) → ∀ S1 : ms, S1 = wI S 367 19 x1 → ((w32 (S1.1 367 17) ≤ 0) → ((w32 (S1.1 367 16) ≤ 0) → EV q 337 44 [some (.ref 367), some (vI x1)] [vI 0, .ref 367] S1 r S') ∧ ((¬ w32 (S1.1 367 16) ≤ 0) → EV q 337 44 [some (.ref 367), some (vI x1)] [vI ((S1.1 367 16) - 1), .ref 367] S1 r S')) ∧ ((¬ w32 (S1.1 367 17) ≤ 0) → EV q 337 44 [some (.ref 367), some (vI x1)] [vI (S1.1 367 16), .ref 367] S1 r S'))) : EV q 337 0 [some (.ref 367), some (vI x1)] [] S r S' := by
  unfold EV
  refine ev_bk 1 (S' := (1, [some (.ref 367), some (vI x1)], [.ref 367], hp S, 0, 0)) rfl ?_
  refine mv_gfI rfl rfl (sh_367) (by decide) rfl ?_
  refine mv_if 47 rfl rfl (fun c => ?_) (fun c => ?_)
  · have F := F.1 c
    obtain ⟨rfl, rfl⟩ := F
    exact ev_ret rfl rfl
  · have F := F.2 c
    refine ev_bk 2 (S' := (9, [some (.ref 367), some (vI x1)], [vI x1, .ref 367], hp S, 0, 0)) rfl ?_
    refine mv_pfI rfl rfl (sh_367) (by decide) rfl rfl ?_
    have F := F _ rfl
    refine ev_bk 2 (S' := (14, [some (.ref 367), some (vI x1)], [.ref 367, .ref 367], hp (wI S 367 19 x1), 0, 0)) rfl ?_
    refine mv_gfI rfl rfl (sh_367) (by decide) rfl ?_
    refine mv_if 27 rfl rfl (fun c => ?_) (fun c => ?_)
    · have F := F.1 c
      refine ev_bk 1 (S' := (28, [some (.ref 367), some (vI x1)], [.ref 367, .ref 367], hp (wI S 367 19 x1), 0, 0)) rfl ?_
      refine mv_gfI rfl rfl (sh_367) (by decide) rfl ?_
      refine mv_if 43 rfl rfl (fun c => ?_) (fun c => ?_)
      · have F := F.1 c
        refine ev_bk 1 (S' := (44, [some (.ref 367), some (vI x1)], [vI 0, .ref 367], hp (wI S 367 19 x1), 0, 0)) rfl ?_
        exact F
      · have F := F.2 c
        refine ev_bk 1 (S' := (35, [some (.ref 367), some (vI x1)], [.ref 367, .ref 367], hp (wI S 367 19 x1), 0, 0)) rfl ?_
        refine mv_gfI rfl rfl (sh_367) (by decide) rfl ?_
        refine ev_bk 1 (S' := (39, [some (.ref 367), some (vI x1)], [vI 1, vI ((wI S 367 19 x1).1 367 16), .ref 367], hp (wI S 367 19 x1), 0, 0)) rfl ?_
        refine mv_isub rfl ?_
        refine mv_goto 44 rfl rfl ?_
        exact F
    · have F := F.2 c
      refine ev_bk 1 (S' := (21, [some (.ref 367), some (vI x1)], [.ref 367, .ref 367], hp (wI S 367 19 x1), 0, 0)) rfl ?_
      refine mv_gfI rfl rfl (sh_367) (by decide) rfl ?_
      refine mv_goto 44 rfl rfl ?_
      exact F
theorem vc_MD_wrong_44 {q : Nat × (Nat → Int32)} {S S' : ms} {r : Option Value} (x1 y0 : Int)
    (F : ∀ S1 : ms, S1 = wI S 367 20 y0 → r = none ∧ S' = S1) : EV q 337 44 [some (.ref 367), some (vI x1)] [vI y0, .ref 367] S r S' := by
  unfold EV
  refine mv_pfI rfl rfl (sh_367) (by decide) rfl rfl ?_
  have F := F _ rfl
  obtain ⟨rfl, rfl⟩ := F
  exact ev_ret rfl rfl
theorem vc_MD_openWords {q : Nat × (Nat → Int32)} {S S' : ms} {r : Option Value}
    (F : ∃ (z3 : Int) (S1 : ms), EV q 339 0 [some (.ref 367), some (vI 9), none, none, none, none, none] [] S (some (vL z3)) S1 ∧ ∃ (z6 : Int) (S4 : ms), EV q 333 0 [some (.ref 367)] [] S1 (some (vI z6)) S4 ∧ ((w32 z6 = 0) → EV q 338 28 [some (.ref 367), some (vI z3), none, none, none, none, none, none, none, none, none] [] S4 r S') ∧ ((¬ w32 z6 = 0) → ((w32 z3 = 256) → EV q 338 28 [some (.ref 367), some (vI z3), none, none, none, none, none, none, none, none, none] [] S4 r S') ∧ ((¬ w32 z3 = 256) → ∃ (S7 : ms), EV q 337 0 [some (.ref 367), some (vI 60)] [] S4 none S7 ∧ EV q 338 28 [some (.ref 367), some (vI z3), none, none, none, none, none, none, none, none, none] [] S7 r S'))) : EV q 338 0 [some (.ref 367), none, none, none, none, none, none, none, none, none, none] [] S r S' := by
  unfold EV
  refine ev_bk 2 (S' := (3, [some (.ref 367), none, none, none, none, none, none, none, none, none, none], [vI 9, .ref 367], hp S, 0, 0)) rfl ?_
  obtain ⟨z3, S1, e2, F⟩ := F
  refine mv_calv (as := [vI 9]) (rest := []) e2 (sh_367) rfl rfl rfl ⟨rfl, rfl⟩ rfl rfl rfl rfl rfl ?_
  refine mv_l2i rfl ?_
  refine ev_bk 2 (S' := (9, [some (.ref 367), some (vI z3), none, none, none, none, none, none, none, none, none], [.ref 367], hp S1, 0, 0)) rfl ?_
  obtain ⟨z6, S4, e5, F⟩ := F
  refine mv_calv (as := []) (rest := []) e5 (sh_367) rfl rfl rfl ⟨rfl, rfl⟩ rfl rfl rfl rfl rfl ?_
  refine mv_if 28 rfl rfl (fun c => ?_) (fun c => ?_)
  · have F := F.1 c
    exact F
  · have F := F.2 c
    refine ev_bk 2 (S' := (19, [some (.ref 367), some (vI z3), none, none, none, none, none, none, none, none, none], [vI 256, vI z3], hp S4, 0, 0)) rfl ?_
    refine mv_icmp 28 rfl rfl (fun c => ?_) (fun c => ?_)
    · have F := F.1 c
      exact F
    · have F := F.2 c
      refine ev_bk 2 (S' := (25, [some (.ref 367), some (vI z3), none, none, none, none, none, none, none, none, none], [vI 60, .ref 367], hp S4, 0, 0)) rfl ?_
      obtain ⟨S7, e8, F⟩ := F
      refine mv_calv (as := [vI 60]) (rest := []) e8 (sh_367) rfl rfl rfl ⟨rfl, rfl⟩ rfl rfl rfl rfl rfl ?_
      exact F
theorem vc_MD_openWords_28 {q : Nat × (Nat → Int32)} {S S' : ms} {r : Option Value} (x1 : Int)
    (F : ∃ (z3 : Int) (S1 : ms), EV q 333 0 [some (.ref 367)] [] S (some (vI z3)) S1 ∧ EV q 338 41 [some (.ref 367), some (vI x1), some (vI 0), some (vI 0), some (vI 0), some (vI z3), none, none, none, none, none] [] S1 r S') : EV q 338 28 [some (.ref 367), some (vI x1), none, none, none, none, none, none, none, none, none] [] S r S' := by
  unfold EV
  refine ev_bk 7 (S' := (36, [some (.ref 367), some (vI x1), some (vI 0), some (vI 0), some (vI 0), none, none, none, none, none, none], [.ref 367], hp S, 0, 0)) rfl ?_
  obtain ⟨z3, S1, e2, F⟩ := F
  refine mv_calv (as := []) (rest := []) e2 (sh_367) rfl rfl rfl ⟨rfl, rfl⟩ rfl rfl rfl rfl rfl ?_
  refine ev_bk 1 (S' := (41, [some (.ref 367), some (vI x1), some (vI 0), some (vI 0), some (vI 0), some (vI z3), none, none, none, none, none], [], hp S1, 0, 0)) rfl ?_
  exact F
theorem vc_MD_openWords_41 {q : Nat × (Nat → Int32)} {S S' : ms} {r : Option Value} (x1 x2 x3 x4 x5 : Int)
    (F : ((w32 x5 = 0) → EV q 338 327 [some (.ref 367), some (vI x1), some (vI x2), some (vI x3), some (vI x4), some (vI x5), none, none, none, none, none] [] S r S') ∧ ((¬ w32 x5 = 0) → ∃ (z3 : Int) (S1 : ms), EV q 333 0 [some (.ref 367)] [] S (some (vI z3)) S1 ∧ ((w32 z3 = 0) → EV q 338 327 [some (.ref 367), some (vI x1), some (vI x2), some (vI x3), some (vI x4), some (vI x5), none, none, none, none, none] [] S1 r S') ∧ ((¬ w32 z3 = 0) → ∃ (z6 : Int) (S4 : ms), EV q 286 0 [some (vI x2), none] [] S1 (some (vI z6)) S4 ∧ ∃ (z9 : Int) (S7 : ms), EV q 339 0 [some (.ref 367), some (vI z6), none, none, none, none, none] [] S4 (some (vL z9)) S7 ∧ ∃ (z12 : Int) (S10 : ms), EV q 333 0 [some (.ref 367)] [] S7 (some (vI z12)) S10 ∧ ((¬ w32 z12 = 0) → ((¬ w32 z9 = 257) → ((¬ w32 z9 = 256) → ((¬ w32 x2 = 3839) → ((w32 z9 ≤ 257) → EV q 338 151 [some (.ref 367), some (vI x1), some (vI x2), some (vI x3), some (vI x4), some (vI x5), some (vI z9), none, none, none, none] [] S10 r S') ∧ ((¬ w32 z9 ≤ 257) → ((w32 x2 = 0) → EV q 338 142 [some (.ref 367), some (vI x1), some (vI x2), some (vI x3), some (vI x4), some (vI x5), some (vI z9), none, none, none, none] [] S10 r S') ∧ ((¬ w32 x2 = 0) → ((w32 z9 ≤ w32 ((258 + x2) - 1)) → EV q 338 151 [some (.ref 367), some (vI x1), some (vI x2), some (vI x3), some (vI x4), some (vI x5), some (vI z9), none, none, none, none] [] S10 r S') ∧ ((¬ w32 z9 ≤ w32 ((258 + x2) - 1)) → EV q 338 142 [some (.ref 367), some (vI x1), some (vI x2), some (vI x3), some (vI x4), some (vI x5), some (vI z9), none, none, none, none] [] S10 r S')))) ∧ ((¬ (¬ w32 x2 = 3839)) → ∃ (S13 : ms), EV q 337 0 [some (.ref 367), some (vI 62)] [] S10 none S13 ∧ EV q 338 324 [some (.ref 367), some (vI x1), some (vI x2), some (vI x3), some (vI x4), some (vI x5), some (vI z9), none, none, none, none] [] S13 r S')) ∧ ((¬ (¬ w32 z9 = 256)) → EV q 338 324 [some (.ref 367), some (vI x1), some (vI 0), some (vI x3), some (vI 0), some (vI x5), some (vI z9), none, none, none, none] [] S10 r S')) ∧ ((¬ (¬ w32 z9 = 257)) → EV q 338 324 [some (.ref 367), some (vI x1), some (vI x2), some (vI x3), some (vI x4), some (vI 0), some (vI z9), none, none, none, none] [] S10 r S')) ∧ ((¬ (¬ w32 z12 = 0)) → r = none ∧ S' = S10)))) : EV q 338 41 [some (.ref 367), some (vI x1), some (vI x2), some (vI x3), some (vI x4), some (vI x5), none, none, none, none, none] [] S r S' := by
  unfold EV
  refine ev_bk 1 (S' := (43, [some (.ref 367), some (vI x1), some (vI x2), some (vI x3), some (vI x4), some (vI x5), none, none, none, none, none], [vI x5], hp S, 0, 0)) rfl ?_
  refine mv_if 327 rfl rfl (fun c => ?_) (fun c => ?_)
  · have F := F.1 c
    exact F
  · have F := F.2 c
    refine ev_bk 1 (S' := (47, [some (.ref 367), some (vI x1), some (vI x2), some (vI x3), some (vI x4), some (vI x5), none, none, none, none, none], [.ref 367], hp S, 0, 0)) rfl ?_
    obtain ⟨z3, S1, e2, F⟩ := F
    refine mv_calv (as := []) (rest := []) e2 (sh_367) rfl rfl rfl ⟨rfl, rfl⟩ rfl rfl rfl rfl rfl ?_
    refine mv_if 327 rfl rfl (fun c => ?_) (fun c => ?_)
    · have F := F.1 c
      exact F
    · have F := F.2 c
      refine ev_bk 2 (S' := (55, [some (.ref 367), some (vI x1), some (vI x2), some (vI x3), some (vI x4), some (vI x5), none, none, none, none, none], [vI x2, .ref 367], hp S1, 0, 0)) rfl ?_
      obtain ⟨z6, S4, e5, F⟩ := F
      refine mv_cals (as := [vI x2]) (rest := [.ref 367]) e5 rfl rfl rfl ⟨rfl, rfl, rfl⟩ rfl rfl rfl rfl ?_
      obtain ⟨z9, S7, e8, F⟩ := F
      refine mv_calv (as := [vI z6]) (rest := []) e8 (sh_367) rfl rfl rfl ⟨rfl, rfl⟩ rfl rfl rfl rfl rfl ?_
      refine mv_l2i rfl ?_
      refine ev_bk 2 (S' := (65, [some (.ref 367), some (vI x1), some (vI x2), some (vI x3), some (vI x4), some (vI x5), some (vI z9), none, none, none, none], [.ref 367], hp S7, 0, 0)) rfl ?_
      obtain ⟨z12, S10, e11, F⟩ := F
      refine mv_calv (as := []) (rest := []) e11 (sh_367) rfl rfl rfl ⟨rfl, rfl⟩ rfl rfl rfl rfl rfl ?_
      refine mv_if 72 rfl rfl (fun c => ?_) (fun c => ?_)
      · have F := F.1 c
        refine ev_bk 2 (S' := (77, [some (.ref 367), some (vI x1), some (vI x2), some (vI x3), some (vI x4), some (vI x5), some (vI z9), none, none, none, none], [vI 257, vI z9], hp S10, 0, 0)) rfl ?_
        refine mv_icmp 86 rfl rfl (fun c => ?_) (fun c => ?_)
        · have F := F.1 c
          refine ev_bk 2 (S' := (91, [some (.ref 367), some (vI x1), some (vI x2), some (vI x3), some (vI x4), some (vI x5), some (vI z9), none, none, none, none], [vI 256, vI z9], hp S10, 0, 0)) rfl ?_
          refine mv_icmp 102 rfl rfl (fun c => ?_) (fun c => ?_)
          · have F := F.1 c
            refine ev_bk 2 (S' := (106, [some (.ref 367), some (vI x1), some (vI x2), some (vI x3), some (vI x4), some (vI x5), some (vI z9), none, none, none, none], [vI 3839, vI x2], hp S10, 0, 0)) rfl ?_
            refine mv_icmp 118 rfl rfl (fun c => ?_) (fun c => ?_)
            · have F := F.1 c
              refine ev_bk 2 (S' := (123, [some (.ref 367), some (vI x1), some (vI x2), some (vI x3), some (vI x4), some (vI x5), some (vI z9), none, none, none, none], [vI 257, vI z9], hp S10, 0, 0)) rfl ?_
              refine mv_icmp 151 rfl rfl (fun c => ?_) (fun c => ?_)
              · have F := F.1 c
                exact F
              · have F := F.2 c
                refine ev_bk 1 (S' := (127, [some (.ref 367), some (vI x1), some (vI x2), some (vI x3), some (vI x4), some (vI x5), some (vI z9), none, none, none, none], [vI x2], hp S10, 0, 0)) rfl ?_
                refine mv_if 142 rfl rfl (fun c => ?_) (fun c => ?_)
                · have F := F.1 c
                  exact F
                · have F := F.2 c
                  refine ev_bk 3 (S' := (136, [some (.ref 367), some (vI x1), some (vI x2), some (vI x3), some (vI x4), some (vI x5), some (vI z9), none, none, none, none], [vI x2, vI 258, vI z9], hp S10, 0, 0)) rfl ?_
                  refine mv_iadd rfl ?_
                  refine ev_bk 1 (S' := (138, [some (.ref 367), some (vI x1), some (vI x2), some (vI x3), some (vI x4), some (vI x5), some (vI z9), none, none, none, none], [vI 1, vI (258 + x2), vI z9], hp S10, 0, 0)) rfl ?_
                  refine mv_isub rfl ?_
                  refine mv_icmp 151 rfl rfl (fun c => ?_) (fun c => ?_)
                  · have F := F.1 c
                    exact F
                  · have F := F.2 c
                    exact F
            · have F := F.2 c
              refine ev_bk 2 (S' := (112, [some (.ref 367), some (vI x1), some (vI x2), some (vI x3), some (vI x4), some (vI x5), some (vI z9), none, none, none, none], [vI 62, .ref 367], hp S10, 0, 0)) rfl ?_
              obtain ⟨S13, e14, F⟩ := F
              refine mv_calv (as := [vI 62]) (rest := []) e14 (sh_367) rfl rfl rfl ⟨rfl, rfl⟩ rfl rfl rfl rfl rfl ?_
              refine mv_goto 324 rfl rfl ?_
              exact F
          · have F := F.2 c
            refine ev_bk 4 (S' := (99, [some (.ref 367), some (vI x1), some (vI 0), some (vI x3), some (vI 0), some (vI x5), some (vI z9), none, none, none, none], [], hp S10, 0, 0)) rfl ?_
            refine mv_goto 324 rfl rfl ?_
            exact F
        · have F := F.2 c
          refine ev_bk 2 (S' := (83, [some (.ref 367), some (vI x1), some (vI x2), some (vI x3), some (vI x4), some (vI 0), some (vI z9), none, none, none, none], [], hp S10, 0, 0)) rfl ?_
          refine mv_goto 324 rfl rfl ?_
          exact F
      · have F := F.2 c
        obtain ⟨rfl, rfl⟩ := F
        exact ev_ret rfl rfl
theorem vc_MD_openWords_142 {q : Nat × (Nat → Int32)} {S S' : ms} {r : Option Value} (x1 x2 x3 x4 x5 x6 : Int)
    (F : ∃ (S1 : ms), EV q 337 0 [some (.ref 367), some (vI 61)] [] S none S1 ∧ EV q 338 324 [some (.ref 367), some (vI x1), some (vI x2), some (vI x3), some (vI x4), some (vI x5), some (vI x6), none, none, none, none] [] S1 r S') : EV q 338 142 [some (.ref 367), some (vI x1), some (vI x2), some (vI x3), some (vI x4), some (vI x5), some (vI x6), none, none, none, none] [] S r S' := by
  unfold EV
  refine ev_bk 2 (S' := (145, [some (.ref 367), some (vI x1), some (vI x2), some (vI x3), some (vI x4), some (vI x5), some (vI x6), none, none, none, none], [vI 61, .ref 367], hp S, 0, 0)) rfl ?_
  obtain ⟨S1, e2, F⟩ := F
  refine mv_calv (as := [vI 61]) (rest := []) e2 (sh_367) rfl rfl rfl ⟨rfl, rfl⟩ rfl rfl rfl rfl rfl ?_
  refine mv_goto 324 rfl rfl ?_
  exact F
theorem vc_MD_openWords_151 {q : Nat × (Nat → Int32)} {S S' : ms} {r : Option Value} (x1 x2 x3 x4 x5 x6 : Int)
    (F : ((256 ≤ w32 x6) → ((¬ w32 x6 = w32 (258 + (x2 - 1))) → (0 ≤ w32 (x6 - 258) ∧ w32 (x6 - 258) < (4200 : Nat)) ∧ EV q 338 203 [some (.ref 367), some (vI x1), some (vI x2), some (vI x3), some (vI x4), some (vI x5), some (vI x6), some (vI (S.1 367 22)), some (vI (x2 - 1)), none, none] [vI (S.1 384 (w32 (x6 - 258)))] S r S') ∧ ((¬ (¬ w32 x6 = w32 (258 + (x2 - 1)))) → EV q 338 203 [some (.ref 367), some (vI x1), some (vI x2), some (vI x3), some (vI x4), some (vI x5), some (vI x6), some (vI (S.1 367 22)), some (vI (x2 - 1)), none, none] [vI (x4 + 1)] S r S')) ∧ ((¬ 256 ≤ w32 x6) → EV q 338 203 [some (.ref 367), some (vI x1), some (vI x2), some (vI x3), some (vI x4), some (vI x5), some (vI x6), some (vI (S.1 367 22)), some (vI (x2 - 1)), none, none] [vI 1] S r S')) : EV q 338 151 [some (.ref 367), some (vI x1), some (vI x2), some (vI x3), some (vI x4), some (vI x5), some (vI x6), none, none, none, none] [] S r S' := by
  unfold EV
  refine ev_bk 1 (S' := (152, [some (.ref 367), some (vI x1), some (vI x2), some (vI x3), some (vI x4), some (vI x5), some (vI x6), none, none, none, none], [.ref 367], hp S, 0, 0)) rfl ?_
  refine mv_gfI rfl rfl (sh_367) (by decide) rfl ?_
  refine ev_bk 3 (S' := (159, [some (.ref 367), some (vI x1), some (vI x2), some (vI x3), some (vI x4), some (vI x5), some (vI x6), some (vI (S.1 367 22)), none, none, none], [vI 1, vI x2], hp S, 0, 0)) rfl ?_
  refine mv_isub rfl ?_
  refine ev_bk 3 (S' := (167, [some (.ref 367), some (vI x1), some (vI x2), some (vI x3), some (vI x4), some (vI x5), some (vI x6), some (vI (S.1 367 22)), some (vI (x2 - 1)), none, none], [vI 256, vI x6], hp S, 0, 0)) rfl ?_
  refine mv_icmp 174 rfl rfl (fun c => ?_) (fun c => ?_)
  · have F := F.1 c
    refine ev_bk 3 (S' := (181, [some (.ref 367), some (vI x1), some (vI x2), some (vI x3), some (vI x4), some (vI x5), some (vI x6), some (vI (S.1 367 22)), some (vI (x2 - 1)), none, none], [vI (x2 - 1), vI 258, vI x6], hp S, 0, 0)) rfl ?_
    refine mv_iadd rfl ?_
    refine mv_icmp 192 rfl rfl (fun c => ?_) (fun c => ?_)
    · have F := F.1 c
      refine ev_bk 1 (S' := (193, [some (.ref 367), some (vI x1), some (vI x2), some (vI x3), some (vI x4), some (vI x5), some (vI x6), some (vI (S.1 367 22)), some (vI (x2 - 1)), none, none], [.ref 367], hp S, 0, 0)) rfl ?_
      refine mv_gfR rfl rfl (sh_367) (by decide) rfl ?_
      refine ev_bk 2 (S' := (201, [some (.ref 367), some (vI x1), some (vI x2), some (vI x3), some (vI x4), some (vI x5), some (vI x6), some (vI (S.1 367 22)), some (vI (x2 - 1)), none, none], [vI 258, vI x6, .ref 384], hp S, 0, 0)) rfl ?_
      refine mv_isub rfl ?_
      obtain ⟨b1, F⟩ := F
      refine mv_ial rfl (sh_384) b1 ?_
      exact F
    · have F := F.2 c
      refine ev_bk 2 (S' := (188, [some (.ref 367), some (vI x1), some (vI x2), some (vI x3), some (vI x4), some (vI x5), some (vI x6), some (vI (S.1 367 22)), some (vI (x2 - 1)), none, none], [vI 1, vI x4], hp S, 0, 0)) rfl ?_
      refine mv_iadd rfl ?_
      refine mv_goto 203 rfl rfl ?_
      exact F
  · have F := F.2 c
    refine ev_bk 1 (S' := (171, [some (.ref 367), some (vI x1), some (vI x2), some (vI x3), some (vI x4), some (vI x5), some (vI x6), some (vI (S.1 367 22)), some (vI (x2 - 1)), none, none], [vI 1], hp S, 0, 0)) rfl ?_
    refine mv_goto 203 rfl rfl ?_
    exact F
theorem vc_MD_openWords_203 {q : Nat × (Nat → Int32)} {S S' : ms} {r : Option Value} (x1 x2 x3 x4 x5 x6 x7 x8 y0 : Int)
    (F : EV q 338 208 [some (.ref 367), some (vI x1), some (vI x2), some (vI x3), some (vI x4), some (vI x5), some (vI x6), some (vI x7), some (vI x8), some (vI y0), some (vI 0)] [] S r S') : EV q 338 203 [some (.ref 367), some (vI x1), some (vI x2), some (vI x3), some (vI x4), some (vI x5), some (vI x6), some (vI x7), some (vI x8), none, none] [vI y0] S r S' := by
  unfold EV
  refine ev_bk 3 (S' := (208, [some (.ref 367), some (vI x1), some (vI x2), some (vI x3), some (vI x4), some (vI x5), some (vI x6), some (vI x7), some (vI x8), some (vI y0), some (vI 0)], [], hp S, 0, 0)) rfl ?_
  exact F
theorem vc_MD_openWords_208 {q : Nat × (Nat → Int32)} {S S' : ms} {r : Option Value} (x1 x2 x3 x4 x5 x6 x7 x8 x9 x10 : Int)
    (F : ((w32 x9 ≤ w32 x10) → ((w32 x2 ≤ 0) → EV q 338 314 [some (.ref 367), some (vI x1), some (vI x2), some (vI x3), some (vI x4), some (vI x5), some (vI x6), some (vI x7), some (vI x8), some (vI x9), some (vI x10)] [] S r S') ∧ ((¬ w32 x2 ≤ 0) → (0 ≤ w32 x8 ∧ w32 x8 < (4200 : Nat)) ∧ ∀ S2 : ms, S2 = wI S 383 (w32 x8) x3 → (0 ≤ w32 x8 ∧ w32 x8 < (4200 : Nat)) ∧ ∀ S4 : ms, S4 = wI S2 384 (w32 x8) (x4 + 1) → EV q 338 314 [some (.ref 367), some (vI x1), some (vI x2), some (vI x3), some (vI x4), some (vI x5), some (vI x6), some (vI x7), some (vI x8), some (vI x9), some (vI x10)] [] S4 r S')) ∧ ((¬ w32 x9 ≤ w32 x10) → ((256 ≤ w32 x6) → ((¬ w32 x6 = w32 (258 + x8)) → (0 ≤ w32 (x6 - 258) ∧ w32 (x6 - 258) < (4200 : Nat)) ∧ (0 ≤ w32 ((S.1 383 (w32 (x6 - 258))) + x10) ∧ w32 ((S.1 383 (w32 (x6 - 258))) + x10) < (12000 : Nat)) ∧ EV q 338 282 [some (.ref 367), some (vI x1), some (vI x2), some (vI x3), some (vI x4), some (vI x5), some (vI x6), some (vI x7), some (vI x8), some (vI x9), some (vI x10)] [vI (S.1 375 (w32 ((S.1 383 (w32 (x6 - 258))) + x10))), .ref 367] S r S') ∧ ((¬ (¬ w32 x6 = w32 (258 + x8))) → ((w32 x4 ≤ w32 x10) → EV q 338 259 [some (.ref 367), some (vI x1), some (vI x2), some (vI x3), some (vI x4), some (vI x5), some (vI x6), some (vI x7), some (vI x8), some (vI x9), some (vI x10)] [vI x3, .ref 375, .ref 367] S r S') ∧ ((¬ w32 x4 ≤ w32 x10) → EV q 338 259 [some (.ref 367), some (vI x1), some (vI x2), some (vI x3), some (vI x4), some (vI x5), some (vI x6), some (vI x7), some (vI x8), some (vI x9), some (vI x10)] [vI (x3 + x10), .ref 375, .ref 367] S r S'))) ∧ ((¬ 256 ≤ w32 x6) → EV q 338 282 [some (.ref 367), some (vI x1), some (vI x2), some (vI x3), some (vI x4), some (vI x5), some (vI x6), some (vI x7), some (vI x8), some (vI x9), some (vI x10)] [vI x6, .ref 367] S r S'))) : EV q 338 208 [some (.ref 367), some (vI x1), some (vI x2), some (vI x3), some (vI x4), some (vI x5), some (vI x6), some (vI x7), some (vI x8), some (vI x9), some (vI x10)] [] S r S' := by
  unfold EV
  refine ev_bk 2 (S' := (212, [some (.ref 367), some (vI x1), some (vI x2), some (vI x3), some (vI x4), some (vI x5), some (vI x6), some (vI x7), some (vI x8), some (vI x9), some (vI x10)], [vI x9, vI x10], hp S, 0, 0)) rfl ?_
  refine mv_icmp 291 rfl rfl (fun c => ?_) (fun c => ?_)
  · have F := F.1 c
    refine ev_bk 1 (S' := (292, [some (.ref 367), some (vI x1), some (vI x2), some (vI x3), some (vI x4), some (vI x5), some (vI x6), some (vI x7), some (vI x8), some (vI x9), some (vI x10)], [vI x2], hp S, 0, 0)) rfl ?_
    refine mv_if 314 rfl rfl (fun c => ?_) (fun c => ?_)
    · have F := F.1 c
      exact F
    · have F := F.2 c
      refine ev_bk 1 (S' := (296, [some (.ref 367), some (vI x1), some (vI x2), some (vI x3), some (vI x4), some (vI x5), some (vI x6), some (vI x7), some (vI x8), some (vI x9), some (vI x10)], [.ref 367], hp S, 0, 0)) rfl ?_
      refine mv_gfR rfl rfl (sh_367) (by decide) rfl ?_
      refine ev_bk 2 (S' := (302, [some (.ref 367), some (vI x1), some (vI x2), some (vI x3), some (vI x4), some (vI x5), some (vI x6), some (vI x7), some (vI x8), some (vI x9), some (vI x10)], [vI x3, vI x8, .ref 383], hp S, 0, 0)) rfl ?_
      obtain ⟨b1, F⟩ := F
      refine mv_ias rfl (sh_383) b1 ?_
      have F := F _ rfl
      refine ev_bk 1 (S' := (304, [some (.ref 367), some (vI x1), some (vI x2), some (vI x3), some (vI x4), some (vI x5), some (vI x6), some (vI x7), some (vI x8), some (vI x9), some (vI x10)], [.ref 367], hp (wI S 383 (w32 x8) x3), 0, 0)) rfl ?_
      refine mv_gfR rfl rfl (sh_367) (by decide) rfl ?_
      refine ev_bk 3 (S' := (312, [some (.ref 367), some (vI x1), some (vI x2), some (vI x3), some (vI x4), some (vI x5), some (vI x6), some (vI x7), some (vI x8), some (vI x9), some (vI x10)], [vI 1, vI x4, vI x8, .ref 384], hp (wI S 383 (w32 x8) x3), 0, 0)) rfl ?_
      refine mv_iadd rfl ?_
      obtain ⟨b3, F⟩ := F
      refine mv_ias rfl (sh_384) b3 ?_
      have F := F _ rfl
      exact F
  · have F := F.2 c
    refine ev_bk 3 (S' := (221, [some (.ref 367), some (vI x1), some (vI x2), some (vI x3), some (vI x4), some (vI x5), some (vI x6), some (vI x7), some (vI x8), some (vI x9), some (vI x10)], [vI 256, vI x6, .ref 367], hp S, 0, 0)) rfl ?_
    refine mv_icmp 229 rfl rfl (fun c => ?_) (fun c => ?_)
    · have F := F.1 c
      refine ev_bk 3 (S' := (236, [some (.ref 367), some (vI x1), some (vI x2), some (vI x3), some (vI x4), some (vI x5), some (vI x6), some (vI x7), some (vI x8), some (vI x9), some (vI x10)], [vI x8, vI 258, vI x6, .ref 367], hp S, 0, 0)) rfl ?_
      refine mv_iadd rfl ?_
      refine mv_icmp 263 rfl rfl (fun c => ?_) (fun c => ?_)
      · have F := F.1 c
        refine ev_bk 1 (S' := (264, [some (.ref 367), some (vI x1), some (vI x2), some (vI x3), some (vI x4), some (vI x5), some (vI x6), some (vI x7), some (vI x8), some (vI x9), some (vI x10)], [.ref 367, .ref 367], hp S, 0, 0)) rfl ?_
        refine mv_gfR rfl rfl (sh_367) (by decide) rfl ?_
        refine ev_bk 1 (S' := (268, [some (.ref 367), some (vI x1), some (vI x2), some (vI x3), some (vI x4), some (vI x5), some (vI x6), some (vI x7), some (vI x8), some (vI x9), some (vI x10)], [.ref 367, .ref 375, .ref 367], hp S, 0, 0)) rfl ?_
        refine mv_gfR rfl rfl (sh_367) (by decide) rfl ?_
        refine ev_bk 2 (S' := (276, [some (.ref 367), some (vI x1), some (vI x2), some (vI x3), some (vI x4), some (vI x5), some (vI x6), some (vI x7), some (vI x8), some (vI x9), some (vI x10)], [vI 258, vI x6, .ref 383, .ref 375, .ref 367], hp S, 0, 0)) rfl ?_
        refine mv_isub rfl ?_
        obtain ⟨b5, F⟩ := F
        refine mv_ial rfl (sh_383) b5 ?_
        refine ev_bk 1 (S' := (280, [some (.ref 367), some (vI x1), some (vI x2), some (vI x3), some (vI x4), some (vI x5), some (vI x6), some (vI x7), some (vI x8), some (vI x9), some (vI x10)], [vI x10, vI (S.1 383 (w32 (x6 - 258))), .ref 375, .ref 367], hp S, 0, 0)) rfl ?_
        refine mv_iadd rfl ?_
        obtain ⟨b6, F⟩ := F
        refine mv_bal rfl (sh_375) b6 ?_
        exact F
      · have F := F.2 c
        refine ev_bk 1 (S' := (241, [some (.ref 367), some (vI x1), some (vI x2), some (vI x3), some (vI x4), some (vI x5), some (vI x6), some (vI x7), some (vI x8), some (vI x9), some (vI x10)], [.ref 367, .ref 367], hp S, 0, 0)) rfl ?_
        refine mv_gfR rfl rfl (sh_367) (by decide) rfl ?_
        refine ev_bk 2 (S' := (248, [some (.ref 367), some (vI x1), some (vI x2), some (vI x3), some (vI x4), some (vI x5), some (vI x6), some (vI x7), some (vI x8), some (vI x9), some (vI x10)], [vI x4, vI x10, .ref 375, .ref 367], hp S, 0, 0)) rfl ?_
        refine mv_icmp 258 rfl rfl (fun c => ?_) (fun c => ?_)
        · have F := F.1 c
          refine ev_bk 1 (S' := (259, [some (.ref 367), some (vI x1), some (vI x2), some (vI x3), some (vI x4), some (vI x5), some (vI x6), some (vI x7), some (vI x8), some (vI x9), some (vI x10)], [vI x3, .ref 375, .ref 367], hp S, 0, 0)) rfl ?_
          exact F
        · have F := F.2 c
          refine ev_bk 2 (S' := (254, [some (.ref 367), some (vI x1), some (vI x2), some (vI x3), some (vI x4), some (vI x5), some (vI x6), some (vI x7), some (vI x8), some (vI x9), some (vI x10)], [vI x10, vI x3, .ref 375, .ref 367], hp S, 0, 0)) rfl ?_
          refine mv_iadd rfl ?_
          refine mv_goto 259 rfl rfl ?_
          exact F
    · have F := F.2 c
      refine ev_bk 1 (S' := (226, [some (.ref 367), some (vI x1), some (vI x2), some (vI x3), some (vI x4), some (vI x5), some (vI x6), some (vI x7), some (vI x8), some (vI x9), some (vI x10)], [vI x6, .ref 367], hp S, 0, 0)) rfl ?_
      refine mv_goto 282 rfl rfl ?_
      exact F
theorem vc_MD_openWords_259 {q : Nat × (Nat → Int32)} {S S' : ms} {r : Option Value} (x1 x2 x3 x4 x5 x6 x7 x8 x9 x10 y0 : Int)
    (F : (0 ≤ w32 y0 ∧ w32 y0 < (12000 : Nat)) ∧ EV q 338 282 [some (.ref 367), some (vI x1), some (vI x2), some (vI x3), some (vI x4), some (vI x5), some (vI x6), some (vI x7), some (vI x8), some (vI x9), some (vI x10)] [vI (S.1 375 (w32 y0)), .ref 367] S r S') : EV q 338 259 [some (.ref 367), some (vI x1), some (vI x2), some (vI x3), some (vI x4), some (vI x5), some (vI x6), some (vI x7), some (vI x8), some (vI x9), some (vI x10)] [vI y0, .ref 375, .ref 367] S r S' := by
  unfold EV
  obtain ⟨b1, F⟩ := F
  refine mv_bal rfl (sh_375) b1 ?_
  refine mv_goto 282 rfl rfl ?_
  exact F
theorem vc_MD_openWords_282 {q : Nat × (Nat → Int32)} {S S' : ms} {r : Option Value} (x1 x2 x3 x4 x5 x6 x7 x8 x9 x10 y0 : Int)
    (F : ∃ (S1 : ms), EV q 336 0 [some (.ref 367), some (vI y0)] [] S none S1 ∧ EV q 338 208 [some (.ref 367), some (vI x1), some (vI x2), some (vI x3), some (vI x4), some (vI x5), some (vI x6), some (vI x7), some (vI x8), some (vI x9), some (vI (x10 + 1))] [] S1 r S') : EV q 338 282 [some (.ref 367), some (vI x1), some (vI x2), some (vI x3), some (vI x4), some (vI x5), some (vI x6), some (vI x7), some (vI x8), some (vI x9), some (vI x10)] [vI y0, .ref 367] S r S' := by
  unfold EV
  obtain ⟨S1, e2, F⟩ := F
  refine mv_calv (as := [vI y0]) (rest := []) e2 (sh_367) rfl rfl rfl ⟨rfl, rfl⟩ rfl rfl rfl rfl rfl ?_
  refine mv_inc (lv' := [some (.ref 367), some (vI x1), some (vI x2), some (vI x3), some (vI x4), some (vI x5), some (vI x6), some (vI x7), some (vI x8), some (vI x9), some (vI (x10 + 1))]) 10 1 rfl rfl rfl rfl ?_
  refine mv_goto 208 rfl rfl ?_
  exact F
theorem vc_MD_openWords_314 {q : Nat × (Nat → Int32)} {S S' : ms} {r : Option Value} (x1 x2 x3 x4 x5 x6 x7 x8 x9 x10 : Int)
    (F : EV q 338 324 [some (.ref 367), some (vI x1), some (vI (x2 + 1)), some (vI x7), some (vI x9), some (vI x5), some (vI x6), none, none, none, none] [] S r S') : EV q 338 314 [some (.ref 367), some (vI x1), some (vI x2), some (vI x3), some (vI x4), some (vI x5), some (vI x6), some (vI x7), some (vI x8), some (vI x9), some (vI x10)] [] S r S' := by
  unfold EV
  refine ev_bk 4 (S' := (321, [some (.ref 367), some (vI x1), some (vI x2), some (vI x7), some (vI x9), some (vI x5), some (vI x6), some (vI x7), some (vI x8), some (vI x9), some (vI x10)], [], hp S, 0, 0)) rfl ?_
  refine mv_inc (lv' := [some (.ref 367), some (vI x1), some (vI (x2 + 1)), some (vI x7), some (vI x9), some (vI x5), some (vI x6), some (vI x7), some (vI x8), some (vI x9), some (vI x10)]) 2 1 rfl rfl rfl rfl ?_
  exact ev_wk (le_s (le_s (le_s (le_s (le_s (le_s (le_s (le_n (le_n (le_n (le_n le_0))))))))))) F
theorem vc_MD_openWords_324 {q : Nat × (Nat → Int32)} {S S' : ms} {r : Option Value} (x1 x2 x3 x4 x5 x6 : Int)
    (F : EV q 338 41 [some (.ref 367), some (vI x1), some (vI x2), some (vI x3), some (vI x4), some (vI x5), none, none, none, none, none] [] S r S') : EV q 338 324 [some (.ref 367), some (vI x1), some (vI x2), some (vI x3), some (vI x4), some (vI x5), some (vI x6), none, none, none, none] [] S r S' := by
  unfold EV
  refine mv_goto 41 rfl rfl ?_
  exact ev_wk (le_s (le_s (le_s (le_s (le_s (le_s (le_n (le_s (le_s (le_s (le_s le_0))))))))))) F
theorem vc_MD_openWords_327 {q : Nat × (Nat → Int32)} {S S' : ms} {r : Option Value} (x1 x2 x3 x4 x5 : Int)
    (F : ∃ (S1 : ms), EV q 341 0 [some (.ref 367)] [] S none S1 ∧ r = none ∧ S' = S1) : EV q 338 327 [some (.ref 367), some (vI x1), some (vI x2), some (vI x3), some (vI x4), some (vI x5), none, none, none, none, none] [] S r S' := by
  unfold EV
  refine ev_bk 1 (S' := (328, [some (.ref 367), some (vI x1), some (vI x2), some (vI x3), some (vI x4), some (vI x5), none, none, none, none, none], [.ref 367], hp S, 0, 0)) rfl ?_
  obtain ⟨S1, e2, F⟩ := F
  refine mv_calv (as := []) (rest := []) e2 (sh_367) rfl rfl rfl ⟨rfl, rfl⟩ rfl rfl rfl rfl rfl ?_
  obtain ⟨rfl, rfl⟩ := F
  exact ev_ret rfl rfl
theorem vc_MD_nextBits {q : Nat × (Nat → Int32)} {S S' : ms} {r : Option Value} (x1 : Int)
    (F : EV q 339 5 [some (.ref 367), some (vI x1), some (vL 0), none, some (vI 0), none, none] [] S r S') : EV q 339 0 [some (.ref 367), some (vI x1), none, none, none, none, none] [] S r S' := by
  unfold EV
  refine ev_bk 4 (S' := (5, [some (.ref 367), some (vI x1), some (vL 0), none, some (vI 0), none, none], [], hp S, 0, 0)) rfl ?_
  exact F
theorem vc_MD_nextBits_5 {q : Nat × (Nat → Int32)} {S S' : ms} {r : Option Value} (x1 x2 x4 : Int)
    (F : ((w32 x1 ≤ w32 x4) → r = some (vL x2) ∧ S' = S) ∧ ((¬ w32 x1 ≤ w32 x4) → ∃ (z3 : Int) (S1 : ms), EV q 340 0 [some (.ref 367), none] [] S (some (vI z3)) S1 ∧ ((w32 (S1.1 367 18) = 0) → EV q 339 41 [some (.ref 367), some (vI x1), some (vL x2), none, some (vI x4), some (vL (w32 z3)), none] [vL (lO x2 ((w32 z3) * ((2 : Int) ^ (x4 % 64).toNat)))] S1 r S') ∧ ((¬ w32 (S1.1 367 18) = 0) → EV q 339 41 [some (.ref 367), some (vI x1), some (vL x2), none, some (vI x4), some (vL (w32 z3)), none] [vL (lO (x2 * 2) (w32 z3))] S1 r S'))) : EV q 339 5 [some (.ref 367), some (vI x1), some (vL x2), none, some (vI x4), none, none] [] S r S' := by
  unfold EV
  refine ev_bk 2 (S' := (8, [some (.ref 367), some (vI x1), some (vL x2), none, some (vI x4), none, none], [vI x1, vI x4], hp S, 0, 0)) rfl ?_
  refine mv_icmp 48 rfl rfl (fun c => ?_) (fun c => ?_)
  · have F := F.1 c
    refine ev_bk 1 (S' := (49, [some (.ref 367), some (vI x1), some (vL x2), none, some (vI x4), none, none], [vL x2], hp S, 0, 0)) rfl ?_
    obtain ⟨rfl, rfl⟩ := F
    exact ev_ret rfl rfl
  · have F := F.2 c
    refine ev_bk 1 (S' := (12, [some (.ref 367), some (vI x1), some (vL x2), none, some (vI x4), none, none], [.ref 367], hp S, 0, 0)) rfl ?_
    obtain ⟨z3, S1, e2, F⟩ := F
    refine mv_calv (as := []) (rest := []) e2 (sh_367) rfl rfl rfl ⟨rfl, rfl⟩ rfl rfl rfl rfl rfl ?_
    refine mv_i2l rfl ?_
    refine ev_bk 2 (S' := (19, [some (.ref 367), some (vI x1), some (vL x2), none, some (vI x4), some (vL (w32 z3)), none], [.ref 367], hp S1, 0, 0)) rfl ?_
    refine mv_gfI rfl rfl (sh_367) (by decide) rfl ?_
    refine mv_if 34 rfl rfl (fun c => ?_) (fun c => ?_)
    · have F := F.1 c
      refine ev_bk 3 (S' := (39, [some (.ref 367), some (vI x1), some (vL x2), none, some (vI x4), some (vL (w32 z3)), none], [vI x4, vL (w32 z3), vL x2], hp S1, 0, 0)) rfl ?_
      refine mv_lshl ((2 : Int) ^ (x4 % 64).toNat) rfl rfl ?_
      refine mv_lor rfl ?_
      exact F
    · have F := F.2 c
      refine ev_bk 2 (S' := (27, [some (.ref 367), some (vI x1), some (vL x2), none, some (vI x4), some (vL (w32 z3)), none], [vI 1, vL x2], hp S1, 0, 0)) rfl ?_
      refine mv_lshl 2 rfl rfl ?_
      refine ev_bk 1 (S' := (30, [some (.ref 367), some (vI x1), some (vL x2), none, some (vI x4), some (vL (w32 z3)), none], [vL (w32 z3), vL (x2 * 2)], hp S1, 0, 0)) rfl ?_
      refine mv_lor rfl ?_
      refine mv_goto 41 rfl rfl ?_
      exact F
theorem vc_MD_nextBits_41 {q : Nat × (Nat → Int32)} {S S' : ms} {r : Option Value} (x1 x2 x4 x5 y0 : Int)
    (F : EV q 339 5 [some (.ref 367), some (vI x1), some (vL y0), none, some (vI (x4 + 1)), none, none] [] S r S') : EV q 339 41 [some (.ref 367), some (vI x1), some (vL x2), none, some (vI x4), some (vL x5), none] [vL y0] S r S' := by
  unfold EV
  refine ev_bk 1 (S' := (42, [some (.ref 367), some (vI x1), some (vL y0), none, some (vI x4), some (vL x5), none], [], hp S, 0, 0)) rfl ?_
  refine mv_inc (lv' := [some (.ref 367), some (vI x1), some (vL y0), none, some (vI (x4 + 1)), some (vL x5), none]) 4 1 rfl rfl rfl rfl ?_
  refine mv_goto 5 rfl rfl ?_
  exact ev_wk (le_s (le_s (le_s (le_s (le_s (le_n (le_s le_0))))))) F
theorem vc_MD_nextBit {q : Nat × (Nat → Int32)} {S S' : ms} {r : Option Value}
    (F : ((w32 (S.1 367 19) = 0) → ((w32 (S.1 367 16) < w32 (S.1 367 15)) → ∃ (o1 no1 : Nat), S.2.2 367 13 = o1 ∧ SH o1 = (1, no1, []) ∧ (0 ≤ w32 (S.1 367 16) ∧ w32 (S.1 367 16) < (no1 : Nat)) ∧ ((w32 (S.1 367 18) = 0) → EV q 340 61 [some (.ref 367), none] [vI (S.1 367 17), vI (S.1 o1 (w32 (S.1 367 16)))] S r S') ∧ ((¬ w32 (S.1 367 18) = 0) → EV q 340 61 [some (.ref 367), none] [vI (7 - (S.1 367 17)), vI (S.1 o1 (w32 (S.1 367 16)))] S r S')) ∧ ((¬ w32 (S.1 367 16) < w32 (S.1 367 15)) → ∃ (S5 : ms), EV q 335 0 [some (.ref 367), some (vI 1), some (vI (S.1 367 15))] [] S none S5 ∧ r = some (vI 0) ∧ S' = S5)) ∧ ((¬ w32 (S.1 367 19) = 0) → r = some (vI 0) ∧ S' = S)) : EV q 340 0 [some (.ref 367), none] [] S r S' := by
  unfold EV
  refine ev_bk 1 (S' := (1, [some (.ref 367), none], [.ref 367], hp S, 0, 0)) rfl ?_
  refine mv_gfI rfl rfl (sh_367) (by decide) rfl ?_
  refine mv_if 9 rfl rfl (fun c => ?_) (fun c => ?_)
  · have F := F.1 c
    refine ev_bk 1 (S' := (10, [some (.ref 367), none], [.ref 367], hp S, 0, 0)) rfl ?_
    refine mv_gfI rfl rfl (sh_367) (by decide) rfl ?_
    refine ev_bk 1 (S' := (14, [some (.ref 367), none], [.ref 367, vI (S.1 367 16)], hp S, 0, 0)) rfl ?_
    refine mv_gfI rfl rfl (sh_367) (by decide) rfl ?_
    refine mv_icmp 31 rfl rfl (fun c => ?_) (fun c => ?_)
    · have F := F.1 c
      refine ev_bk 1 (S' := (32, [some (.ref 367), none], [.ref 367], hp S, 0, 0)) rfl ?_
      obtain ⟨o1, no1, e3, h2, F⟩ := F
      refine mv_gfV rfl rfl (sh_367) (by decide) rfl e3 ?_
      refine ev_bk 1 (S' := (36, [some (.ref 367), none], [.ref 367, .ref o1], hp S, 0, 0)) rfl ?_
      refine mv_gfI rfl rfl (sh_367) (by decide) rfl ?_
      obtain ⟨b4, F⟩ := F
      refine mv_bal rfl (h2) b4 ?_
      refine ev_bk 1 (S' := (41, [some (.ref 367), none], [.ref 367, vI (S.1 o1 (w32 (S.1 367 16)))], hp S, 0, 0)) rfl ?_
      refine mv_gfI rfl rfl (sh_367) (by decide) rfl ?_
      refine mv_if 57 rfl rfl (fun c => ?_) (fun c => ?_)
      · have F := F.1 c
        refine ev_bk 1 (S' := (58, [some (.ref 367), none], [.ref 367, vI (S.1 o1 (w32 (S.1 367 16)))], hp S, 0, 0)) rfl ?_
        refine mv_gfI rfl rfl (sh_367) (by decide) rfl ?_
        exact F
      · have F := F.2 c
        refine ev_bk 2 (S' := (50, [some (.ref 367), none], [.ref 367, vI 7, vI (S.1 o1 (w32 (S.1 367 16)))], hp S, 0, 0)) rfl ?_
        refine mv_gfI rfl rfl (sh_367) (by decide) rfl ?_
        refine mv_isub rfl ?_
        refine mv_goto 61 rfl rfl ?_
        exact F
    · have F := F.2 c
      refine ev_bk 3 (S' := (23, [some (.ref 367), none], [.ref 367, vI 1, .ref 367], hp S, 0, 0)) rfl ?_
      refine mv_gfI rfl rfl (sh_367) (by decide) rfl ?_
      obtain ⟨S5, e6, F⟩ := F
      refine mv_calv (as := [vI 1, vI (S.1 367 15)]) (rest := []) e6 (sh_367) rfl rfl rfl ⟨rfl, rfl⟩ rfl rfl rfl rfl rfl ?_
      refine ev_bk 1 (S' := (30, [some (.ref 367), none], [vI 0], hp S5, 0, 0)) rfl ?_
      obtain ⟨rfl, rfl⟩ := F
      exact ev_ret rfl rfl
  · have F := F.2 c
    refine ev_bk 1 (S' := (8, [some (.ref 367), none], [vI 0], hp S, 0, 0)) rfl ?_
    obtain ⟨rfl, rfl⟩ := F
    exact ev_ret rfl rfl
theorem vc_MD_nextBit_61 {q : Nat × (Nat → Int32)} {S S' : ms} {r : Option Value} (y0 y1 : Int)
    (F : ∀ S1 : ms, S1 = wI S 367 17 (S.1 367 17 + 1) → ((¬ w32 (S1.1 367 17) = 8) → r = some (vI ((w32 y1 / ((2 : Int) ^ (y0 % 32).toNat)) % 2)) ∧ S' = S1) ∧ ((¬ (¬ w32 (S1.1 367 17) = 8)) → ∀ S2 : ms, S2 = wI S1 367 17 0 → ∀ S3 : ms, S3 = wI S2 367 16 (S2.1 367 16 + 1) → r = some (vI ((w32 y1 / ((2 : Int) ^ (y0 % 32).toNat)) % 2)) ∧ S' = S3)) : EV q 340 61 [some (.ref 367), none] [vI y0, vI y1] S r S' := by
  unfold EV
  refine mv_ishr ((2 : Int) ^ (y0 % 32).toNat) rfl rfl ?_
  refine ev_bk 1 (S' := (63, [some (.ref 367), none], [vI 1, vI (w32 y1 / ((2 : Int) ^ (y0 % 32).toNat))], hp S, 0, 0)) rfl ?_
  refine mv_iandm 2 1 (by decide) rfl rfl rfl ?_
  refine ev_bk 3 (S' := (67, [some (.ref 367), some (vI ((w32 y1 / ((2 : Int) ^ (y0 % 32).toNat)) % 2))], [.ref 367, .ref 367], hp S, 0, 0)) rfl ?_
  refine mv_gfI rfl rfl (sh_367) (by decide) rfl ?_
  refine ev_bk 1 (S' := (71, [some (.ref 367), some (vI ((w32 y1 / ((2 : Int) ^ (y0 % 32).toNat)) % 2))], [vI 1, vI (S.1 367 17), .ref 367], hp S, 0, 0)) rfl ?_
  refine mv_iadd rfl ?_
  refine mv_pfI rfl rfl (sh_367) (by decide) rfl rfl ?_
  have F := F _ rfl
  refine ev_bk 1 (S' := (76, [some (.ref 367), some (vI ((w32 y1 / ((2 : Int) ^ (y0 % 32).toNat)) % 2))], [.ref 367], hp (wI S 367 17 (S.1 367 17 + 1)), 0, 0)) rfl ?_
  refine mv_gfI rfl rfl (sh_367) (by decide) rfl ?_
  refine ev_bk 1 (S' := (81, [some (.ref 367), some (vI ((w32 y1 / ((2 : Int) ^ (y0 % 32).toNat)) % 2))], [vI 8, vI ((wI S 367 17 (S.1 367 17 + 1)).1 367 17)], hp (wI S 367 17 (S.1 367 17 + 1)), 0, 0)) rfl ?_
  refine mv_icmp 99 rfl rfl (fun c => ?_) (fun c => ?_)
  · have F := F.1 c
    refine ev_bk 1 (S' := (100, [some (.ref 367), some (vI ((w32 y1 / ((2 : Int) ^ (y0 % 32).toNat)) % 2))], [vI ((w32 y1 / ((2 : Int) ^ (y0 % 32).toNat)) % 2)], hp (wI S 367 17 (S.1 367 17 + 1)), 0, 0)) rfl ?_
    obtain ⟨rfl, rfl⟩ := F
    exact ev_ret rfl rfl
  · have F := F.2 c
    refine ev_bk 2 (S' := (86, [some (.ref 367), some (vI ((w32 y1 / ((2 : Int) ^ (y0 % 32).toNat)) % 2))], [vI 0, .ref 367], hp (wI S 367 17 (S.1 367 17 + 1)), 0, 0)) rfl ?_
    refine mv_pfI rfl rfl (sh_367) (by decide) rfl rfl ?_
    have F := F _ rfl
    refine ev_bk 2 (S' := (91, [some (.ref 367), some (vI ((w32 y1 / ((2 : Int) ^ (y0 % 32).toNat)) % 2))], [.ref 367, .ref 367], hp (wI (wI S 367 17 (S.1 367 17 + 1)) 367 17 0), 0, 0)) rfl ?_
    refine mv_gfI rfl rfl (sh_367) (by decide) rfl ?_
    refine ev_bk 1 (S' := (95, [some (.ref 367), some (vI ((w32 y1 / ((2 : Int) ^ (y0 % 32).toNat)) % 2))], [vI 1, vI ((wI (wI S 367 17 (S.1 367 17 + 1)) 367 17 0).1 367 16), .ref 367], hp (wI (wI S 367 17 (S.1 367 17 + 1)) 367 17 0), 0, 0)) rfl ?_
    refine mv_iadd rfl ?_
    refine mv_pfI rfl rfl (sh_367) (by decide) rfl rfl ?_
    have F := F _ rfl
    refine ev_bk 1 (S' := (100, [some (.ref 367), some (vI ((w32 y1 / ((2 : Int) ^ (y0 % 32).toNat)) % 2))], [vI ((w32 y1 / ((2 : Int) ^ (y0 % 32).toNat)) % 2)], hp (wI (wI (wI S 367 17 (S.1 367 17 + 1)) 367 17 0) 367 16 ((wI (wI S 367 17 (S.1 367 17 + 1)) 367 17 0).1 367 16 + 1)), 0, 0)) rfl ?_
    obtain ⟨rfl, rfl⟩ := F
    exact ev_ret rfl rfl
theorem vc_MD_end {q : Nat × (Nat → Int32)} {S S' : ms} {r : Option Value}
    (F : ∃ (S1 : ms), EV q 342 0 [some (.ref 367)] [] S none S1 ∧ ((¬ w32 (S1.1 367 19) = 0) → r = none ∧ S' = S1) ∧ ((¬ (¬ w32 (S1.1 367 19) = 0)) → ((w32 (S1.1 367 15) ≤ w32 (S1.1 367 16)) → r = none ∧ S' = S1) ∧ ((¬ w32 (S1.1 367 15) ≤ w32 (S1.1 367 16)) → ∃ (S3 : ms), EV q 335 0 [some (.ref 367), some (vI 14), some (vI (S1.1 367 16))] [] S1 none S3 ∧ r = none ∧ S' = S3))) : EV q 341 0 [some (.ref 367)] [] S r S' := by
  unfold EV
  refine ev_bk 1 (S' := (1, [some (.ref 367)], [.ref 367], hp S, 0, 0)) rfl ?_
  obtain ⟨S1, e2, F⟩ := F
  refine mv_calv (as := []) (rest := []) e2 (sh_367) rfl rfl rfl ⟨rfl, rfl⟩ rfl rfl rfl rfl rfl ?_
  refine ev_bk 1 (S' := (5, [some (.ref 367)], [.ref 367], hp S1, 0, 0)) rfl ?_
  refine mv_gfI rfl rfl (sh_367) (by decide) rfl ?_
  refine mv_if 32 rfl rfl (fun c => ?_) (fun c => ?_)
  · have F := F.1 c
    obtain ⟨rfl, rfl⟩ := F
    exact ev_ret rfl rfl
  · have F := F.2 c
    refine ev_bk 1 (S' := (12, [some (.ref 367)], [.ref 367], hp S1, 0, 0)) rfl ?_
    refine mv_gfI rfl rfl (sh_367) (by decide) rfl ?_
    refine ev_bk 1 (S' := (16, [some (.ref 367)], [.ref 367, vI (S1.1 367 16)], hp S1, 0, 0)) rfl ?_
    refine mv_gfI rfl rfl (sh_367) (by decide) rfl ?_
    refine mv_icmp 32 rfl rfl (fun c => ?_) (fun c => ?_)
    · have F := F.1 c
      obtain ⟨rfl, rfl⟩ := F
      exact ev_ret rfl rfl
    · have F := F.2 c
      refine ev_bk 3 (S' := (26, [some (.ref 367)], [.ref 367, vI 14, .ref 367], hp S1, 0, 0)) rfl ?_
      refine mv_gfI rfl rfl (sh_367) (by decide) rfl ?_
      obtain ⟨S3, e4, F⟩ := F
      refine mv_calv (as := [vI 14, vI (S1.1 367 16)]) (rest := []) e4 (sh_367) rfl rfl rfl ⟨rfl, rfl⟩ rfl rfl rfl rfl rfl ?_
      obtain ⟨rfl, rfl⟩ := F
      exact ev_ret rfl rfl
theorem vc_MD_nextWhole {q : Nat × (Nat → Int32)} {S S' : ms} {r : Option Value}
    (F : ((w32 (S.1 367 17) ≤ 0) → r = none ∧ S' = S) ∧ ((¬ w32 (S.1 367 17) ≤ 0) → ∀ S1 : ms, S1 = wI S 367 17 0 → ∀ S2 : ms, S2 = wI S1 367 16 (S1.1 367 16 + 1) → r = none ∧ S' = S2)) : EV q 342 0 [some (.ref 367)] [] S r S' := by
  unfold EV
  refine ev_bk 1 (S' := (1, [some (.ref 367)], [.ref 367], hp S, 0, 0)) rfl ?_
  refine mv_gfI rfl rfl (sh_367) (by decide) rfl ?_
  refine mv_if 22 rfl rfl (fun c => ?_) (fun c => ?_)
  · have F := F.1 c
    obtain ⟨rfl, rfl⟩ := F
    exact ev_ret rfl rfl
  · have F := F.2 c
    refine ev_bk 2 (S' := (9, [some (.ref 367)], [vI 0, .ref 367], hp S, 0, 0)) rfl ?_
    refine mv_pfI rfl rfl (sh_367) (by decide) rfl rfl ?_
    have F := F _ rfl
    refine ev_bk 2 (S' := (14, [some (.ref 367)], [.ref 367, .ref 367], hp (wI S 367 17 0), 0, 0)) rfl ?_
    refine mv_gfI rfl rfl (sh_367) (by decide) rfl ?_
    refine ev_bk 1 (S' := (18, [some (.ref 367)], [vI 1, vI ((wI S 367 17 0).1 367 16), .ref 367], hp (wI S 367 17 0), 0, 0)) rfl ?_
    refine mv_iadd rfl ?_
    refine mv_pfI rfl rfl (sh_367) (by decide) rfl rfl ?_
    have F := F _ rfl
    obtain ⟨rfl, rfl⟩ := F
    exact ev_ret rfl rfl
theorem vc_MD_openBlocks {q : Nat × (Nat → Int32)} {S S' : ms} {r : Option Value} (x1 : Int)
    (F : ∃ (S1 : ms), EV q 290 0 [some (.ref 367), none, none] [] S none S1 ∧ ∀ S3 : ms, S3 = wI S1 367 18 0 → ∀ S4 : ms, S4 = wJ S3 367 60 x1 → EV q 343 16 [some (.ref 367), some (vL x1), none, some (vI 0), none] [] S4 r S') : EV q 343 0 [some (.ref 367), some (vL x1), none, none, none] [] S r S' := by
  unfold EV
  refine ev_bk 1 (S' := (1, [some (.ref 367), some (vL x1), none, none, none], [.ref 367], hp S, 0, 0)) rfl ?_
  obtain ⟨S1, e2, F⟩ := F
  refine mv_calv (as := []) (rest := []) e2 (sh_367) rfl rfl rfl ⟨rfl, rfl⟩ rfl rfl rfl rfl rfl ?_
  refine ev_bk 2 (S' := (6, [some (.ref 367), some (vL x1), none, none, none], [vI 0, .ref 367], hp S1, 0, 0)) rfl ?_
  refine mv_pfI rfl rfl (sh_367) (by decide) rfl rfl ?_
  have F := F _ rfl
  refine ev_bk 2 (S' := (11, [some (.ref 367), some (vL x1), none, none, none], [vL x1, .ref 367], hp (wI S1 367 18 0), 0, 0)) rfl ?_
  refine mv_pfJ rfl rfl (sh_367) (by decide) rfl rfl ?_
  have F := F _ rfl
  refine ev_bk 2 (S' := (16, [some (.ref 367), some (vL x1), none, some (vI 0), none], [], hp (wJ (wI S1 367 18 0) 367 60 x1), 0, 0)) rfl ?_
  exact F
theorem vc_MD_openBlocks_16 {q : Nat × (Nat → Int32)} {S S' : ms} {r : Option Value} (x1 x3 : Int)
    (F : ((¬ w32 x3 = 0) → EV q 343 120 [some (.ref 367), some (vL x1), none, some (vI x3), none] [] S r S') ∧ ((¬ (¬ w32 x3 = 0)) → ∃ (z3 : Int) (S1 : ms), EV q 333 0 [some (.ref 367)] [] S (some (vI z3)) S1 ∧ ((w32 z3 = 0) → EV q 343 120 [some (.ref 367), some (vL x1), none, some (vI x3), none] [] S1 r S') ∧ ((¬ w32 z3 = 0) → ∃ (z6 : Int) (S4 : ms), EV q 340 0 [some (.ref 367), none] [] S1 (some (vI z6)) S4 ∧ ((¬ w32 z6 = 1) → EV q 343 40 [some (.ref 367), some (vL x1), none, some (vI x3), none] [vI 0] S4 r S') ∧ ((¬ (¬ w32 z6 = 1)) → EV q 343 40 [some (.ref 367), some (vL x1), none, some (vI x3), none] [vI 1] S4 r S')))) : EV q 343 16 [some (.ref 367), some (vL x1), none, some (vI x3), none] [] S r S' := by
  unfold EV
  refine ev_bk 1 (S' := (17, [some (.ref 367), some (vL x1), none, some (vI x3), none], [vI x3], hp S, 0, 0)) rfl ?_
  refine mv_if 120 rfl rfl (fun c => ?_) (fun c => ?_)
  · have F := F.1 c
    exact F
  · have F := F.2 c
    refine ev_bk 1 (S' := (21, [some (.ref 367), some (vL x1), none, some (vI x3), none], [.ref 367], hp S, 0, 0)) rfl ?_
    obtain ⟨z3, S1, e2, F⟩ := F
    refine mv_calv (as := []) (rest := []) e2 (sh_367) rfl rfl rfl ⟨rfl, rfl⟩ rfl rfl rfl rfl rfl ?_
    refine mv_if 120 rfl rfl (fun c => ?_) (fun c => ?_)
    · have F := F.1 c
      exact F
    · have F := F.2 c
      refine ev_bk 1 (S' := (28, [some (.ref 367), some (vL x1), none, some (vI x3), none], [.ref 367], hp S1, 0, 0)) rfl ?_
      obtain ⟨z6, S4, e5, F⟩ := F
      refine mv_calv (as := []) (rest := []) e5 (sh_367) rfl rfl rfl ⟨rfl, rfl⟩ rfl rfl rfl rfl rfl ?_
      refine ev_bk 1 (S' := (32, [some (.ref 367), some (vL x1), none, some (vI x3), none], [vI 1, vI z6], hp S4, 0, 0)) rfl ?_
      refine mv_icmp 39 rfl rfl (fun c => ?_) (fun c => ?_)
      · have F := F.1 c
        refine ev_bk 1 (S' := (40, [some (.ref 367), some (vL x1), none, some (vI x3), none], [vI 0], hp S4, 0, 0)) rfl ?_
        exact F
      · have F := F.2 c
        refine ev_bk 1 (S' := (36, [some (.ref 367), some (vL x1), none, some (vI x3), none], [vI 1], hp S4, 0, 0)) rfl ?_
        refine mv_goto 40 rfl rfl ?_
        exact F
theorem vc_MD_openBlocks_40 {q : Nat × (Nat → Int32)} {S S' : ms} {r : Option Value} (x1 x3 y0 : Int)
    (F : ∃ (z3 : Int) (S1 : ms), EV q 339 0 [some (.ref 367), some (vI 2), none, none, none, none, none] [] S (some (vL z3)) S1 ∧ ∃ (z6 : Int) (S4 : ms), EV q 333 0 [some (.ref 367)] [] S1 (some (vI z6)) S4 ∧ ((¬ w32 z6 = 0) → ((¬ w32 z3 = 0) → ((¬ w32 z3 = 3) → ∀ S7 : ms, S7 = wI S4 367 58 288 → ∀ S8 : ms, S8 = wI S7 367 59 32 → ((¬ w32 z3 = 1) → ∃ (S9 : ms), EV q 346 0 [some (.ref 367), none, none, none, none, none, none, none, none] [] S8 none S9 ∧ EV q 343 113 [some (.ref 367), some (vL x1), none, some (vI y0), some (vI z3)] [] S9 r S') ∧ ((¬ (¬ w32 z3 = 1)) → ∃ (S11 : ms), EV q 306 0 [some (.ref 367), none, none] [] S8 none S11 ∧ EV q 343 113 [some (.ref 367), some (vL x1), none, some (vI y0), some (vI z3)] [] S11 r S')) ∧ ((¬ (¬ w32 z3 = 3)) → ∃ (S13 : ms), EV q 337 0 [some (.ref 367), some (vI 2)] [] S4 none S13 ∧ EV q 343 117 [some (.ref 367), some (vL x1), none, some (vI y0), some (vI z3)] [] S13 r S')) ∧ ((¬ (¬ w32 z3 = 0)) → ∃ (S15 : ms), EV q 344 0 [some (.ref 367), none, none, none, none, none, none, none] [] S4 none S15 ∧ EV q 343 117 [some (.ref 367), some (vL x1), none, some (vI y0), some (vI z3)] [] S15 r S')) ∧ ((¬ (¬ w32 z6 = 0)) → r = none ∧ S' = S4)) : EV q 343 40 [some (.ref 367), some (vL x1), none, some (vI x3), none] [vI y0] S r S' := by
  unfold EV
  refine ev_bk 3 (S' := (43, [some (.ref 367), some (vL x1), none, some (vI y0), none], [vI 2, .ref 367], hp S, 0, 0)) rfl ?_
  obtain ⟨z3, S1, e2, F⟩ := F
  refine mv_calv (as := [vI 2]) (rest := []) e2 (sh_367) rfl rfl rfl ⟨rfl, rfl⟩ rfl rfl rfl rfl rfl ?_
  refine mv_l2i rfl ?_
  refine ev_bk 2 (S' := (50, [some (.ref 367), some (vL x1), none, some (vI y0), some (vI z3)], [.ref 367], hp S1, 0, 0)) rfl ?_
  obtain ⟨z6, S4, e5, F⟩ := F
  refine mv_calv (as := []) (rest := []) e5 (sh_367) rfl rfl rfl ⟨rfl, rfl⟩ rfl rfl rfl rfl rfl ?_
  refine mv_if 57 rfl rfl (fun c => ?_) (fun c => ?_)
  · have F := F.1 c
    refine ev_bk 1 (S' := (59, [some (.ref 367), some (vL x1), none, some (vI y0), some (vI z3)], [vI z3], hp S4, 0, 0)) rfl ?_
    refine mv_if 69 rfl rfl (fun c => ?_) (fun c => ?_)
    · have F := F.1 c
      refine ev_bk 2 (S' := (72, [some (.ref 367), some (vL x1), none, some (vI y0), some (vI z3)], [vI 3, vI z3], hp S4, 0, 0)) rfl ?_
      refine mv_icmp 83 rfl rfl (fun c => ?_) (fun c => ?_)
      · have F := F.1 c
        refine ev_bk 2 (S' := (87, [some (.ref 367), some (vL x1), none, some (vI y0), some (vI z3)], [vI 288, .ref 367], hp S4, 0, 0)) rfl ?_
        refine mv_pfI rfl rfl (sh_367) (by decide) rfl rfl ?_
        have F := F _ rfl
        refine ev_bk 2 (S' := (93, [some (.ref 367), some (vL x1), none, some (vI y0), some (vI z3)], [vI 32, .ref 367], hp (wI S4 367 58 288), 0, 0)) rfl ?_
        refine mv_pfI rfl rfl (sh_367) (by decide) rfl rfl ?_
        have F := F _ rfl
        refine ev_bk 2 (S' := (99, [some (.ref 367), some (vL x1), none, some (vI y0), some (vI z3)], [vI 1, vI z3], hp (wI (wI S4 367 58 288) 367 59 32), 0, 0)) rfl ?_
        refine mv_icmp 109 rfl rfl (fun c => ?_) (fun c => ?_)
        · have F := F.1 c
          refine ev_bk 1 (S' := (110, [some (.ref 367), some (vL x1), none, some (vI y0), some (vI z3)], [.ref 367], hp (wI (wI S4 367 58 288) 367 59 32), 0, 0)) rfl ?_
          obtain ⟨S9, e10, F⟩ := F
          refine mv_calv (as := []) (rest := []) e10 (sh_367) rfl rfl rfl ⟨rfl, rfl⟩ rfl rfl rfl rfl rfl ?_
          exact F
        · have F := F.2 c
          refine ev_bk 1 (S' := (103, [some (.ref 367), some (vL x1), none, some (vI y0), some (vI z3)], [.ref 367], hp (wI (wI S4 367 58 288) 367 59 32), 0, 0)) rfl ?_
          obtain ⟨S11, e12, F⟩ := F
          refine mv_calv (as := []) (rest := []) e12 (sh_367) rfl rfl rfl ⟨rfl, rfl⟩ rfl rfl rfl rfl rfl ?_
          refine mv_goto 113 rfl rfl ?_
          exact F
      · have F := F.2 c
        refine ev_bk 2 (S' := (77, [some (.ref 367), some (vL x1), none, some (vI y0), some (vI z3)], [vI 2, .ref 367], hp S4, 0, 0)) rfl ?_
        obtain ⟨S13, e14, F⟩ := F
        refine mv_calv (as := [vI 2]) (rest := []) e14 (sh_367) rfl rfl rfl ⟨rfl, rfl⟩ rfl rfl rfl rfl rfl ?_
        refine mv_goto 117 rfl rfl ?_
        exact F
    · have F := F.2 c
      refine ev_bk 1 (S' := (63, [some (.ref 367), some (vL x1), none, some (vI y0), some (vI z3)], [.ref 367], hp S4, 0, 0)) rfl ?_
      obtain ⟨S15, e16, F⟩ := F
      refine mv_calv (as := []) (rest := []) e16 (sh_367) rfl rfl rfl ⟨rfl, rfl⟩ rfl rfl rfl rfl rfl ?_
      refine mv_goto 117 rfl rfl ?_
      exact F
  · have F := F.2 c
    obtain ⟨rfl, rfl⟩ := F
    exact ev_ret rfl rfl
theorem vc_MD_openBlocks_113 {q : Nat × (Nat → Int32)} {S S' : ms} {r : Option Value} (x1 x3 x4 : Int)
    (F : ∃ (S1 : ms), EV q 349 0 [some (.ref 367), none, none, none, none, none, none, none] [] S none S1 ∧ EV q 343 117 [some (.ref 367), some (vL x1), none, some (vI x3), some (vI x4)] [] S1 r S') : EV q 343 113 [some (.ref 367), some (vL x1), none, some (vI x3), some (vI x4)] [] S r S' := by
  unfold EV
  refine ev_bk 1 (S' := (114, [some (.ref 367), some (vL x1), none, some (vI x3), some (vI x4)], [.ref 367], hp S, 0, 0)) rfl ?_
  obtain ⟨S1, e2, F⟩ := F
  refine mv_calv (as := []) (rest := []) e2 (sh_367) rfl rfl rfl ⟨rfl, rfl⟩ rfl rfl rfl rfl rfl ?_
  exact F
theorem vc_MD_openBlocks_117 {q : Nat × (Nat → Int32)} {S S' : ms} {r : Option Value} (x1 x3 x4 : Int)
    (F : EV q 343 16 [some (.ref 367), some (vL x1), none, some (vI x3), none] [] S r S') : EV q 343 117 [some (.ref 367), some (vL x1), none, some (vI x3), some (vI x4)] [] S r S' := by
  unfold EV
  refine mv_goto 16 rfl rfl ?_
  exact ev_wk (le_s (le_s (le_s (le_s (le_n le_0))))) F
theorem vc_MD_openBlocks_120 {q : Nat × (Nat → Int32)} {S S' : ms} {r : Option Value} (x1 x3 : Int)
    (F : ∃ (S1 : ms), EV q 342 0 [some (.ref 367)] [] S none S1 ∧ r = none ∧ S' = S1) : EV q 343 120 [some (.ref 367), some (vL x1), none, some (vI x3), none] [] S r S' := by
  unfold EV
  refine ev_bk 1 (S' := (121, [some (.ref 367), some (vL x1), none, some (vI x3), none], [.ref 367], hp S, 0, 0)) rfl ?_
  obtain ⟨S1, e2, F⟩ := F
  refine mv_calv (as := []) (rest := []) e2 (sh_367) rfl rfl rfl ⟨rfl, rfl⟩ rfl rfl rfl rfl rfl ?_
  obtain ⟨rfl, rfl⟩ := F
  exact ev_ret rfl rfl
theorem vc_MD_openStored {q : Nat × (Nat → Int32)} {S S' : ms} {r : Option Value}
    (F : ∃ (S1 : ms), EV q 342 0 [some (.ref 367)] [] S none S1 ∧ ∃ (z5 : Int) (S3 : ms), EV q 345 0 [some (.ref 367), some (vI 2), none, none, none] [] S1 (some (vL z5)) S3 ∧ ∃ (z8 : Int) (S6 : ms), EV q 345 0 [some (.ref 367), some (vI 2), none, none, none] [] S3 (some (vL z8)) S6 ∧ ∃ (z11 : Int) (S9 : ms), EV q 333 0 [some (.ref 367)] [] S6 (some (vI z11)) S9 ∧ ((w32 z11 = 0) → EV q 344 38 [some (.ref 367), some (vL z5), none, some (vL z8), none, none, none, none] [] S9 r S') ∧ ((¬ w32 z11 = 0) → ((w64 (lX z5 z8) = w64 65535) → EV q 344 38 [some (.ref 367), some (vL z5), none, some (vL z8), none, none, none, none] [] S9 r S') ∧ ((¬ w64 (lX z5 z8) = w64 65535) → ∃ (S12 : ms), EV q 337 0 [some (.ref 367), some (vI 3)] [] S9 none S12 ∧ EV q 344 38 [some (.ref 367), some (vL z5), none, some (vL z8), none, none, none, none] [] S12 r S'))) : EV q 344 0 [some (.ref 367), none, none, none, none, none, none, none] [] S r S' := by
  unfold EV
  refine ev_bk 1 (S' := (1, [some (.ref 367), none, none, none, none, none, none, none], [.ref 367], hp S, 0, 0)) rfl ?_
  obtain ⟨S1, e2, F⟩ := F
  refine mv_calv (as := []) (rest := []) e2 (sh_367) rfl rfl rfl ⟨rfl, rfl⟩ rfl rfl rfl rfl rfl ?_
  refine ev_bk 2 (S' := (6, [some (.ref 367), none, none, none, none, none, none, none], [vI 2, .ref 367], hp S1, 0, 0)) rfl ?_
  obtain ⟨z5, S3, e4, F⟩ := F
  refine mv_calv (as := [vI 2]) (rest := []) e4 (sh_367) rfl rfl rfl ⟨rfl, rfl⟩ rfl rfl rfl rfl rfl ?_
  refine ev_bk 3 (S' := (12, [some (.ref 367), some (vL z5), none, none, none, none, none, none], [vI 2, .ref 367], hp S3, 0, 0)) rfl ?_
  obtain ⟨z8, S6, e7, F⟩ := F
  refine mv_calv (as := [vI 2]) (rest := []) e7 (sh_367) rfl rfl rfl ⟨rfl, rfl⟩ rfl rfl rfl rfl rfl ?_
  refine ev_bk 2 (S' := (17, [some (.ref 367), some (vL z5), none, some (vL z8), none, none, none, none], [.ref 367], hp S6, 0, 0)) rfl ?_
  obtain ⟨z11, S9, e10, F⟩ := F
  refine mv_calv (as := []) (rest := []) e10 (sh_367) rfl rfl rfl ⟨rfl, rfl⟩ rfl rfl rfl rfl rfl ?_
  refine mv_if 38 rfl rfl (fun c => ?_) (fun c => ?_)
  · have F := F.1 c
    exact F
  · have F := F.2 c
    refine ev_bk 2 (S' := (25, [some (.ref 367), some (vL z5), none, some (vL z8), none, none, none, none], [vL z8, vL z5], hp S9, 0, 0)) rfl ?_
    refine mv_lxor rfl ?_
    refine ev_bk 1 (S' := (29, [some (.ref 367), some (vL z5), none, some (vL z8), none, none, none, none], [vL 65535, vL (lX z5 z8)], hp S9, 0, 0)) rfl ?_
    refine mv_lif 38 rfl rfl rfl (fun c => ?_) (fun c => ?_)
    · have F := F.1 c
      exact F
    · have F := F.2 c
      refine ev_bk 2 (S' := (35, [some (.ref 367), some (vL z5), none, some (vL z8), none, none, none, none], [vI 3, .ref 367], hp S9, 0, 0)) rfl ?_
      obtain ⟨S12, e13, F⟩ := F
      refine mv_calv (as := [vI 3]) (rest := []) e13 (sh_367) rfl rfl rfl ⟨rfl, rfl⟩ rfl rfl rfl rfl rfl ?_
      exact F
theorem vc_MD_openStored_38 {q : Nat × (Nat → Int32)} {S S' : ms} {r : Option Value} (x1 x3 : Int)
    (F : EV q 344 41 [some (.ref 367), some (vL x1), none, some (vL x3), none, some (vL 0), none, none] [] S r S') : EV q 344 38 [some (.ref 367), some (vL x1), none, some (vL x3), none, none, none, none] [] S r S' := by
  unfold EV
  refine ev_bk 2 (S' := (41, [some (.ref 367), some (vL x1), none, some (vL x3), none, some (vL 0), none, none], [], hp S, 0, 0)) rfl ?_
  exact F
theorem vc_MD_openStored_41 {q : Nat × (Nat → Int32)} {S S' : ms} {r : Option Value} (x1 x3 x5 : Int)
    (F : ((w64 x1 ≤ w64 x5) → r = none ∧ S' = S) ∧ ((¬ w64 x1 ≤ w64 x5) → ∃ (z3 : Int) (S1 : ms), EV q 333 0 [some (.ref 367)] [] S (some (vI z3)) S1 ∧ ((w32 z3 = 0) → r = none ∧ S' = S1) ∧ ((¬ w32 z3 = 0) → ∃ (z6 : Int) (S4 : ms), EV q 334 0 [some (.ref 367)] [] S1 (some (vI z6)) S4 ∧ ∃ (S7 : ms), EV q 336 0 [some (.ref 367), some (vI z6)] [] S4 none S7 ∧ EV q 344 41 [some (.ref 367), some (vL x1), none, some (vL x3), none, some (vL (x5 + 1)), none, none] [] S7 r S'))) : EV q 344 41 [some (.ref 367), some (vL x1), none, some (vL x3), none, some (vL x5), none, none] [] S r S' := by
  unfold EV
  refine ev_bk 2 (S' := (44, [some (.ref 367), some (vL x1), none, some (vL x3), none, some (vL x5), none, none], [vL x1, vL x5], hp S, 0, 0)) rfl ?_
  refine mv_lif 76 rfl rfl rfl (fun c => ?_) (fun c => ?_)
  · have F := F.1 c
    obtain ⟨rfl, rfl⟩ := F
    exact ev_ret rfl rfl
  · have F := F.2 c
    refine ev_bk 1 (S' := (49, [some (.ref 367), some (vL x1), none, some (vL x3), none, some (vL x5), none, none], [.ref 367], hp S, 0, 0)) rfl ?_
    obtain ⟨z3, S1, e2, F⟩ := F
    refine mv_calv (as := []) (rest := []) e2 (sh_367) rfl rfl rfl ⟨rfl, rfl⟩ rfl rfl rfl rfl rfl ?_
    refine mv_if 76 rfl rfl (fun c => ?_) (fun c => ?_)
    · have F := F.1 c
      obtain ⟨rfl, rfl⟩ := F
      exact ev_ret rfl rfl
    · have F := F.2 c
      refine ev_bk 1 (S' := (56, [some (.ref 367), some (vL x1), none, some (vL x3), none, some (vL x5), none, none], [.ref 367], hp S1, 0, 0)) rfl ?_
      obtain ⟨z6, S4, e5, F⟩ := F
      refine mv_calv (as := []) (rest := []) e5 (sh_367) rfl rfl rfl ⟨rfl, rfl⟩ rfl rfl rfl rfl rfl ?_
      refine ev_bk 3 (S' := (64, [some (.ref 367), some (vL x1), none, some (vL x3), none, some (vL x5), none, some (vI z6)], [vI z6, .ref 367], hp S4, 0, 0)) rfl ?_
      obtain ⟨S7, e8, F⟩ := F
      refine mv_calv (as := [vI z6]) (rest := []) e8 (sh_367) rfl rfl rfl ⟨rfl, rfl⟩ rfl rfl rfl rfl rfl ?_
      refine ev_bk 2 (S' := (70, [some (.ref 367), some (vL x1), none, some (vL x3), none, some (vL x5), none, some (vI z6)], [vL 1, vL x5], hp S7, 0, 0)) rfl ?_
      refine mv_ladd rfl ?_
      refine ev_bk 1 (S' := (73, [some (.ref 367), some (vL x1), none, some (vL x3), none, some (vL (x5 + 1)), none, some (vI z6)], [], hp S7, 0, 0)) rfl ?_
      refine mv_goto 41 rfl rfl ?_
      exact ev_wk (le_s (le_s (le_s (le_s (le_s (le_s (le_s (le_n le_0)))))))) F
theorem vc_MD_lowNumber {q : Nat × (Nat → Int32)} {S S' : ms} {r : Option Value} (x1 : Int)
    (F : EV q 345 5 [some (.ref 367), some (vI x1), some (vL 0), none, some (vI 0)] [] S r S') : EV q 345 0 [some (.ref 367), some (vI x1), none, none, none] [] S r S' := by
  unfold EV
  refine ev_bk 4 (S' := (5, [some (.ref 367), some (vI x1), some (vL 0), none, some (vI 0)], [], hp S, 0, 0)) rfl ?_
  exact F
theorem vc_MD_lowNumber_5 {q : Nat × (Nat → Int32)} {S S' : ms} {r : Option Value} (x1 x2 x4 : Int)
    (F : ((w32 x1 ≤ w32 x4) → r = some (vL x2) ∧ S' = S) ∧ ((¬ w32 x1 ≤ w32 x4) → ∃ (z3 : Int) (S1 : ms), EV q 334 0 [some (.ref 367)] [] S (some (vI z3)) S1 ∧ EV q 345 5 [some (.ref 367), some (vI x1), some (vL (lO x2 ((w32 z3) * ((2 : Int) ^ ((8 * x4) % 64).toNat)))), none, some (vI (x4 + 1))] [] S1 r S')) : EV q 345 5 [some (.ref 367), some (vI x1), some (vL x2), none, some (vI x4)] [] S r S' := by
  unfold EV
  refine ev_bk 2 (S' := (8, [some (.ref 367), some (vI x1), some (vL x2), none, some (vI x4)], [vI x1, vI x4], hp S, 0, 0)) rfl ?_
  refine mv_icmp 31 rfl rfl (fun c => ?_) (fun c => ?_)
  · have F := F.1 c
    refine ev_bk 1 (S' := (32, [some (.ref 367), some (vI x1), some (vL x2), none, some (vI x4)], [vL x2], hp S, 0, 0)) rfl ?_
    obtain ⟨rfl, rfl⟩ := F
    exact ev_ret rfl rfl
  · have F := F.2 c
    refine ev_bk 2 (S' := (13, [some (.ref 367), some (vI x1), some (vL x2), none, some (vI x4)], [.ref 367, vL x2], hp S, 0, 0)) rfl ?_
    obtain ⟨z3, S1, e2, F⟩ := F
    refine mv_calv (as := []) (rest := [vL x2]) e2 (sh_367) rfl rfl rfl ⟨rfl, rfl⟩ rfl rfl rfl rfl rfl ?_
    refine mv_i2l rfl ?_
    refine ev_bk 2 (S' := (21, [some (.ref 367), some (vI x1), some (vL x2), none, some (vI x4)], [vI x4, vI 8, vL (w32 z3), vL x2], hp S1, 0, 0)) rfl ?_
    refine mv_imul rfl ?_
    refine mv_lshl ((2 : Int) ^ ((8 * x4) % 64).toNat) rfl rfl ?_
    refine mv_lor rfl ?_
    refine ev_bk 1 (S' := (25, [some (.ref 367), some (vI x1), some (vL (lO x2 ((w32 z3) * ((2 : Int) ^ ((8 * x4) % 64).toNat)))), none, some (vI x4)], [], hp S1, 0, 0)) rfl ?_
    refine mv_inc (lv' := [some (.ref 367), some (vI x1), some (vL (lO x2 ((w32 z3) * ((2 : Int) ^ ((8 * x4) % 64).toNat)))), none, some (vI (x4 + 1))]) 4 1 rfl rfl rfl rfl ?_
    refine mv_goto 5 rfl rfl ?_
    exact F
theorem vc_MD_readOwn {q : Nat × (Nat → Int32)} {S S' : ms} {r : Option Value}
    (F : ∃ (z3 : Int) (S1 : ms), EV q 339 0 [some (.ref 367), some (vI 5), none, none, none, none, none] [] S (some (vL z3)) S1 ∧ ∃ (z6 : Int) (S4 : ms), EV q 339 0 [some (.ref 367), some (vI 5), none, none, none, none, none] [] S1 (some (vL z6)) S4 ∧ ∃ (z9 : Int) (S7 : ms), EV q 339 0 [some (.ref 367), some (vI 4), none, none, none, none, none] [] S4 (some (vL z9)) S7 ∧ ∃ (z12 : Int) (S10 : ms), EV q 333 0 [some (.ref 367)] [] S7 (some (vI z12)) S10 ∧ ((w32 z12 = 0) → EV q 346 54 [some (.ref 367), some (vI (z3 + 257)), some (vI (z6 + 1)), some (vI (z9 + 4)), none, none, none, none, none] [] S10 r S') ∧ ((¬ w32 z12 = 0) → ((286 < w32 (z3 + 257)) → EV q 346 49 [some (.ref 367), some (vI (z3 + 257)), some (vI (z6 + 1)), some (vI (z9 + 4)), none, none, none, none, none] [] S10 r S') ∧ ((¬ 286 < w32 (z3 + 257)) → ((w32 (z6 + 1) ≤ 30) → EV q 346 54 [some (.ref 367), some (vI (z3 + 257)), some (vI (z6 + 1)), some (vI (z9 + 4)), none, none, none, none, none] [] S10 r S') ∧ ((¬ w32 (z6 + 1) ≤ 30) → EV q 346 49 [some (.ref 367), some (vI (z3 + 257)), some (vI (z6 + 1)), some (vI (z9 + 4)), none, none, none, none, none] [] S10 r S')))) : EV q 346 0 [some (.ref 367), none, none, none, none, none, none, none, none] [] S r S' := by
  unfold EV
  refine ev_bk 2 (S' := (2, [some (.ref 367), none, none, none, none, none, none, none, none], [vI 5, .ref 367], hp S, 0, 0)) rfl ?_
  obtain ⟨z3, S1, e2, F⟩ := F
  refine mv_calv (as := [vI 5]) (rest := []) e2 (sh_367) rfl rfl rfl ⟨rfl, rfl⟩ rfl rfl rfl rfl rfl ?_
  refine mv_l2i rfl ?_
  refine ev_bk 1 (S' := (9, [some (.ref 367), none, none, none, none, none, none, none, none], [vI 257, vI z3], hp S1, 0, 0)) rfl ?_
  refine mv_iadd rfl ?_
  refine ev_bk 3 (S' := (13, [some (.ref 367), some (vI (z3 + 257)), none, none, none, none, none, none, none], [vI 5, .ref 367], hp S1, 0, 0)) rfl ?_
  obtain ⟨z6, S4, e5, F⟩ := F
  refine mv_calv (as := [vI 5]) (rest := []) e5 (sh_367) rfl rfl rfl ⟨rfl, rfl⟩ rfl rfl rfl rfl rfl ?_
  refine mv_l2i rfl ?_
  refine ev_bk 1 (S' := (18, [some (.ref 367), some (vI (z3 + 257)), none, none, none, none, none, none, none], [vI 1, vI z6], hp S4, 0, 0)) rfl ?_
  refine mv_iadd rfl ?_
  refine ev_bk 3 (S' := (22, [some (.ref 367), some (vI (z3 + 257)), some (vI (z6 + 1)), none, none, none, none, none, none], [vI 4, .ref 367], hp S4, 0, 0)) rfl ?_
  obtain ⟨z9, S7, e8, F⟩ := F
  refine mv_calv (as := [vI 4]) (rest := []) e8 (sh_367) rfl rfl rfl ⟨rfl, rfl⟩ rfl rfl rfl rfl rfl ?_
  refine mv_l2i rfl ?_
  refine ev_bk 1 (S' := (27, [some (.ref 367), some (vI (z3 + 257)), some (vI (z6 + 1)), none, none, none, none, none, none], [vI 4, vI z9], hp S7, 0, 0)) rfl ?_
  refine mv_iadd rfl ?_
  refine ev_bk 2 (S' := (30, [some (.ref 367), some (vI (z3 + 257)), some (vI (z6 + 1)), some (vI (z9 + 4)), none, none, none, none, none], [.ref 367], hp S7, 0, 0)) rfl ?_
  obtain ⟨z12, S10, e11, F⟩ := F
  refine mv_calv (as := []) (rest := []) e11 (sh_367) rfl rfl rfl ⟨rfl, rfl⟩ rfl rfl rfl rfl rfl ?_
  refine mv_if 54 rfl rfl (fun c => ?_) (fun c => ?_)
  · have F := F.1 c
    exact F
  · have F := F.2 c
    refine ev_bk 2 (S' := (40, [some (.ref 367), some (vI (z3 + 257)), some (vI (z6 + 1)), some (vI (z9 + 4)), none, none, none, none, none], [vI 286, vI (z3 + 257)], hp S10, 0, 0)) rfl ?_
    refine mv_icmp 49 rfl rfl (fun c => ?_) (fun c => ?_)
    · have F := F.1 c
      exact F
    · have F := F.2 c
      refine ev_bk 2 (S' := (46, [some (.ref 367), some (vI (z3 + 257)), some (vI (z6 + 1)), some (vI (z9 + 4)), none, none, none, none, none], [vI 30, vI (z6 + 1)], hp S10, 0, 0)) rfl ?_
      refine mv_icmp 54 rfl rfl (fun c => ?_) (fun c => ?_)
      · have F := F.1 c
        exact F
      · have F := F.2 c
        exact F
theorem vc_MD_readOwn_49 {q : Nat × (Nat → Int32)} {S S' : ms} {r : Option Value} (x1 x2 x3 : Int)
    (F : ∃ (S1 : ms), EV q 337 0 [some (.ref 367), some (vI 4)] [] S none S1 ∧ EV q 346 54 [some (.ref 367), some (vI x1), some (vI x2), some (vI x3), none, none, none, none, none] [] S1 r S') : EV q 346 49 [some (.ref 367), some (vI x1), some (vI x2), some (vI x3), none, none, none, none, none] [] S r S' := by
  unfold EV
  refine ev_bk 2 (S' := (51, [some (.ref 367), some (vI x1), some (vI x2), some (vI x3), none, none, none, none, none], [vI 4, .ref 367], hp S, 0, 0)) rfl ?_
  obtain ⟨S1, e2, F⟩ := F
  refine mv_calv (as := [vI 4]) (rest := []) e2 (sh_367) rfl rfl rfl ⟨rfl, rfl⟩ rfl rfl rfl rfl rfl ?_
  exact F
theorem vc_MD_readOwn_54 {q : Nat × (Nat → Int32)} {S S' : ms} {r : Option Value} (x1 x2 x3 : Int)
    (F : EV q 346 57 [some (.ref 367), some (vI x1), some (vI x2), some (vI x3), some (vI 0), none, none, none, none] [] S r S') : EV q 346 54 [some (.ref 367), some (vI x1), some (vI x2), some (vI x3), none, none, none, none, none] [] S r S' := by
  unfold EV
  refine ev_bk 2 (S' := (57, [some (.ref 367), some (vI x1), some (vI x2), some (vI x3), some (vI 0), none, none, none, none], [], hp S, 0, 0)) rfl ?_
  exact F
theorem vc_MD_readOwn_57 {q : Nat × (Nat → Int32)} {S S' : ms} {r : Option Value} (x1 x2 x3 x4 : Int)
    (F : ((20 ≤ w32 x4) → EV q 346 81 [some (.ref 367), some (vI x1), some (vI x2), some (vI x3), some (vI 0), none, none, none, none] [] S r S') ∧ ((¬ 20 ≤ w32 x4) → (0 ≤ w32 x4 ∧ w32 x4 < (20 : Nat)) ∧ ∀ S2 : ms, S2 = wI S 389 (w32 x4) 0 → EV q 346 57 [some (.ref 367), some (vI x1), some (vI x2), some (vI x3), some (vI (x4 + 1)), none, none, none, none] [] S2 r S')) : EV q 346 57 [some (.ref 367), some (vI x1), some (vI x2), some (vI x3), some (vI x4), none, none, none, none] [] S r S' := by
  unfold EV
  refine ev_bk 2 (S' := (61, [some (.ref 367), some (vI x1), some (vI x2), some (vI x3), some (vI x4), none, none, none, none], [vI 20, vI x4], hp S, 0, 0)) rfl ?_
  refine mv_icmp 78 rfl rfl (fun c => ?_) (fun c => ?_)
  · have F := F.1 c
    refine ev_bk 2 (S' := (81, [some (.ref 367), some (vI x1), some (vI x2), some (vI x3), some (vI 0), none, none, none, none], [], hp S, 0, 0)) rfl ?_
    exact F
  · have F := F.2 c
    refine ev_bk 1 (S' := (65, [some (.ref 367), some (vI x1), some (vI x2), some (vI x3), some (vI x4), none, none, none, none], [.ref 367], hp S, 0, 0)) rfl ?_
    refine mv_gfR rfl rfl (sh_367) (by decide) rfl ?_
    refine ev_bk 2 (S' := (71, [some (.ref 367), some (vI x1), some (vI x2), some (vI x3), some (vI x4), none, none, none, none], [vI 0, vI x4, .ref 389], hp S, 0, 0)) rfl ?_
    obtain ⟨b1, F⟩ := F
    refine mv_ias rfl (sh_389) b1 ?_
    have F := F _ rfl
    refine mv_inc (lv' := [some (.ref 367), some (vI x1), some (vI x2), some (vI x3), some (vI (x4 + 1)), none, none, none, none]) 4 1 rfl rfl rfl rfl ?_
    refine mv_goto 57 rfl rfl ?_
    exact F
theorem vc_MD_readOwn_81 {q : Nat × (Nat → Int32)} {S S' : ms} {r : Option Value} (x1 x2 x3 x4 : Int)
    (F : ((w32 x3 ≤ w32 x4) → ∃ (z3 : Int) (S1 : ms), EV q 333 0 [some (.ref 367)] [] S (some (vI z3)) S1 ∧ ((w32 z3 = 0) → EV q 346 142 [some (.ref 367), some (vI x1), some (vI x2), some (vI x3), some (vI x4), none, none, none, none] [] S1 r S') ∧ ((¬ w32 z3 = 0) → ∃ (z6 : Int) (S4 : ms), EV q 301 0 [some (.ref 389), some (vI 0), some (vI 19), some (.ref 390), none, none, none, none] [] S1 (some (vI z6)) S4 ∧ ((w32 z6 = 1048576) → EV q 346 142 [some (.ref 367), some (vI x1), some (vI x2), some (vI x3), some (vI x4), none, none, none, none] [] S4 r S') ∧ ((¬ w32 z6 = 1048576) → ∃ (S7 : ms), EV q 337 0 [some (.ref 367), some (vI 5)] [] S4 none S7 ∧ EV q 346 142 [some (.ref 367), some (vI x1), some (vI x2), some (vI x3), some (vI x4), none, none, none, none] [] S7 r S'))) ∧ ((¬ w32 x3 ≤ w32 x4) → (0 ≤ w32 x4 ∧ w32 x4 < (19 : Nat)) ∧ ∃ (z12 : Int) (S10 : ms), EV q 339 0 [some (.ref 367), some (vI 3), none, none, none, none, none] [] S (some (vL z12)) S10 ∧ (0 ≤ w32 (sS 9 (w32 x4)) ∧ w32 (sS 9 (w32 x4)) < (20 : Nat)) ∧ ∀ S14 : ms, S14 = wI S10 389 (w32 (sS 9 (w32 x4))) z12 → EV q 346 81 [some (.ref 367), some (vI x1), some (vI x2), some (vI x3), some (vI (x4 + 1)), none, none, none, none] [] S14 r S')) : EV q 346 81 [some (.ref 367), some (vI x1), some (vI x2), some (vI x3), some (vI x4), none, none, none, none] [] S r S' := by
  unfold EV
  refine ev_bk 2 (S' := (84, [some (.ref 367), some (vI x1), some (vI x2), some (vI x3), some (vI x4), none, none, none, none], [vI x3, vI x4], hp S, 0, 0)) rfl ?_
  refine mv_icmp 110 rfl rfl (fun c => ?_) (fun c => ?_)
  · have F := F.1 c
    refine ev_bk 1 (S' := (111, [some (.ref 367), some (vI x1), some (vI x2), some (vI x3), some (vI x4), none, none, none, none], [.ref 367], hp S, 0, 0)) rfl ?_
    obtain ⟨z3, S1, e2, F⟩ := F
    refine mv_calv (as := []) (rest := []) e2 (sh_367) rfl rfl rfl ⟨rfl, rfl⟩ rfl rfl rfl rfl rfl ?_
    refine mv_if 142 rfl rfl (fun c => ?_) (fun c => ?_)
    · have F := F.1 c
      exact F
    · have F := F.2 c
      refine ev_bk 1 (S' := (118, [some (.ref 367), some (vI x1), some (vI x2), some (vI x3), some (vI x4), none, none, none, none], [.ref 367], hp S1, 0, 0)) rfl ?_
      refine mv_gfR rfl rfl (sh_367) (by decide) rfl ?_
      refine ev_bk 3 (S' := (125, [some (.ref 367), some (vI x1), some (vI x2), some (vI x3), some (vI x4), none, none, none, none], [.ref 367, vI 19, vI 0, .ref 389], hp S1, 0, 0)) rfl ?_
      refine mv_gfR rfl rfl (sh_367) (by decide) rfl ?_
      obtain ⟨z6, S4, e5, F⟩ := F
      refine mv_cals (as := [.ref 389, vI 0, vI 19, .ref 390]) (rest := []) e5 rfl rfl rfl ⟨rfl, rfl, rfl⟩ rfl rfl rfl rfl ?_
      refine ev_bk 1 (S' := (134, [some (.ref 367), some (vI x1), some (vI x2), some (vI x3), some (vI x4), none, none, none, none], [vI 1048576, vI z6], hp S4, 0, 0)) rfl ?_
      refine mv_icmp 142 rfl rfl (fun c => ?_) (fun c => ?_)
      · have F := F.1 c
        exact F
      · have F := F.2 c
        refine ev_bk 2 (S' := (139, [some (.ref 367), some (vI x1), some (vI x2), some (vI x3), some (vI x4), none, none, none, none], [vI 5, .ref 367], hp S4, 0, 0)) rfl ?_
        obtain ⟨S7, e8, F⟩ := F
        refine mv_calv (as := [vI 5]) (rest := []) e8 (sh_367) rfl rfl rfl ⟨rfl, rfl⟩ rfl rfl rfl rfl rfl ?_
        exact F
  · have F := F.2 c
    refine ev_bk 1 (S' := (88, [some (.ref 367), some (vI x1), some (vI x2), some (vI x3), some (vI x4), none, none, none, none], [.ref 367], hp S, 0, 0)) rfl ?_
    refine mv_gfR rfl rfl (sh_367) (by decide) rfl ?_
    refine mv_gs (k := 9) rfl rfl ?_
    refine ev_bk 1 (S' := (96, [some (.ref 367), some (vI x1), some (vI x2), some (vI x3), some (vI x4), none, none, none, none], [vI x4, .ref (en_b + 9), .ref 389], hp S, 0, 0)) rfl ?_
    obtain ⟨b9, F⟩ := F
    refine mv_sal (k := 9) rfl rfl (by decide) b9 ?_
    refine ev_bk 2 (S' := (99, [some (.ref 367), some (vI x1), some (vI x2), some (vI x3), some (vI x4), none, none, none, none], [vI 3, .ref 367, vI (sS 9 (w32 x4)), .ref 389], hp S, 0, 0)) rfl ?_
    obtain ⟨z12, S10, e11, F⟩ := F
    refine mv_calv (as := [vI 3]) (rest := [vI (sS 9 (w32 x4)), .ref 389]) e11 (sh_367) rfl rfl rfl ⟨rfl, rfl⟩ rfl rfl rfl rfl rfl ?_
    refine mv_l2i rfl ?_
    obtain ⟨b13, F⟩ := F
    refine mv_ias rfl (sh_389) b13 ?_
    have F := F _ rfl
    refine mv_inc (lv' := [some (.ref 367), some (vI x1), some (vI x2), some (vI x3), some (vI (x4 + 1)), none, none, none, none]) 4 1 rfl rfl rfl rfl ?_
    refine mv_goto 81 rfl rfl ?_
    exact F
theorem vc_MD_readOwn_142 {q : Nat × (Nat → Int32)} {S S' : ms} {r : Option Value} (x1 x2 x3 x4 : Int)
    (F : EV q 346 145 [some (.ref 367), some (vI x1), some (vI x2), some (vI x3), some (vI 0), none, none, none, none] [] S r S') : EV q 346 142 [some (.ref 367), some (vI x1), some (vI x2), some (vI x3), some (vI x4), none, none, none, none] [] S r S' := by
  unfold EV
  refine ev_bk 2 (S' := (145, [some (.ref 367), some (vI x1), some (vI x2), some (vI x3), some (vI 0), none, none, none, none], [], hp S, 0, 0)) rfl ?_
  exact F
theorem vc_MD_readOwn_145 {q : Nat × (Nat → Int32)} {S S' : ms} {r : Option Value} (x1 x2 x3 x4 : Int)
    (F : ∃ (z3 : Int) (S1 : ms), EV q 333 0 [some (.ref 367)] [] S (some (vI z3)) S1 ∧ ((w32 z3 = 0) → EV q 346 356 [some (.ref 367), some (vI x1), some (vI x2), some (vI x3), some (vI x4), none, none, none, none] [] S1 r S') ∧ ((¬ w32 z3 = 0) → ((w32 (x1 + x2) ≤ w32 x4) → EV q 346 356 [some (.ref 367), some (vI x1), some (vI x2), some (vI x3), some (vI x4), none, none, none, none] [] S1 r S') ∧ ((¬ w32 (x1 + x2) ≤ w32 x4) → ∃ (z6 : Int) (S4 : ms), EV q 347 0 [some (.ref 367), some (.ref 389), some (.ref 390), some (vI 19), none, none, none, none] [] S1 (some (vI z6)) S4 ∧ ((0 ≤ w32 z6) → ((¬ w32 z6 = 16) → EV q 346 201 [some (.ref 367), some (vI x1), some (vI x2), some (vI x3), some (vI x4), some (vI z6), none, none, none] [] S4 r S') ∧ ((¬ (¬ w32 z6 = 16)) → ((¬ w32 x4 = 0) → EV q 346 201 [some (.ref 367), some (vI x1), some (vI x2), some (vI x3), some (vI x4), some (vI z6), none, none, none] [] S4 r S') ∧ ((¬ (¬ w32 x4 = 0)) → ∃ (S7 : ms), EV q 337 0 [some (.ref 367), some (vI 8)] [] S4 none S7 ∧ r = none ∧ S' = S7))) ∧ ((¬ 0 ≤ w32 z6) → r = none ∧ S' = S4)))) : EV q 346 145 [some (.ref 367), some (vI x1), some (vI x2), some (vI x3), some (vI x4), none, none, none, none] [] S r S' := by
  unfold EV
  refine ev_bk 1 (S' := (146, [some (.ref 367), some (vI x1), some (vI x2), some (vI x3), some (vI x4), none, none, none, none], [.ref 367], hp S, 0, 0)) rfl ?_
  obtain ⟨z3, S1, e2, F⟩ := F
  refine mv_calv (as := []) (rest := []) e2 (sh_367) rfl rfl rfl ⟨rfl, rfl⟩ rfl rfl rfl rfl rfl ?_
  refine mv_if 356 rfl rfl (fun c => ?_) (fun c => ?_)
  · have F := F.1 c
    exact F
  · have F := F.2 c
    refine ev_bk 3 (S' := (156, [some (.ref 367), some (vI x1), some (vI x2), some (vI x3), some (vI x4), none, none, none, none], [vI x2, vI x1, vI x4], hp S1, 0, 0)) rfl ?_
    refine mv_iadd rfl ?_
    refine mv_icmp 356 rfl rfl (fun c => ?_) (fun c => ?_)
    · have F := F.1 c
      exact F
    · have F := F.2 c
      refine ev_bk 2 (S' := (162, [some (.ref 367), some (vI x1), some (vI x2), some (vI x3), some (vI x4), none, none, none, none], [.ref 367, .ref 367], hp S1, 0, 0)) rfl ?_
      refine mv_gfR rfl rfl (sh_367) (by decide) rfl ?_
      refine ev_bk 1 (S' := (166, [some (.ref 367), some (vI x1), some (vI x2), some (vI x3), some (vI x4), none, none, none, none], [.ref 367, .ref 389, .ref 367], hp S1, 0, 0)) rfl ?_
      refine mv_gfR rfl rfl (sh_367) (by decide) rfl ?_
      refine ev_bk 1 (S' := (171, [some (.ref 367), some (vI x1), some (vI x2), some (vI x3), some (vI x4), none, none, none, none], [vI 19, .ref 390, .ref 389, .ref 367], hp S1, 0, 0)) rfl ?_
      obtain ⟨z6, S4, e5, F⟩ := F
      refine mv_calv (as := [.ref 389, .ref 390, vI 19]) (rest := []) e5 (sh_367) rfl rfl rfl ⟨rfl, rfl⟩ rfl rfl rfl rfl rfl ?_
      refine ev_bk 2 (S' := (178, [some (.ref 367), some (vI x1), some (vI x2), some (vI x3), some (vI x4), some (vI z6), none, none, none], [vI z6], hp S4, 0, 0)) rfl ?_
      refine mv_if 182 rfl rfl (fun c => ?_) (fun c => ?_)
      · have F := F.1 c
        refine ev_bk 2 (S' := (186, [some (.ref 367), some (vI x1), some (vI x2), some (vI x3), some (vI x4), some (vI z6), none, none, none], [vI 16, vI z6], hp S4, 0, 0)) rfl ?_
        refine mv_icmp 201 rfl rfl (fun c => ?_) (fun c => ?_)
        · have F := F.1 c
          exact F
        · have F := F.2 c
          refine ev_bk 1 (S' := (191, [some (.ref 367), some (vI x1), some (vI x2), some (vI x3), some (vI x4), some (vI z6), none, none, none], [vI x4], hp S4, 0, 0)) rfl ?_
          refine mv_if 201 rfl rfl (fun c => ?_) (fun c => ?_)
          · have F := F.1 c
            exact F
          · have F := F.2 c
            refine ev_bk 2 (S' := (197, [some (.ref 367), some (vI x1), some (vI x2), some (vI x3), some (vI x4), some (vI z6), none, none, none], [vI 8, .ref 367], hp S4, 0, 0)) rfl ?_
            obtain ⟨S7, e8, F⟩ := F
            refine mv_calv (as := [vI 8]) (rest := []) e8 (sh_367) rfl rfl rfl ⟨rfl, rfl⟩ rfl rfl rfl rfl rfl ?_
            obtain ⟨rfl, rfl⟩ := F
            exact ev_ret rfl rfl
      · have F := F.2 c
        obtain ⟨rfl, rfl⟩ := F
        exact ev_ret rfl rfl
theorem vc_MD_readOwn_201 {q : Nat × (Nat → Int32)} {S S' : ms} {r : Option Value} (x1 x2 x3 x4 x5 : Int)
    (F : ((¬ w32 x5 = 16) → ((16 ≤ w32 x5) → EV q 346 233 [some (.ref 367), some (vI x1), some (vI x2), some (vI x3), some (vI x4), some (vI x5), none, none, none] [vI 0] S r S') ∧ ((¬ 16 ≤ w32 x5) → EV q 346 233 [some (.ref 367), some (vI x1), some (vI x2), some (vI x3), some (vI x4), some (vI x5), none, none, none] [vI x5] S r S')) ∧ ((¬ (¬ w32 x5 = 16)) → (0 ≤ w32 (x4 - 1) ∧ w32 (x4 - 1) < (330 : Nat)) ∧ EV q 346 233 [some (.ref 367), some (vI x1), some (vI x2), some (vI x3), some (vI x4), some (vI x5), none, none, none] [vI (S.1 401 (w32 (x4 - 1)))] S r S')) : EV q 346 201 [some (.ref 367), some (vI x1), some (vI x2), some (vI x3), some (vI x4), some (vI x5), none, none, none] [] S r S' := by
  unfold EV
  refine ev_bk 2 (S' := (205, [some (.ref 367), some (vI x1), some (vI x2), some (vI x3), some (vI x4), some (vI x5), none, none, none], [vI 16, vI x5], hp S, 0, 0)) rfl ?_
  refine mv_icmp 220 rfl rfl (fun c => ?_) (fun c => ?_)
  · have F := F.1 c
    refine ev_bk 2 (S' := (224, [some (.ref 367), some (vI x1), some (vI x2), some (vI x3), some (vI x4), some (vI x5), none, none, none], [vI 16, vI x5], hp S, 0, 0)) rfl ?_
    refine mv_icmp 232 rfl rfl (fun c => ?_) (fun c => ?_)
    · have F := F.1 c
      refine ev_bk 1 (S' := (233, [some (.ref 367), some (vI x1), some (vI x2), some (vI x3), some (vI x4), some (vI x5), none, none, none], [vI 0], hp S, 0, 0)) rfl ?_
      exact F
    · have F := F.2 c
      refine ev_bk 1 (S' := (229, [some (.ref 367), some (vI x1), some (vI x2), some (vI x3), some (vI x4), some (vI x5), none, none, none], [vI x5], hp S, 0, 0)) rfl ?_
      refine mv_goto 233 rfl rfl ?_
      exact F
  · have F := F.2 c
    refine ev_bk 1 (S' := (209, [some (.ref 367), some (vI x1), some (vI x2), some (vI x3), some (vI x4), some (vI x5), none, none, none], [.ref 367], hp S, 0, 0)) rfl ?_
    refine mv_gfR rfl rfl (sh_367) (by decide) rfl ?_
    refine ev_bk 2 (S' := (215, [some (.ref 367), some (vI x1), some (vI x2), some (vI x3), some (vI x4), some (vI x5), none, none, none], [vI 1, vI x4, .ref 401], hp S, 0, 0)) rfl ?_
    refine mv_isub rfl ?_
    obtain ⟨b1, F⟩ := F
    refine mv_ial rfl (sh_401) b1 ?_
    refine mv_goto 233 rfl rfl ?_
    exact F
theorem vc_MD_readOwn_233 {q : Nat × (Nat → Int32)} {S S' : ms} {r : Option Value} (x1 x2 x3 x4 x5 y0 : Int)
    (F : ((16 ≤ w32 x5) → ((¬ w32 x5 = 16) → ((¬ w32 x5 = 17) → ∃ (z3 : Int) (S1 : ms), EV q 339 0 [some (.ref 367), some (vI 7), none, none, none, none, none] [] S (some (vL z3)) S1 ∧ EV q 346 292 [some (.ref 367), some (vI x1), some (vI x2), some (vI x3), some (vI x4), some (vI x5), some (vI y0), none, none] [vI (11 + z3)] S1 r S') ∧ ((¬ (¬ w32 x5 = 17)) → ∃ (z6 : Int) (S4 : ms), EV q 339 0 [some (.ref 367), some (vI 3), none, none, none, none, none] [] S (some (vL z6)) S4 ∧ EV q 346 292 [some (.ref 367), some (vI x1), some (vI x2), some (vI x3), some (vI x4), some (vI x5), some (vI y0), none, none] [vI (3 + z6)] S4 r S')) ∧ ((¬ (¬ w32 x5 = 16)) → ∃ (z9 : Int) (S7 : ms), EV q 339 0 [some (.ref 367), some (vI 2), none, none, none, none, none] [] S (some (vL z9)) S7 ∧ EV q 346 292 [some (.ref 367), some (vI x1), some (vI x2), some (vI x3), some (vI x4), some (vI x5), some (vI y0), none, none] [vI (3 + z9)] S7 r S')) ∧ ((¬ 16 ≤ w32 x5) → EV q 346 292 [some (.ref 367), some (vI x1), some (vI x2), some (vI x3), some (vI x4), some (vI x5), some (vI y0), none, none] [vI 1] S r S')) : EV q 346 233 [some (.ref 367), some (vI x1), some (vI x2), some (vI x3), some (vI x4), some (vI x5), none, none, none] [vI y0] S r S' := by
  unfold EV
  refine ev_bk 3 (S' := (239, [some (.ref 367), some (vI x1), some (vI x2), some (vI x3), some (vI x4), some (vI x5), some (vI y0), none, none], [vI 16, vI x5], hp S, 0, 0)) rfl ?_
  refine mv_icmp 246 rfl rfl (fun c => ?_) (fun c => ?_)
  · have F := F.1 c
    refine ev_bk 2 (S' := (250, [some (.ref 367), some (vI x1), some (vI x2), some (vI x3), some (vI x4), some (vI x5), some (vI y0), none, none], [vI 16, vI x5], hp S, 0, 0)) rfl ?_
    refine mv_icmp 264 rfl rfl (fun c => ?_) (fun c => ?_)
    · have F := F.1 c
      refine ev_bk 2 (S' := (268, [some (.ref 367), some (vI x1), some (vI x2), some (vI x3), some (vI x4), some (vI x5), some (vI y0), none, none], [vI 17, vI x5], hp S, 0, 0)) rfl ?_
      refine mv_icmp 282 rfl rfl (fun c => ?_) (fun c => ?_)
      · have F := F.1 c
        refine ev_bk 3 (S' := (287, [some (.ref 367), some (vI x1), some (vI x2), some (vI x3), some (vI x4), some (vI x5), some (vI y0), none, none], [vI 7, .ref 367, vI 11], hp S, 0, 0)) rfl ?_
        obtain ⟨z3, S1, e2, F⟩ := F
        refine mv_calv (as := [vI 7]) (rest := [vI 11]) e2 (sh_367) rfl rfl rfl ⟨rfl, rfl⟩ rfl rfl rfl rfl rfl ?_
        refine mv_l2i rfl ?_
        refine mv_iadd rfl ?_
        exact F
      · have F := F.2 c
        refine ev_bk 3 (S' := (274, [some (.ref 367), some (vI x1), some (vI x2), some (vI x3), some (vI x4), some (vI x5), some (vI y0), none, none], [vI 3, .ref 367, vI 3], hp S, 0, 0)) rfl ?_
        obtain ⟨z6, S4, e5, F⟩ := F
        refine mv_calv (as := [vI 3]) (rest := [vI 3]) e5 (sh_367) rfl rfl rfl ⟨rfl, rfl⟩ rfl rfl rfl rfl rfl ?_
        refine mv_l2i rfl ?_
        refine mv_iadd rfl ?_
        refine mv_goto 292 rfl rfl ?_
        exact F
    · have F := F.2 c
      refine ev_bk 3 (S' := (256, [some (.ref 367), some (vI x1), some (vI x2), some (vI x3), some (vI x4), some (vI x5), some (vI y0), none, none], [vI 2, .ref 367, vI 3], hp S, 0, 0)) rfl ?_
      obtain ⟨z9, S7, e8, F⟩ := F
      refine mv_calv (as := [vI 2]) (rest := [vI 3]) e8 (sh_367) rfl rfl rfl ⟨rfl, rfl⟩ rfl rfl rfl rfl rfl ?_
      refine mv_l2i rfl ?_
      refine mv_iadd rfl ?_
      refine mv_goto 292 rfl rfl ?_
      exact F
  · have F := F.2 c
    refine ev_bk 1 (S' := (243, [some (.ref 367), some (vI x1), some (vI x2), some (vI x3), some (vI x4), some (vI x5), some (vI y0), none, none], [vI 1], hp S, 0, 0)) rfl ?_
    refine mv_goto 292 rfl rfl ?_
    exact F
theorem vc_MD_readOwn_292 {q : Nat × (Nat → Int32)} {S S' : ms} {r : Option Value} (x1 x2 x3 x4 x5 x6 y0 : Int)
    (F : ∃ (z3 : Int) (S1 : ms), EV q 333 0 [some (.ref 367)] [] S (some (vI z3)) S1 ∧ ((w32 z3 = 0) → EV q 346 318 [some (.ref 367), some (vI x1), some (vI x2), some (vI x3), some (vI x4), some (vI x5), some (vI x6), some (vI y0), none] [] S1 r S') ∧ ((¬ w32 z3 = 0) → ((w32 (x4 + y0) ≤ w32 (x1 + x2)) → EV q 346 318 [some (.ref 367), some (vI x1), some (vI x2), some (vI x3), some (vI x4), some (vI x5), some (vI x6), some (vI y0), none] [] S1 r S') ∧ ((¬ w32 (x4 + y0) ≤ w32 (x1 + x2)) → ∃ (S4 : ms), EV q 337 0 [some (.ref 367), some (vI 9)] [] S1 none S4 ∧ EV q 346 318 [some (.ref 367), some (vI x1), some (vI x2), some (vI x3), some (vI x4), some (vI x5), some (vI x6), some (vI y0), none] [] S4 r S'))) : EV q 346 292 [some (.ref 367), some (vI x1), some (vI x2), some (vI x3), some (vI x4), some (vI x5), some (vI x6), none, none] [vI y0] S r S' := by
  unfold EV
  refine ev_bk 2 (S' := (295, [some (.ref 367), some (vI x1), some (vI x2), some (vI x3), some (vI x4), some (vI x5), some (vI x6), some (vI y0), none], [.ref 367], hp S, 0, 0)) rfl ?_
  obtain ⟨z3, S1, e2, F⟩ := F
  refine mv_calv (as := []) (rest := []) e2 (sh_367) rfl rfl rfl ⟨rfl, rfl⟩ rfl rfl rfl rfl rfl ?_
  refine mv_if 318 rfl rfl (fun c => ?_) (fun c => ?_)
  · have F := F.1 c
    exact F
  · have F := F.2 c
    refine ev_bk 2 (S' := (305, [some (.ref 367), some (vI x1), some (vI x2), some (vI x3), some (vI x4), some (vI x5), some (vI x6), some (vI y0), none], [vI y0, vI x4], hp S1, 0, 0)) rfl ?_
    refine mv_iadd rfl ?_
    refine ev_bk 2 (S' := (308, [some (.ref 367), some (vI x1), some (vI x2), some (vI x3), some (vI x4), some (vI x5), some (vI x6), some (vI y0), none], [vI x2, vI x1, vI (x4 + y0)], hp S1, 0, 0)) rfl ?_
    refine mv_iadd rfl ?_
    refine mv_icmp 318 rfl rfl (fun c => ?_) (fun c => ?_)
    · have F := F.1 c
      exact F
    · have F := F.2 c
      refine ev_bk 2 (S' := (315, [some (.ref 367), some (vI x1), some (vI x2), some (vI x3), some (vI x4), some (vI x5), some (vI x6), some (vI y0), none], [vI 9, .ref 367], hp S1, 0, 0)) rfl ?_
      obtain ⟨S4, e5, F⟩ := F
      refine mv_calv (as := [vI 9]) (rest := []) e5 (sh_367) rfl rfl rfl ⟨rfl, rfl⟩ rfl rfl rfl rfl rfl ?_
      exact F
theorem vc_MD_readOwn_318 {q : Nat × (Nat → Int32)} {S S' : ms} {r : Option Value} (x1 x2 x3 x4 x5 x6 x7 : Int)
    (F : EV q 346 321 [some (.ref 367), some (vI x1), some (vI x2), some (vI x3), some (vI x4), some (vI x5), some (vI x6), some (vI x7), some (vI 0)] [] S r S') : EV q 346 318 [some (.ref 367), some (vI x1), some (vI x2), some (vI x3), some (vI x4), some (vI x5), some (vI x6), some (vI x7), none] [] S r S' := by
  unfold EV
  refine ev_bk 2 (S' := (321, [some (.ref 367), some (vI x1), some (vI x2), some (vI x3), some (vI x4), some (vI x5), some (vI x6), some (vI x7), some (vI 0)], [], hp S, 0, 0)) rfl ?_
  exact F
theorem vc_MD_readOwn_321 {q : Nat × (Nat → Int32)} {S S' : ms} {r : Option Value} (x1 x2 x3 x4 x5 x6 x7 x8 : Int)
    (F : ((w32 x7 ≤ w32 x8) → EV q 346 353 [some (.ref 367), some (vI x1), some (vI x2), some (vI x3), some (vI x4), some (vI x5), some (vI x6), some (vI x7), some (vI x8)] [] S r S') ∧ ((¬ w32 x7 ≤ w32 x8) → ∃ (z3 : Int) (S1 : ms), EV q 333 0 [some (.ref 367)] [] S (some (vI z3)) S1 ∧ ((w32 z3 = 0) → EV q 346 353 [some (.ref 367), some (vI x1), some (vI x2), some (vI x3), some (vI x4), some (vI x5), some (vI x6), some (vI x7), some (vI x8)] [] S1 r S') ∧ ((¬ w32 z3 = 0) → (0 ≤ w32 x4 ∧ w32 x4 < (330 : Nat)) ∧ ∀ S5 : ms, S5 = wI S1 401 (w32 x4) x6 → EV q 346 321 [some (.ref 367), some (vI x1), some (vI x2), some (vI x3), some (vI (x4 + 1)), some (vI x5), some (vI x6), some (vI x7), some (vI (x8 + 1))] [] S5 r S'))) : EV q 346 321 [some (.ref 367), some (vI x1), some (vI x2), some (vI x3), some (vI x4), some (vI x5), some (vI x6), some (vI x7), some (vI x8)] [] S r S' := by
  unfold EV
  refine ev_bk 2 (S' := (325, [some (.ref 367), some (vI x1), some (vI x2), some (vI x3), some (vI x4), some (vI x5), some (vI x6), some (vI x7), some (vI x8)], [vI x7, vI x8], hp S, 0, 0)) rfl ?_
  refine mv_icmp 353 rfl rfl (fun c => ?_) (fun c => ?_)
  · have F := F.1 c
    exact F
  · have F := F.2 c
    refine ev_bk 1 (S' := (329, [some (.ref 367), some (vI x1), some (vI x2), some (vI x3), some (vI x4), some (vI x5), some (vI x6), some (vI x7), some (vI x8)], [.ref 367], hp S, 0, 0)) rfl ?_
    obtain ⟨z3, S1, e2, F⟩ := F
    refine mv_calv (as := []) (rest := []) e2 (sh_367) rfl rfl rfl ⟨rfl, rfl⟩ rfl rfl rfl rfl rfl ?_
    refine mv_if 353 rfl rfl (fun c => ?_) (fun c => ?_)
    · have F := F.1 c
      exact F
    · have F := F.2 c
      refine ev_bk 1 (S' := (336, [some (.ref 367), some (vI x1), some (vI x2), some (vI x3), some (vI x4), some (vI x5), some (vI x6), some (vI x7), some (vI x8)], [.ref 367], hp S1, 0, 0)) rfl ?_
      refine mv_gfR rfl rfl (sh_367) (by decide) rfl ?_
      refine ev_bk 2 (S' := (343, [some (.ref 367), some (vI x1), some (vI x2), some (vI x3), some (vI x4), some (vI x5), some (vI x6), some (vI x7), some (vI x8)], [vI x6, vI x4, .ref 401], hp S1, 0, 0)) rfl ?_
      obtain ⟨b4, F⟩ := F
      refine mv_ias rfl (sh_401) b4 ?_
      have F := F _ rfl
      refine mv_inc (lv' := [some (.ref 367), some (vI x1), some (vI x2), some (vI x3), some (vI (x4 + 1)), some (vI x5), some (vI x6), some (vI x7), some (vI x8)]) 4 1 rfl rfl rfl rfl ?_
      refine mv_inc (lv' := [some (.ref 367), some (vI x1), some (vI x2), some (vI x3), some (vI (x4 + 1)), some (vI x5), some (vI x6), some (vI x7), some (vI (x8 + 1))]) 8 1 rfl rfl rfl rfl ?_
      refine mv_goto 321 rfl rfl ?_
      exact F
theorem vc_MD_readOwn_353 {q : Nat × (Nat → Int32)} {S S' : ms} {r : Option Value} (x1 x2 x3 x4 x5 x6 x7 x8 : Int)
    (F : EV q 346 145 [some (.ref 367), some (vI x1), some (vI x2), some (vI x3), some (vI x4), none, none, none, none] [] S r S') : EV q 346 353 [some (.ref 367), some (vI x1), some (vI x2), some (vI x3), some (vI x4), some (vI x5), some (vI x6), some (vI x7), some (vI x8)] [] S r S' := by
  unfold EV
  refine mv_goto 145 rfl rfl ?_
  exact ev_wk (le_s (le_s (le_s (le_s (le_s (le_n (le_n (le_n (le_n le_0))))))))) F
theorem vc_MD_readOwn_356 {q : Nat × (Nat → Int32)} {S S' : ms} {r : Option Value} (x1 x2 x3 x4 : Int)
    (F : ∃ (z3 : Int) (S1 : ms), EV q 333 0 [some (.ref 367)] [] S (some (vI z3)) S1 ∧ ((¬ w32 z3 = 0) → ∀ S4 : ms, S4 = wI S1 367 58 x1 → ∀ S5 : ms, S5 = wI S4 367 59 x2 → EV q 346 377 [some (.ref 367), some (vI x1), some (vI x2), some (vI x3), some (vI x4), some (vI 0), none, none, none] [] S5 r S') ∧ ((¬ (¬ w32 z3 = 0)) → r = none ∧ S' = S1)) : EV q 346 356 [some (.ref 367), some (vI x1), some (vI x2), some (vI x3), some (vI x4), none, none, none, none] [] S r S' := by
  unfold EV
  refine ev_bk 1 (S' := (357, [some (.ref 367), some (vI x1), some (vI x2), some (vI x3), some (vI x4), none, none, none, none], [.ref 367], hp S, 0, 0)) rfl ?_
  obtain ⟨z3, S1, e2, F⟩ := F
  refine mv_calv (as := []) (rest := []) e2 (sh_367) rfl rfl rfl ⟨rfl, rfl⟩ rfl rfl rfl rfl rfl ?_
  refine mv_if 364 rfl rfl (fun c => ?_) (fun c => ?_)
  · have F := F.1 c
    refine ev_bk 2 (S' := (366, [some (.ref 367), some (vI x1), some (vI x2), some (vI x3), some (vI x4), none, none, none, none], [vI x1, .ref 367], hp S1, 0, 0)) rfl ?_
    refine mv_pfI rfl rfl (sh_367) (by decide) rfl rfl ?_
    have F := F _ rfl
    refine ev_bk 2 (S' := (371, [some (.ref 367), some (vI x1), some (vI x2), some (vI x3), some (vI x4), none, none, none, none], [vI x2, .ref 367], hp (wI S1 367 58 x1), 0, 0)) rfl ?_
    refine mv_pfI rfl rfl (sh_367) (by decide) rfl rfl ?_
    have F := F _ rfl
    refine ev_bk 2 (S' := (377, [some (.ref 367), some (vI x1), some (vI x2), some (vI x3), some (vI x4), some (vI 0), none, none, none], [], hp (wI (wI S1 367 58 x1) 367 59 x2), 0, 0)) rfl ?_
    exact F
  · have F := F.2 c
    obtain ⟨rfl, rfl⟩ := F
    exact ev_ret rfl rfl
theorem vc_MD_readOwn_377 {q : Nat × (Nat → Int32)} {S S' : ms} {r : Option Value} (x1 x2 x3 x4 x5 : Int)
    (F : ((w32 x1 ≤ w32 x5) → EV q 346 406 [some (.ref 367), some (vI x1), some (vI x2), some (vI x3), some (vI x4), some (vI 0), none, none, none] [] S r S') ∧ ((¬ w32 x1 ≤ w32 x5) → (0 ≤ w32 x5 ∧ w32 x5 < (330 : Nat)) ∧ (0 ≤ w32 x5 ∧ w32 x5 < (330 : Nat)) ∧ ∀ S3 : ms, S3 = wI S 385 (w32 x5) (S.1 401 (w32 x5)) → EV q 346 377 [some (.ref 367), some (vI x1), some (vI x2), some (vI x3), some (vI x4), some (vI (x5 + 1)), none, none, none] [] S3 r S')) : EV q 346 377 [some (.ref 367), some (vI x1), some (vI x2), some (vI x3), some (vI x4), some (vI x5), none, none, none] [] S r S' := by
  unfold EV
  refine ev_bk 2 (S' := (380, [some (.ref 367), some (vI x1), some (vI x2), some (vI x3), some (vI x4), some (vI x5), none, none, none], [vI x1, vI x5], hp S, 0, 0)) rfl ?_
  refine mv_icmp 403 rfl rfl (fun c => ?_) (fun c => ?_)
  · have F := F.1 c
    refine ev_bk 2 (S' := (406, [some (.ref 367), some (vI x1), some (vI x2), some (vI x3), some (vI x4), some (vI 0), none, none, none], [], hp S, 0, 0)) rfl ?_
    exact F
  · have F := F.2 c
    refine ev_bk 1 (S' := (384, [some (.ref 367), some (vI x1), some (vI x2), some (vI x3), some (vI x4), some (vI x5), none, none, none], [.ref 367], hp S, 0, 0)) rfl ?_
    refine mv_gfR rfl rfl (sh_367) (by decide) rfl ?_
    refine ev_bk 2 (S' := (390, [some (.ref 367), some (vI x1), some (vI x2), some (vI x3), some (vI x4), some (vI x5), none, none, none], [.ref 367, vI x5, .ref 385], hp S, 0, 0)) rfl ?_
    refine mv_gfR rfl rfl (sh_367) (by decide) rfl ?_
    refine ev_bk 1 (S' := (395, [some (.ref 367), some (vI x1), some (vI x2), some (vI x3), some (vI x4), some (vI x5), none, none, none], [vI x5, .ref 401, vI x5, .ref 385], hp S, 0, 0)) rfl ?_
    obtain ⟨b1, F⟩ := F
    refine mv_ial rfl (sh_401) b1 ?_
    obtain ⟨b2, F⟩ := F
    refine mv_ias rfl (sh_385) b2 ?_
    have F := F _ rfl
    refine mv_inc (lv' := [some (.ref 367), some (vI x1), some (vI x2), some (vI x3), some (vI x4), some (vI (x5 + 1)), none, none, none]) 5 1 rfl rfl rfl rfl ?_
    refine mv_goto 377 rfl rfl ?_
    exact F
theorem vc_MD_readOwn_406 {q : Nat × (Nat → Int32)} {S S' : ms} {r : Option Value} (x1 x2 x3 x4 x5 : Int)
    (F : ((w32 x2 ≤ w32 x5) → (0 ≤ w32 256 ∧ w32 256 < (330 : Nat)) ∧ ((¬ w32 (S.1 385 (w32 256)) = 0) → EV q 346 451 [some (.ref 367), some (vI x1), some (vI x2), some (vI x3), some (vI x4), some (vI x5), none, none, none] [] S r S') ∧ ((¬ (¬ w32 (S.1 385 (w32 256)) = 0)) → ∃ (S2 : ms), EV q 337 0 [some (.ref 367), some (vI 10)] [] S none S2 ∧ EV q 346 451 [some (.ref 367), some (vI x1), some (vI x2), some (vI x3), some (vI x4), some (vI x5), none, none, none] [] S2 r S')) ∧ ((¬ w32 x2 ≤ w32 x5) → (0 ≤ w32 (x1 + x5) ∧ w32 (x1 + x5) < (330 : Nat)) ∧ (0 ≤ w32 x5 ∧ w32 x5 < (40 : Nat)) ∧ ∀ S6 : ms, S6 = wI S 387 (w32 x5) (S.1 401 (w32 (x1 + x5))) → EV q 346 406 [some (.ref 367), some (vI x1), some (vI x2), some (vI x3), some (vI x4), some (vI (x5 + 1)), none, none, none] [] S6 r S')) : EV q 346 406 [some (.ref 367), some (vI x1), some (vI x2), some (vI x3), some (vI x4), some (vI x5), none, none, none] [] S r S' := by
  unfold EV
  refine ev_bk 2 (S' := (409, [some (.ref 367), some (vI x1), some (vI x2), some (vI x3), some (vI x4), some (vI x5), none, none, none], [vI x2, vI x5], hp S, 0, 0)) rfl ?_
  refine mv_icmp 434 rfl rfl (fun c => ?_) (fun c => ?_)
  · have F := F.1 c
    refine ev_bk 1 (S' := (435, [some (.ref 367), some (vI x1), some (vI x2), some (vI x3), some (vI x4), some (vI x5), none, none, none], [.ref 367], hp S, 0, 0)) rfl ?_
    refine mv_gfR rfl rfl (sh_367) (by decide) rfl ?_
    refine ev_bk 1 (S' := (441, [some (.ref 367), some (vI x1), some (vI x2), some (vI x3), some (vI x4), some (vI x5), none, none, none], [vI 256, .ref 385], hp S, 0, 0)) rfl ?_
    obtain ⟨b1, F⟩ := F
    refine mv_ial rfl (sh_385) b1 ?_
    refine mv_if 451 rfl rfl (fun c => ?_) (fun c => ?_)
    · have F := F.1 c
      exact F
    · have F := F.2 c
      refine ev_bk 2 (S' := (448, [some (.ref 367), some (vI x1), some (vI x2), some (vI x3), some (vI x4), some (vI x5), none, none, none], [vI 10, .ref 367], hp S, 0, 0)) rfl ?_
      obtain ⟨S2, e3, F⟩ := F
      refine mv_calv (as := [vI 10]) (rest := []) e3 (sh_367) rfl rfl rfl ⟨rfl, rfl⟩ rfl rfl rfl rfl rfl ?_
      exact F
  · have F := F.2 c
    refine ev_bk 1 (S' := (413, [some (.ref 367), some (vI x1), some (vI x2), some (vI x3), some (vI x4), some (vI x5), none, none, none], [.ref 367], hp S, 0, 0)) rfl ?_
    refine mv_gfR rfl rfl (sh_367) (by decide) rfl ?_
    refine ev_bk 2 (S' := (419, [some (.ref 367), some (vI x1), some (vI x2), some (vI x3), some (vI x4), some (vI x5), none, none, none], [.ref 367, vI x5, .ref 387], hp S, 0, 0)) rfl ?_
    refine mv_gfR rfl rfl (sh_367) (by decide) rfl ?_
    refine ev_bk 2 (S' := (425, [some (.ref 367), some (vI x1), some (vI x2), some (vI x3), some (vI x4), some (vI x5), none, none, none], [vI x5, vI x1, .ref 401, vI x5, .ref 387], hp S, 0, 0)) rfl ?_
    refine mv_iadd rfl ?_
    obtain ⟨b4, F⟩ := F
    refine mv_ial rfl (sh_401) b4 ?_
    obtain ⟨b5, F⟩ := F
    refine mv_ias rfl (sh_387) b5 ?_
    have F := F _ rfl
    refine mv_inc (lv' := [some (.ref 367), some (vI x1), some (vI x2), some (vI x3), some (vI x4), some (vI (x5 + 1)), none, none, none]) 5 1 rfl rfl rfl rfl ?_
    refine mv_goto 406 rfl rfl ?_
    exact F
theorem vc_MD_readOwn_451 {q : Nat × (Nat → Int32)} {S S' : ms} {r : Option Value} (x1 x2 x3 x4 x5 : Int)
    (F : ∃ (z3 : Int) (S1 : ms), EV q 301 0 [some (.ref 385), some (vI 0), some (vI x1), some (.ref 386), none, none, none, none] [] S (some (vI z3)) S1 ∧ ((w32 z3 = 1048576) → EV q 346 491 [some (.ref 367), some (vI x1), some (vI x2), some (vI x3), some (vI x4), some (vI z3), none, none, none] [] S1 r S') ∧ ((¬ w32 z3 = 1048576) → ∃ (z6 : Int) (S4 : ms), EV q 348 0 [some (.ref 385), some (vI x1), none, none, none] [] S1 (some (vI z6)) S4 ∧ ((¬ w32 z6 = 0) → EV q 346 491 [some (.ref 367), some (vI x1), some (vI x2), some (vI x3), some (vI x4), some (vI z3), none, none, none] [] S4 r S') ∧ ((¬ (¬ w32 z6 = 0)) → ∃ (S7 : ms), EV q 337 0 [some (.ref 367), some (vI 6)] [] S4 none S7 ∧ EV q 346 491 [some (.ref 367), some (vI x1), some (vI x2), some (vI x3), some (vI x4), some (vI z3), none, none, none] [] S7 r S'))) : EV q 346 451 [some (.ref 367), some (vI x1), some (vI x2), some (vI x3), some (vI x4), some (vI x5), none, none, none] [] S r S' := by
  unfold EV
  refine ev_bk 1 (S' := (452, [some (.ref 367), some (vI x1), some (vI x2), some (vI x3), some (vI x4), some (vI x5), none, none, none], [.ref 367], hp S, 0, 0)) rfl ?_
  refine mv_gfR rfl rfl (sh_367) (by decide) rfl ?_
  refine ev_bk 3 (S' := (458, [some (.ref 367), some (vI x1), some (vI x2), some (vI x3), some (vI x4), some (vI x5), none, none, none], [.ref 367, vI x1, vI 0, .ref 385], hp S, 0, 0)) rfl ?_
  refine mv_gfR rfl rfl (sh_367) (by decide) rfl ?_
  obtain ⟨z3, S1, e2, F⟩ := F
  refine mv_cals (as := [.ref 385, vI 0, vI x1, .ref 386]) (rest := []) e2 rfl rfl rfl ⟨rfl, rfl, rfl⟩ rfl rfl rfl rfl ?_
  refine ev_bk 3 (S' := (471, [some (.ref 367), some (vI x1), some (vI x2), some (vI x3), some (vI x4), some (vI z3), none, none, none], [vI 1048576, vI z3], hp S1, 0, 0)) rfl ?_
  refine mv_icmp 491 rfl rfl (fun c => ?_) (fun c => ?_)
  · have F := F.1 c
    exact F
  · have F := F.2 c
    refine ev_bk 1 (S' := (475, [some (.ref 367), some (vI x1), some (vI x2), some (vI x3), some (vI x4), some (vI z3), none, none, none], [.ref 367], hp S1, 0, 0)) rfl ?_
    refine mv_gfR rfl rfl (sh_367) (by decide) rfl ?_
    refine ev_bk 1 (S' := (479, [some (.ref 367), some (vI x1), some (vI x2), some (vI x3), some (vI x4), some (vI z3), none, none, none], [vI x1, .ref 385], hp S1, 0, 0)) rfl ?_
    obtain ⟨z6, S4, e5, F⟩ := F
    refine mv_cals (as := [.ref 385, vI x1]) (rest := []) e5 rfl rfl rfl ⟨rfl, rfl, rfl⟩ rfl rfl rfl rfl ?_
    refine mv_if 491 rfl rfl (fun c => ?_) (fun c => ?_)
    · have F := F.1 c
      exact F
    · have F := F.2 c
      refine ev_bk 2 (S' := (488, [some (.ref 367), some (vI x1), some (vI x2), some (vI x3), some (vI x4), some (vI z3), none, none, none], [vI 6, .ref 367], hp S4, 0, 0)) rfl ?_
      obtain ⟨S7, e8, F⟩ := F
      refine mv_calv (as := [vI 6]) (rest := []) e8 (sh_367) rfl rfl rfl ⟨rfl, rfl⟩ rfl rfl rfl rfl rfl ?_
      exact F
theorem vc_MD_readOwn_491 {q : Nat × (Nat → Int32)} {S S' : ms} {r : Option Value} (x1 x2 x3 x4 x5 : Int)
    (F : ∃ (z3 : Int) (S1 : ms), EV q 301 0 [some (.ref 387), some (vI 0), some (vI x2), some (.ref 388), none, none, none, none] [] S (some (vI z3)) S1 ∧ ((w32 z3 = 1048576) → r = none ∧ S' = S1) ∧ ((¬ w32 z3 = 1048576) → ((w32 z3 = 0) → r = none ∧ S' = S1) ∧ ((¬ w32 z3 = 0) → ∃ (z6 : Int) (S4 : ms), EV q 348 0 [some (.ref 387), some (vI x2), none, none, none] [] S1 (some (vI z6)) S4 ∧ ((¬ w32 z6 = 0) → r = none ∧ S' = S4) ∧ ((¬ (¬ w32 z6 = 0)) → ∃ (S7 : ms), EV q 337 0 [some (.ref 367), some (vI 7)] [] S4 none S7 ∧ r = none ∧ S' = S7)))) : EV q 346 491 [some (.ref 367), some (vI x1), some (vI x2), some (vI x3), some (vI x4), some (vI x5), none, none, none] [] S r S' := by
  unfold EV
  refine ev_bk 1 (S' := (492, [some (.ref 367), some (vI x1), some (vI x2), some (vI x3), some (vI x4), some (vI x5), none, none, none], [.ref 367], hp S, 0, 0)) rfl ?_
  refine mv_gfR rfl rfl (sh_367) (by decide) rfl ?_
  refine ev_bk 3 (S' := (498, [some (.ref 367), some (vI x1), some (vI x2), some (vI x3), some (vI x4), some (vI x5), none, none, none], [.ref 367, vI x2, vI 0, .ref 387], hp S, 0, 0)) rfl ?_
  refine mv_gfR rfl rfl (sh_367) (by decide) rfl ?_
  obtain ⟨z3, S1, e2, F⟩ := F
  refine mv_cals (as := [.ref 387, vI 0, vI x2, .ref 388]) (rest := []) e2 rfl rfl rfl ⟨rfl, rfl, rfl⟩ rfl rfl rfl rfl ?_
  refine ev_bk 3 (S' := (511, [some (.ref 367), some (vI x1), some (vI x2), some (vI x3), some (vI x4), some (vI x5), some (vI z3), none, none], [vI 1048576, vI z3], hp S1, 0, 0)) rfl ?_
  refine mv_icmp 536 rfl rfl (fun c => ?_) (fun c => ?_)
  · have F := F.1 c
    obtain ⟨rfl, rfl⟩ := F
    exact ev_ret rfl rfl
  · have F := F.2 c
    refine ev_bk 1 (S' := (516, [some (.ref 367), some (vI x1), some (vI x2), some (vI x3), some (vI x4), some (vI x5), some (vI z3), none, none], [vI z3], hp S1, 0, 0)) rfl ?_
    refine mv_if 536 rfl rfl (fun c => ?_) (fun c => ?_)
    · have F := F.1 c
      obtain ⟨rfl, rfl⟩ := F
      exact ev_ret rfl rfl
    · have F := F.2 c
      refine ev_bk 1 (S' := (520, [some (.ref 367), some (vI x1), some (vI x2), some (vI x3), some (vI x4), some (vI x5), some (vI z3), none, none], [.ref 367], hp S1, 0, 0)) rfl ?_
      refine mv_gfR rfl rfl (sh_367) (by decide) rfl ?_
      refine ev_bk 1 (S' := (524, [some (.ref 367), some (vI x1), some (vI x2), some (vI x3), some (vI x4), some (vI x5), some (vI z3), none, none], [vI x2, .ref 387], hp S1, 0, 0)) rfl ?_
      obtain ⟨z6, S4, e5, F⟩ := F
      refine mv_cals (as := [.ref 387, vI x2]) (rest := []) e5 rfl rfl rfl ⟨rfl, rfl, rfl⟩ rfl rfl rfl rfl ?_
      refine mv_if 536 rfl rfl (fun c => ?_) (fun c => ?_)
      · have F := F.1 c
        obtain ⟨rfl, rfl⟩ := F
        exact ev_ret rfl rfl
      · have F := F.2 c
        refine ev_bk 2 (S' := (533, [some (.ref 367), some (vI x1), some (vI x2), some (vI x3), some (vI x4), some (vI x5), some (vI z3), none, none], [vI 7, .ref 367], hp S4, 0, 0)) rfl ?_
        obtain ⟨S7, e8, F⟩ := F
        refine mv_calv (as := [vI 7]) (rest := []) e8 (sh_367) rfl rfl rfl ⟨rfl, rfl⟩ rfl rfl rfl rfl rfl ?_
        obtain ⟨rfl, rfl⟩ := F
        exact ev_ret rfl rfl
theorem vc_MD_symbol {q : Nat × (Nat → Int32)} {S S' : ms} {r : Option Value} (x3 : Int) (a1 na1 : Nat) (ha1 : SH a1 = (0, na1, [])) (a2 na2 : Nat) (ha2 : SH a2 = (0, na2, []))
    (F : EV q 347 6 [some (.ref 367), some (.ref a1), some (.ref a2), some (vI x3), some (vI 0), some (vI 0), none, none] [] S r S') : EV q 347 0 [some (.ref 367), some (.ref a1), some (.ref a2), some (vI x3), none, none, none, none] [] S r S' := by
  unfold EV
  refine ev_bk 4 (S' := (6, [some (.ref 367), some (.ref a1), some (.ref a2), some (vI x3), some (vI 0), some (vI 0), none, none], [], hp S, 0, 0)) rfl ?_
  exact F
theorem vc_MD_symbol_6 {q : Nat × (Nat → Int32)} {S S' : ms} {r : Option Value} (x3 x4 x5 : Int) (a1 na1 : Nat) (ha1 : SH a1 = (0, na1, [])) (a2 na2 : Nat) (ha2 : SH a2 = (0, na2, []))
    (F : ((w32 x3 ≤ w32 x5) → EV q 347 44 [some (.ref 367), some (.ref a1), some (.ref a2), some (vI x3), some (vI x4), some (vI 0), some (vI 1), none] [] S r S') ∧ ((¬ w32 x3 ≤ w32 x5) → (0 ≤ w32 x5 ∧ w32 x5 < (na1 : Nat)) ∧ ((w32 (S.1 a1 (w32 x5)) ≤ w32 x4) → EV q 347 30 [some (.ref 367), some (.ref a1), some (.ref a2), some (vI x3), some (vI x4), some (vI x5), none, none] [vI x4] S r S') ∧ ((¬ w32 (S.1 a1 (w32 x5)) ≤ w32 x4) → (0 ≤ w32 x5 ∧ w32 x5 < (na1 : Nat)) ∧ EV q 347 30 [some (.ref 367), some (.ref a1), some (.ref a2), some (vI x3), some (vI x4), some (vI x5), none, none] [vI (S.1 a1 (w32 x5))] S r S'))) : EV q 347 6 [some (.ref 367), some (.ref a1), some (.ref a2), some (vI x3), some (vI x4), some (vI x5), none, none] [] S r S' := by
  unfold EV
  refine ev_bk 2 (S' := (9, [some (.ref 367), some (.ref a1), some (.ref a2), some (vI x3), some (vI x4), some (vI x5), none, none], [vI x3, vI x5], hp S, 0, 0)) rfl ?_
  refine mv_icmp 38 rfl rfl (fun c => ?_) (fun c => ?_)
  · have F := F.1 c
    refine ev_bk 4 (S' := (44, [some (.ref 367), some (.ref a1), some (.ref a2), some (vI x3), some (vI x4), some (vI 0), some (vI 1), none], [], hp S, 0, 0)) rfl ?_
    exact F
  · have F := F.2 c
    refine ev_bk 2 (S' := (15, [some (.ref 367), some (.ref a1), some (.ref a2), some (vI x3), some (vI x4), some (vI x5), none, none], [vI x5, .ref a1], hp S, 0, 0)) rfl ?_
    obtain ⟨b1, F⟩ := F
    refine mv_ial rfl (ha1) b1 ?_
    refine ev_bk 1 (S' := (18, [some (.ref 367), some (.ref a1), some (.ref a2), some (vI x3), some (vI x4), some (vI x5), none, none], [vI x4, vI (S.1 a1 (w32 x5))], hp S, 0, 0)) rfl ?_
    refine mv_icmp 28 rfl rfl (fun c => ?_) (fun c => ?_)
    · have F := F.1 c
      refine ev_bk 1 (S' := (30, [some (.ref 367), some (.ref a1), some (.ref a2), some (vI x3), some (vI x4), some (vI x5), none, none], [vI x4], hp S, 0, 0)) rfl ?_
      exact F
    · have F := F.2 c
      refine ev_bk 2 (S' := (24, [some (.ref 367), some (.ref a1), some (.ref a2), some (vI x3), some (vI x4), some (vI x5), none, none], [vI x5, .ref a1], hp S, 0, 0)) rfl ?_
      obtain ⟨b2, F⟩ := F
      refine mv_ial rfl (ha1) b2 ?_
      refine mv_goto 30 rfl rfl ?_
      exact F
theorem vc_MD_symbol_30 {q : Nat × (Nat → Int32)} {S S' : ms} {r : Option Value} (x3 x4 x5 y0 : Int) (a1 na1 : Nat) (ha1 : SH a1 = (0, na1, [])) (a2 na2 : Nat) (ha2 : SH a2 = (0, na2, []))
    (F : EV q 347 6 [some (.ref 367), some (.ref a1), some (.ref a2), some (vI x3), some (vI y0), some (vI (x5 + 1)), none, none] [] S r S') : EV q 347 30 [some (.ref 367), some (.ref a1), some (.ref a2), some (vI x3), some (vI x4), some (vI x5), none, none] [vI y0] S r S' := by
  unfold EV
  refine ev_bk 1 (S' := (32, [some (.ref 367), some (.ref a1), some (.ref a2), some (vI x3), some (vI y0), some (vI x5), none, none], [], hp S, 0, 0)) rfl ?_
  refine mv_inc (lv' := [some (.ref 367), some (.ref a1), some (.ref a2), some (vI x3), some (vI y0), some (vI (x5 + 1)), none, none]) 5 1 rfl rfl rfl rfl ?_
  refine mv_goto 6 rfl rfl ?_
  exact F
theorem vc_MD_symbol_44 {q : Nat × (Nat → Int32)} {S S' : ms} {r : Option Value} (x3 x4 x5 x6 : Int) (a1 na1 : Nat) (ha1 : SH a1 = (0, na1, [])) (a2 na2 : Nat) (ha2 : SH a2 = (0, na2, []))
    (F : ((w32 x4 < w32 x6) → ∃ (S1 : ms), EV q 337 0 [some (.ref 367), some (vI 11)] [] S none S1 ∧ r = some (vI ((-1))) ∧ S' = S1) ∧ ((¬ w32 x4 < w32 x6) → ∃ (z5 : Int) (S3 : ms), EV q 340 0 [some (.ref 367), none] [] S (some (vI z5)) S3 ∧ ∃ (z8 : Int) (S6 : ms), EV q 333 0 [some (.ref 367)] [] S3 (some (vI z8)) S6 ∧ ((¬ w32 z8 = 0) → EV q 347 74 [some (.ref 367), some (.ref a1), some (.ref a2), some (vI x3), some (vI x4), some (vI (bO (x5 * 2) z5)), some (vI x6), some (vI 0)] [] S6 r S') ∧ ((¬ (¬ w32 z8 = 0)) → r = some (vI ((-1))) ∧ S' = S6))) : EV q 347 44 [some (.ref 367), some (.ref a1), some (.ref a2), some (vI x3), some (vI x4), some (vI x5), some (vI x6), none] [] S r S' := by
  unfold EV
  refine ev_bk 2 (S' := (48, [some (.ref 367), some (.ref a1), some (.ref a2), some (vI x3), some (vI x4), some (vI x5), some (vI x6), none], [vI x4, vI x6], hp S, 0, 0)) rfl ?_
  refine mv_icmp 113 rfl rfl (fun c => ?_) (fun c => ?_)
  · have F := F.1 c
    refine ev_bk 2 (S' := (116, [some (.ref 367), some (.ref a1), some (.ref a2), some (vI x3), some (vI x4), some (vI x5), some (vI x6), none], [vI 11, .ref 367], hp S, 0, 0)) rfl ?_
    obtain ⟨S1, e2, F⟩ := F
    refine mv_calv (as := [vI 11]) (rest := []) e2 (sh_367) rfl rfl rfl ⟨rfl, rfl⟩ rfl rfl rfl rfl rfl ?_
    refine ev_bk 1 (S' := (120, [some (.ref 367), some (.ref a1), some (.ref a2), some (vI x3), some (vI x4), some (vI x5), some (vI x6), none], [vI ((-1))], hp S1, 0, 0)) rfl ?_
    obtain ⟨rfl, rfl⟩ := F
    exact ev_ret rfl rfl
  · have F := F.2 c
    refine ev_bk 2 (S' := (54, [some (.ref 367), some (.ref a1), some (.ref a2), some (vI x3), some (vI x4), some (vI x5), some (vI x6), none], [vI 1, vI x5], hp S, 0, 0)) rfl ?_
    refine mv_ishl 2 rfl rfl ?_
    refine ev_bk 1 (S' := (56, [some (.ref 367), some (.ref a1), some (.ref a2), some (vI x3), some (vI x4), some (vI x5), some (vI x6), none], [.ref 367, vI (x5 * 2)], hp S, 0, 0)) rfl ?_
    obtain ⟨z5, S3, e4, F⟩ := F
    refine mv_calv (as := []) (rest := [vI (x5 * 2)]) e4 (sh_367) rfl rfl rfl ⟨rfl, rfl⟩ rfl rfl rfl rfl rfl ?_
    refine mv_ior rfl ?_
    refine ev_bk 2 (S' := (63, [some (.ref 367), some (.ref a1), some (.ref a2), some (vI x3), some (vI x4), some (vI (bO (x5 * 2) z5)), some (vI x6), none], [.ref 367], hp S3, 0, 0)) rfl ?_
    obtain ⟨z8, S6, e7, F⟩ := F
    refine mv_calv (as := []) (rest := []) e7 (sh_367) rfl rfl rfl ⟨rfl, rfl⟩ rfl rfl rfl rfl rfl ?_
    refine mv_if 71 rfl rfl (fun c => ?_) (fun c => ?_)
    · have F := F.1 c
      refine ev_bk 2 (S' := (74, [some (.ref 367), some (.ref a1), some (.ref a2), some (vI x3), some (vI x4), some (vI (bO (x5 * 2) z5)), some (vI x6), some (vI 0)], [], hp S6, 0, 0)) rfl ?_
      exact F
    · have F := F.2 c
      refine ev_bk 1 (S' := (70, [some (.ref 367), some (.ref a1), some (.ref a2), some (vI x3), some (vI x4), some (vI (bO (x5 * 2) z5)), some (vI x6), none], [vI ((-1))], hp S6, 0, 0)) rfl ?_
      obtain ⟨rfl, rfl⟩ := F
      exact ev_ret rfl rfl
theorem vc_MD_symbol_74 {q : Nat × (Nat → Int32)} {S S' : ms} {r : Option Value} (x3 x4 x5 x6 x7 : Int) (a1 na1 : Nat) (ha1 : SH a1 = (0, na1, [])) (a2 na2 : Nat) (ha2 : SH a2 = (0, na2, []))
    (F : ((w32 x3 ≤ w32 x7) → EV q 347 44 [some (.ref 367), some (.ref a1), some (.ref a2), some (vI x3), some (vI x4), some (vI x5), some (vI (x6 + 1)), none] [] S r S') ∧ ((¬ w32 x3 ≤ w32 x7) → (0 ≤ w32 x7 ∧ w32 x7 < (na1 : Nat)) ∧ ((¬ w32 (S.1 a1 (w32 x7)) = w32 x6) → EV q 347 101 [some (.ref 367), some (.ref a1), some (.ref a2), some (vI x3), some (vI x4), some (vI x5), some (vI x6), some (vI x7)] [] S r S') ∧ ((¬ (¬ w32 (S.1 a1 (w32 x7)) = w32 x6)) → (0 ≤ w32 x7 ∧ w32 x7 < (na2 : Nat)) ∧ ((¬ w32 (S.1 a2 (w32 x7)) = w32 x5) → EV q 347 101 [some (.ref 367), some (.ref a1), some (.ref a2), some (vI x3), some (vI x4), some (vI x5), some (vI x6), some (vI x7)] [] S r S') ∧ ((¬ (¬ w32 (S.1 a2 (w32 x7)) = w32 x5)) → r = some (vI x7) ∧ S' = S)))) : EV q 347 74 [some (.ref 367), some (.ref a1), some (.ref a2), some (vI x3), some (vI x4), some (vI x5), some (vI x6), some (vI x7)] [] S r S' := by
  unfold EV
  refine ev_bk 2 (S' := (77, [some (.ref 367), some (.ref a1), some (.ref a2), some (vI x3), some (vI x4), some (vI x5), some (vI x6), some (vI x7)], [vI x3, vI x7], hp S, 0, 0)) rfl ?_
  refine mv_icmp 107 rfl rfl (fun c => ?_) (fun c => ?_)
  · have F := F.1 c
    refine mv_inc (lv' := [some (.ref 367), some (.ref a1), some (.ref a2), some (vI x3), some (vI x4), some (vI x5), some (vI (x6 + 1)), some (vI x7)]) 6 1 rfl rfl rfl rfl ?_
    refine mv_goto 44 rfl rfl ?_
    exact ev_wk (le_s (le_s (le_s (le_s (le_s (le_s (le_s (le_n le_0)))))))) F
  · have F := F.2 c
    refine ev_bk 2 (S' := (83, [some (.ref 367), some (.ref a1), some (.ref a2), some (vI x3), some (vI x4), some (vI x5), some (vI x6), some (vI x7)], [vI x7, .ref a1], hp S, 0, 0)) rfl ?_
    obtain ⟨b1, F⟩ := F
    refine mv_ial rfl (ha1) b1 ?_
    refine ev_bk 1 (S' := (86, [some (.ref 367), some (.ref a1), some (.ref a2), some (vI x3), some (vI x4), some (vI x5), some (vI x6), some (vI x7)], [vI x6, vI (S.1 a1 (w32 x7))], hp S, 0, 0)) rfl ?_
    refine mv_icmp 101 rfl rfl (fun c => ?_) (fun c => ?_)
    · have F := F.1 c
      exact F
    · have F := F.2 c
      refine ev_bk 2 (S' := (92, [some (.ref 367), some (.ref a1), some (.ref a2), some (vI x3), some (vI x4), some (vI x5), some (vI x6), some (vI x7)], [vI x7, .ref a2], hp S, 0, 0)) rfl ?_
      obtain ⟨b2, F⟩ := F
      refine mv_ial rfl (ha2) b2 ?_
      refine ev_bk 1 (S' := (95, [some (.ref 367), some (.ref a1), some (.ref a2), some (vI x3), some (vI x4), some (vI x5), some (vI x6), some (vI x7)], [vI x5, vI (S.1 a2 (w32 x7))], hp S, 0, 0)) rfl ?_
      refine mv_icmp 101 rfl rfl (fun c => ?_) (fun c => ?_)
      · have F := F.1 c
        exact F
      · have F := F.2 c
        refine ev_bk 1 (S' := (100, [some (.ref 367), some (.ref a1), some (.ref a2), some (vI x3), some (vI x4), some (vI x5), some (vI x6), some (vI x7)], [vI x7], hp S, 0, 0)) rfl ?_
        obtain ⟨rfl, rfl⟩ := F
        exact ev_ret rfl rfl
theorem vc_MD_symbol_101 {q : Nat × (Nat → Int32)} {S S' : ms} {r : Option Value} (x3 x4 x5 x6 x7 : Int) (a1 na1 : Nat) (ha1 : SH a1 = (0, na1, [])) (a2 na2 : Nat) (ha2 : SH a2 = (0, na2, []))
    (F : EV q 347 74 [some (.ref 367), some (.ref a1), some (.ref a2), some (vI x3), some (vI x4), some (vI x5), some (vI x6), some (vI (x7 + 1))] [] S r S') : EV q 347 101 [some (.ref 367), some (.ref a1), some (.ref a2), some (vI x3), some (vI x4), some (vI x5), some (vI x6), some (vI x7)] [] S r S' := by
  unfold EV
  refine mv_inc (lv' := [some (.ref 367), some (.ref a1), some (.ref a2), some (vI x3), some (vI x4), some (vI x5), some (vI x6), some (vI (x7 + 1))]) 7 1 rfl rfl rfl rfl ?_
  refine mv_goto 74 rfl rfl ?_
  exact F
theorem vc_MD_isSingle {q : Nat × (Nat → Int32)} {S S' : ms} {r : Option Value} (x1 : Int) (a0 na0 : Nat) (ha0 : SH a0 = (0, na0, []))
    (F : EV q 348 7 [some (.ref a0), some (vI x1), some (vI 0), some (vI 1), some (vI 0)] [] S r S') : EV q 348 0 [some (.ref a0), some (vI x1), none, none, none] [] S r S' := by
  unfold EV
  refine ev_bk 6 (S' := (7, [some (.ref a0), some (vI x1), some (vI 0), some (vI 1), some (vI 0)], [], hp S, 0, 0)) rfl ?_
  exact F
theorem vc_MD_isSingle_7 {q : Nat × (Nat → Int32)} {S S' : ms} {r : Option Value} (x1 x2 x3 x4 : Int) (a0 na0 : Nat) (ha0 : SH a0 = (0, na0, []))
    (F : ((w32 x1 ≤ w32 x4) → ((¬ w32 x2 = 1) → r = some (vI 0) ∧ S' = S) ∧ ((¬ (¬ w32 x2 = 1)) → ((w32 x3 = 0) → r = some (vI 0) ∧ S' = S) ∧ ((¬ w32 x3 = 0) → r = some (vI 1) ∧ S' = S))) ∧ ((¬ w32 x1 ≤ w32 x4) → (0 ≤ w32 x4 ∧ w32 x4 < (na0 : Nat)) ∧ ((w32 (S.1 a0 (w32 x4)) ≤ 0) → EV q 348 26 [some (.ref a0), some (vI x1), some (vI x2), some (vI x3), some (vI x4)] [vI 0, vI x2] S r S') ∧ ((¬ w32 (S.1 a0 (w32 x4)) ≤ 0) → EV q 348 26 [some (.ref a0), some (vI x1), some (vI x2), some (vI x3), some (vI x4)] [vI 1, vI x2] S r S'))) : EV q 348 7 [some (.ref a0), some (vI x1), some (vI x2), some (vI x3), some (vI x4)] [] S r S' := by
  unfold EV
  refine ev_bk 2 (S' := (10, [some (.ref a0), some (vI x1), some (vI x2), some (vI x3), some (vI x4)], [vI x1, vI x4], hp S, 0, 0)) rfl ?_
  refine mv_icmp 52 rfl rfl (fun c => ?_) (fun c => ?_)
  · have F := F.1 c
    refine ev_bk 2 (S' := (54, [some (.ref a0), some (vI x1), some (vI x2), some (vI x3), some (vI x4)], [vI 1, vI x2], hp S, 0, 0)) rfl ?_
    refine mv_icmp 65 rfl rfl (fun c => ?_) (fun c => ?_)
    · have F := F.1 c
      refine ev_bk 1 (S' := (66, [some (.ref a0), some (vI x1), some (vI x2), some (vI x3), some (vI x4)], [vI 0], hp S, 0, 0)) rfl ?_
      obtain ⟨rfl, rfl⟩ := F
      exact ev_ret rfl rfl
    · have F := F.2 c
      refine ev_bk 1 (S' := (58, [some (.ref a0), some (vI x1), some (vI x2), some (vI x3), some (vI x4)], [vI x3], hp S, 0, 0)) rfl ?_
      refine mv_if 65 rfl rfl (fun c => ?_) (fun c => ?_)
      · have F := F.1 c
        refine ev_bk 1 (S' := (66, [some (.ref a0), some (vI x1), some (vI x2), some (vI x3), some (vI x4)], [vI 0], hp S, 0, 0)) rfl ?_
        obtain ⟨rfl, rfl⟩ := F
        exact ev_ret rfl rfl
      · have F := F.2 c
        refine ev_bk 1 (S' := (62, [some (.ref a0), some (vI x1), some (vI x2), some (vI x3), some (vI x4)], [vI 1], hp S, 0, 0)) rfl ?_
        refine mv_goto 66 rfl rfl ?_
        obtain ⟨rfl, rfl⟩ := F
        exact ev_ret rfl rfl
  · have F := F.2 c
    refine ev_bk 3 (S' := (17, [some (.ref a0), some (vI x1), some (vI x2), some (vI x3), some (vI x4)], [vI x4, .ref a0, vI x2], hp S, 0, 0)) rfl ?_
    obtain ⟨b1, F⟩ := F
    refine mv_ial rfl (ha0) b1 ?_
    refine mv_if 25 rfl rfl (fun c => ?_) (fun c => ?_)
    · have F := F.1 c
      refine ev_bk 1 (S' := (26, [some (.ref a0), some (vI x1), some (vI x2), some (vI x3), some (vI x4)], [vI 0, vI x2], hp S, 0, 0)) rfl ?_
      exact F
    · have F := F.2 c
      refine ev_bk 1 (S' := (22, [some (.ref a0), some (vI x1), some (vI x2), some (vI x3), some (vI x4)], [vI 1, vI x2], hp S, 0, 0)) rfl ?_
      refine mv_goto 26 rfl rfl ?_
      exact F
theorem vc_MD_isSingle_26 {q : Nat × (Nat → Int32)} {S S' : ms} {r : Option Value} (x1 x2 x3 x4 y0 y1 : Int) (a0 na0 : Nat) (ha0 : SH a0 = (0, na0, []))
    (F : ((w32 x3 = 0) → EV q 348 44 [some (.ref a0), some (vI x1), some (vI (y1 + y0)), some (vI x3), some (vI x4)] [] S r S') ∧ ((¬ w32 x3 = 0) → (0 ≤ w32 x4 ∧ w32 x4 < (na0 : Nat)) ∧ ((2 ≤ w32 (S.1 a0 (w32 x4))) → EV q 348 44 [some (.ref a0), some (vI x1), some (vI (y1 + y0)), some (vI x3), some (vI x4)] [] S r S') ∧ ((¬ 2 ≤ w32 (S.1 a0 (w32 x4))) → EV q 348 45 [some (.ref a0), some (vI x1), some (vI (y1 + y0)), some (vI x3), some (vI x4)] [vI 1] S r S'))) : EV q 348 26 [some (.ref a0), some (vI x1), some (vI x2), some (vI x3), some (vI x4)] [vI y0, vI y1] S r S' := by
  unfold EV
  refine mv_iadd rfl ?_
  refine ev_bk 2 (S' := (29, [some (.ref a0), some (vI x1), some (vI (y1 + y0)), some (vI x3), some (vI x4)], [vI x3], hp S, 0, 0)) rfl ?_
  refine mv_if 44 rfl rfl (fun c => ?_) (fun c => ?_)
  · have F := F.1 c
    exact F
  · have F := F.2 c
    refine ev_bk 2 (S' := (35, [some (.ref a0), some (vI x1), some (vI (y1 + y0)), some (vI x3), some (vI x4)], [vI x4, .ref a0], hp S, 0, 0)) rfl ?_
    obtain ⟨b1, F⟩ := F
    refine mv_ial rfl (ha0) b1 ?_
    refine ev_bk 1 (S' := (37, [some (.ref a0), some (vI x1), some (vI (y1 + y0)), some (vI x3), some (vI x4)], [vI 2, vI (S.1 a0 (w32 x4))], hp S, 0, 0)) rfl ?_
    refine mv_icmp 44 rfl rfl (fun c => ?_) (fun c => ?_)
    · have F := F.1 c
      exact F
    · have F := F.2 c
      refine ev_bk 1 (S' := (41, [some (.ref a0), some (vI x1), some (vI (y1 + y0)), some (vI x3), some (vI x4)], [vI 1], hp S, 0, 0)) rfl ?_
      refine mv_goto 45 rfl rfl ?_
      exact F
theorem vc_MD_isSingle_44 {q : Nat × (Nat → Int32)} {S S' : ms} {r : Option Value} (x1 x2 x3 x4 : Int) (a0 na0 : Nat) (ha0 : SH a0 = (0, na0, []))
    (F : EV q 348 45 [some (.ref a0), some (vI x1), some (vI x2), some (vI x3), some (vI x4)] [vI 0] S r S') : EV q 348 44 [some (.ref a0), some (vI x1), some (vI x2), some (vI x3), some (vI x4)] [] S r S' := by
  unfold EV
  refine ev_bk 1 (S' := (45, [some (.ref a0), some (vI x1), some (vI x2), some (vI x3), some (vI x4)], [vI 0], hp S, 0, 0)) rfl ?_
  exact F
theorem vc_MD_isSingle_45 {q : Nat × (Nat → Int32)} {S S' : ms} {r : Option Value} (x1 x2 x3 x4 y0 : Int) (a0 na0 : Nat) (ha0 : SH a0 = (0, na0, []))
    (F : EV q 348 7 [some (.ref a0), some (vI x1), some (vI x2), some (vI y0), some (vI (x4 + 1))] [] S r S') : EV q 348 45 [some (.ref a0), some (vI x1), some (vI x2), some (vI x3), some (vI x4)] [vI y0] S r S' := by
  unfold EV
  refine ev_bk 1 (S' := (46, [some (.ref a0), some (vI x1), some (vI x2), some (vI y0), some (vI x4)], [], hp S, 0, 0)) rfl ?_
  refine mv_inc (lv' := [some (.ref a0), some (vI x1), some (vI x2), some (vI y0), some (vI (x4 + 1))]) 4 1 rfl rfl rfl rfl ?_
  refine mv_goto 7 rfl rfl ?_
  exact F
theorem vc_MD_openSymbols {q : Nat × (Nat → Int32)} {S S' : ms} {r : Option Value}
    (F : EV q 349 2 [some (.ref 367), some (vI 1), none, none, none, none, none, none] [] S r S') : EV q 349 0 [some (.ref 367), none, none, none, none, none, none, none] [] S r S' := by
  unfold EV
  refine ev_bk 2 (S' := (2, [some (.ref 367), some (vI 1), none, none, none, none, none, none], [], hp S, 0, 0)) rfl ?_
  exact F
theorem vc_MD_openSymbols_2 {q : Nat × (Nat → Int32)} {S S' : ms} {r : Option Value} (x1 : Int)
    (F : ((w32 x1 = 0) → r = none ∧ S' = S) ∧ ((¬ w32 x1 = 0) → ∃ (z3 : Int) (S1 : ms), EV q 333 0 [some (.ref 367)] [] S (some (vI z3)) S1 ∧ ((w32 z3 = 0) → r = none ∧ S' = S1) ∧ ((¬ w32 z3 = 0) → ∃ (z6 : Int) (S4 : ms), EV q 347 0 [some (.ref 367), some (.ref 385), some (.ref 386), some (vI (S1.1 367 58)), none, none, none, none] [] S1 (some (vI z6)) S4 ∧ ((0 ≤ w32 z6) → ((256 ≤ w32 z6) → ((¬ w32 z6 = 256) → ((w32 z6 ≤ 285) → (0 ≤ w32 (z6 - 257) ∧ w32 (z6 - 257) < (30 : Nat)) ∧ (0 ≤ w32 (z6 - 257) ∧ w32 (z6 - 257) < (30 : Nat)) ∧ ∃ (z11 : Int) (S9 : ms), EV q 339 0 [some (.ref 367), some (vI (S4.1 392 (w32 (z6 - 257)))), none, none, none, none, none] [] S4 (some (vL z11)) S9 ∧ ∃ (z14 : Int) (S12 : ms), EV q 333 0 [some (.ref 367)] [] S9 (some (vI z14)) S12 ∧ ((w32 z14 = 0) → EV q 349 132 [some (.ref 367), some (vI x1), some (vI z6), some (vL ((w32 (S4.1 391 (w32 (z6 - 257)))) + z11)), none, none, none, none] [vI ((-1))] S12 r S') ∧ ((¬ w32 z14 = 0) → ∃ (z17 : Int) (S15 : ms), EV q 347 0 [some (.ref 367), some (.ref 387), some (.ref 388), some (vI (S12.1 367 59)), none, none, none, none] [] S12 (some (vI z17)) S15 ∧ EV q 349 132 [some (.ref 367), some (vI x1), some (vI z6), some (vL ((w32 (S4.1 391 (w32 (z6 - 257)))) + z11)), none, none, none, none] [vI z17] S15 r S')) ∧ ((¬ w32 z6 ≤ 285) → ∃ (S18 : ms), EV q 337 0 [some (.ref 367), some (vI 11)] [] S4 none S18 ∧ EV q 349 223 [some (.ref 367), some (vI x1), some (vI z6), none, none, none, none, none] [] S18 r S')) ∧ ((¬ (¬ w32 z6 = 256)) → EV q 349 223 [some (.ref 367), some (vI 0), some (vI z6), none, none, none, none, none] [] S4 r S')) ∧ ((¬ 256 ≤ w32 z6) → ∃ (S20 : ms), EV q 336 0 [some (.ref 367), some (vI z6)] [] S4 none S20 ∧ EV q 349 223 [some (.ref 367), some (vI x1), some (vI z6), none, none, none, none, none] [] S20 r S')) ∧ ((¬ 0 ≤ w32 z6) → r = none ∧ S' = S4)))) : EV q 349 2 [some (.ref 367), some (vI x1), none, none, none, none, none, none] [] S r S' := by
  unfold EV
  refine ev_bk 1 (S' := (3, [some (.ref 367), some (vI x1), none, none, none, none, none, none], [vI x1], hp S, 0, 0)) rfl ?_
  refine mv_if 226 rfl rfl (fun c => ?_) (fun c => ?_)
  · have F := F.1 c
    obtain ⟨rfl, rfl⟩ := F
    exact ev_ret rfl rfl
  · have F := F.2 c
    refine ev_bk 1 (S' := (7, [some (.ref 367), some (vI x1), none, none, none, none, none, none], [.ref 367], hp S, 0, 0)) rfl ?_
    obtain ⟨z3, S1, e2, F⟩ := F
    refine mv_calv (as := []) (rest := []) e2 (sh_367) rfl rfl rfl ⟨rfl, rfl⟩ rfl rfl rfl rfl rfl ?_
    refine mv_if 226 rfl rfl (fun c => ?_) (fun c => ?_)
    · have F := F.1 c
      obtain ⟨rfl, rfl⟩ := F
      exact ev_ret rfl rfl
    · have F := F.2 c
      refine ev_bk 2 (S' := (15, [some (.ref 367), some (vI x1), none, none, none, none, none, none], [.ref 367, .ref 367], hp S1, 0, 0)) rfl ?_
      refine mv_gfR rfl rfl (sh_367) (by decide) rfl ?_
      refine ev_bk 1 (S' := (19, [some (.ref 367), some (vI x1), none, none, none, none, none, none], [.ref 367, .ref 385, .ref 367], hp S1, 0, 0)) rfl ?_
      refine mv_gfR rfl rfl (sh_367) (by decide) rfl ?_
      refine ev_bk 1 (S' := (23, [some (.ref 367), some (vI x1), none, none, none, none, none, none], [.ref 367, .ref 386, .ref 385, .ref 367], hp S1, 0, 0)) rfl ?_
      refine mv_gfI rfl rfl (sh_367) (by decide) rfl ?_
      obtain ⟨z6, S4, e5, F⟩ := F
      refine mv_calv (as := [.ref 385, .ref 386, vI (S1.1 367 58)]) (rest := []) e5 (sh_367) rfl rfl rfl ⟨rfl, rfl⟩ rfl rfl rfl rfl rfl ?_
      refine ev_bk 2 (S' := (31, [some (.ref 367), some (vI x1), some (vI z6), none, none, none, none, none], [vI z6], hp S4, 0, 0)) rfl ?_
      refine mv_if 35 rfl rfl (fun c => ?_) (fun c => ?_)
      · have F := F.1 c
        refine ev_bk 2 (S' := (39, [some (.ref 367), some (vI x1), some (vI z6), none, none, none, none, none], [vI 256, vI z6], hp S4, 0, 0)) rfl ?_
        refine mv_icmp 50 rfl rfl (fun c => ?_) (fun c => ?_)
        · have F := F.1 c
          refine ev_bk 2 (S' := (54, [some (.ref 367), some (vI x1), some (vI z6), none, none, none, none, none], [vI 256, vI z6], hp S4, 0, 0)) rfl ?_
          refine mv_icmp 62 rfl rfl (fun c => ?_) (fun c => ?_)
          · have F := F.1 c
            refine ev_bk 2 (S' := (66, [some (.ref 367), some (vI x1), some (vI z6), none, none, none, none, none], [vI 285, vI z6], hp S4, 0, 0)) rfl ?_
            refine mv_icmp 78 rfl rfl (fun c => ?_) (fun c => ?_)
            · have F := F.1 c
              refine ev_bk 1 (S' := (79, [some (.ref 367), some (vI x1), some (vI z6), none, none, none, none, none], [.ref 367], hp S4, 0, 0)) rfl ?_
              refine mv_gfR rfl rfl (sh_367) (by decide) rfl ?_
              refine ev_bk 2 (S' := (86, [some (.ref 367), some (vI x1), some (vI z6), none, none, none, none, none], [vI 257, vI z6, .ref 391], hp S4, 0, 0)) rfl ?_
              refine mv_isub rfl ?_
              obtain ⟨b7, F⟩ := F
              refine mv_ial rfl (sh_391) b7 ?_
              refine mv_i2l rfl ?_
              refine ev_bk 2 (S' := (91, [some (.ref 367), some (vI x1), some (vI z6), none, none, none, none, none], [.ref 367, .ref 367, vL (w32 (S4.1 391 (w32 (z6 - 257))))], hp S4, 0, 0)) rfl ?_
              refine mv_gfR rfl rfl (sh_367) (by decide) rfl ?_
              refine ev_bk 2 (S' := (98, [some (.ref 367), some (vI x1), some (vI z6), none, none, none, none, none], [vI 257, vI z6, .ref 392, .ref 367, vL (w32 (S4.1 391 (w32 (z6 - 257))))], hp S4, 0, 0)) rfl ?_
              refine mv_isub rfl ?_
              obtain ⟨b8, F⟩ := F
              refine mv_ial rfl (sh_392) b8 ?_
              obtain ⟨z11, S9, e10, F⟩ := F
              refine mv_calv (as := [vI (S4.1 392 (w32 (z6 - 257)))]) (rest := [vL (w32 (S4.1 391 (w32 (z6 - 257))))]) e10 (sh_367) rfl rfl rfl ⟨rfl, rfl⟩ rfl rfl rfl rfl rfl ?_
              refine mv_ladd rfl ?_
              refine ev_bk 2 (S' := (106, [some (.ref 367), some (vI x1), some (vI z6), some (vL ((w32 (S4.1 391 (w32 (z6 - 257)))) + z11)), none, none, none, none], [.ref 367], hp S9, 0, 0)) rfl ?_
              obtain ⟨z14, S12, e13, F⟩ := F
              refine mv_calv (as := []) (rest := []) e13 (sh_367) rfl rfl rfl ⟨rfl, rfl⟩ rfl rfl rfl rfl rfl ?_
              refine mv_if 131 rfl rfl (fun c => ?_) (fun c => ?_)
              · have F := F.1 c
                refine ev_bk 1 (S' := (132, [some (.ref 367), some (vI x1), some (vI z6), some (vL ((w32 (S4.1 391 (w32 (z6 - 257)))) + z11)), none, none, none, none], [vI ((-1))], hp S12, 0, 0)) rfl ?_
                exact F
              · have F := F.2 c
                refine ev_bk 2 (S' := (114, [some (.ref 367), some (vI x1), some (vI z6), some (vL ((w32 (S4.1 391 (w32 (z6 - 257)))) + z11)), none, none, none, none], [.ref 367, .ref 367], hp S12, 0, 0)) rfl ?_
                refine mv_gfR rfl rfl (sh_367) (by decide) rfl ?_
                refine ev_bk 1 (S' := (118, [some (.ref 367), some (vI x1), some (vI z6), some (vL ((w32 (S4.1 391 (w32 (z6 - 257)))) + z11)), none, none, none, none], [.ref 367, .ref 387, .ref 367], hp S12, 0, 0)) rfl ?_
                refine mv_gfR rfl rfl (sh_367) (by decide) rfl ?_
                refine ev_bk 1 (S' := (122, [some (.ref 367), some (vI x1), some (vI z6), some (vL ((w32 (S4.1 391 (w32 (z6 - 257)))) + z11)), none, none, none, none], [.ref 367, .ref 388, .ref 387, .ref 367], hp S12, 0, 0)) rfl ?_
                refine mv_gfI rfl rfl (sh_367) (by decide) rfl ?_
                obtain ⟨z17, S15, e16, F⟩ := F
                refine mv_calv (as := [.ref 387, .ref 388, vI (S12.1 367 59)]) (rest := []) e16 (sh_367) rfl rfl rfl ⟨rfl, rfl⟩ rfl rfl rfl rfl rfl ?_
                refine mv_goto 132 rfl rfl ?_
                exact F
            · have F := F.2 c
              refine ev_bk 2 (S' := (72, [some (.ref 367), some (vI x1), some (vI z6), none, none, none, none, none], [vI 11, .ref 367], hp S4, 0, 0)) rfl ?_
              obtain ⟨S18, e19, F⟩ := F
              refine mv_calv (as := [vI 11]) (rest := []) e19 (sh_367) rfl rfl rfl ⟨rfl, rfl⟩ rfl rfl rfl rfl rfl ?_
              refine mv_goto 223 rfl rfl ?_
              exact F
          · have F := F.2 c
            refine ev_bk 2 (S' := (59, [some (.ref 367), some (vI 0), some (vI z6), none, none, none, none, none], [], hp S4, 0, 0)) rfl ?_
            refine mv_goto 223 rfl rfl ?_
            exact F
        · have F := F.2 c
          refine ev_bk 2 (S' := (44, [some (.ref 367), some (vI x1), some (vI z6), none, none, none, none, none], [vI z6, .ref 367], hp S4, 0, 0)) rfl ?_
          obtain ⟨S20, e21, F⟩ := F
          refine mv_calv (as := [vI z6]) (rest := []) e21 (sh_367) rfl rfl rfl ⟨rfl, rfl⟩ rfl rfl rfl rfl rfl ?_
          refine mv_goto 223 rfl rfl ?_
          exact F
      · have F := F.2 c
        obtain ⟨rfl, rfl⟩ := F
        exact ev_ret rfl rfl
theorem vc_MD_openSymbols_132 {q : Nat × (Nat → Int32)} {S S' : ms} {r : Option Value} (x1 x2 x3 y0 : Int)
    (F : ((w32 y0 ≤ 29) → EV q 349 147 [some (.ref 367), some (vI x1), some (vI x2), some (vL x3), none, some (vI y0), none, none] [] S r S') ∧ ((¬ w32 y0 ≤ 29) → ∃ (S1 : ms), EV q 337 0 [some (.ref 367), some (vI 11)] [] S none S1 ∧ EV q 349 147 [some (.ref 367), some (vI x1), some (vI x2), some (vL x3), none, some (vI y0), none, none] [] S1 r S')) : EV q 349 132 [some (.ref 367), some (vI x1), some (vI x2), some (vL x3), none, none, none, none] [vI y0] S r S' := by
  unfold EV
  refine ev_bk 3 (S' := (138, [some (.ref 367), some (vI x1), some (vI x2), some (vL x3), none, some (vI y0), none, none], [vI 29, vI y0], hp S, 0, 0)) rfl ?_
  refine mv_icmp 147 rfl rfl (fun c => ?_) (fun c => ?_)
  · have F := F.1 c
    exact F
  · have F := F.2 c
    refine ev_bk 2 (S' := (144, [some (.ref 367), some (vI x1), some (vI x2), some (vL x3), none, some (vI y0), none, none], [vI 11, .ref 367], hp S, 0, 0)) rfl ?_
    obtain ⟨S1, e2, F⟩ := F
    refine mv_calv (as := [vI 11]) (rest := []) e2 (sh_367) rfl rfl rfl ⟨rfl, rfl⟩ rfl rfl rfl rfl rfl ?_
    exact F
theorem vc_MD_openSymbols_147 {q : Nat × (Nat → Int32)} {S S' : ms} {r : Option Value} (x1 x2 x3 x5 : Int)
    (F : ((w32 x5 < 0) → r = none ∧ S' = S) ∧ ((¬ w32 x5 < 0) → ((w32 x5 ≤ 29) → (0 ≤ w32 x5 ∧ w32 x5 < (30 : Nat)) ∧ (0 ≤ w32 x5 ∧ w32 x5 < (30 : Nat)) ∧ ∃ (z5 : Int) (S3 : ms), EV q 339 0 [some (.ref 367), some (vI (S.1 394 (w32 x5))), none, none, none, none, none] [] S (some (vL z5)) S3 ∧ ∃ (z8 : Int) (S6 : ms), EV q 333 0 [some (.ref 367)] [] S3 (some (vI z8)) S6 ∧ ((w32 z8 = 0) → EV q 349 216 [some (.ref 367), some (vI x1), some (vI x2), some (vL x3), none, some (vI x5), some (vL ((w32 (S.1 393 (w32 x5))) + z5)), none] [] S6 r S') ∧ ((¬ w32 z8 = 0) → ((w64 (w32 (S6.1 367 22)) < w64 ((w32 (S.1 393 (w32 x5))) + z5)) → EV q 349 210 [some (.ref 367), some (vI x1), some (vI x2), some (vL x3), none, some (vI x5), some (vL ((w32 (S.1 393 (w32 x5))) + z5)), none] [] S6 r S') ∧ ((¬ w64 (w32 (S6.1 367 22)) < w64 ((w32 (S.1 393 (w32 x5))) + z5)) → ((w64 ((w32 (S.1 393 (w32 x5))) + z5) ≤ w64 (S6.2.1 367 60)) → EV q 349 216 [some (.ref 367), some (vI x1), some (vI x2), some (vL x3), none, some (vI x5), some (vL ((w32 (S.1 393 (w32 x5))) + z5)), none] [] S6 r S') ∧ ((¬ w64 ((w32 (S.1 393 (w32 x5))) + z5) ≤ w64 (S6.2.1 367 60)) → EV q 349 210 [some (.ref 367), some (vI x1), some (vI x2), some (vL x3), none, some (vI x5), some (vL ((w32 (S.1 393 (w32 x5))) + z5)), none] [] S6 r S')))) ∧ ((¬ w32 x5 ≤ 29) → r = none ∧ S' = S))) : EV q 349 147 [some (.ref 367), some (vI x1), some (vI x2), some (vL x3), none, some (vI x5), none, none] [] S r S' := by
  unfold EV
  refine ev_bk 1 (S' := (149, [some (.ref 367), some (vI x1), some (vI x2), some (vL x3), none, some (vI x5), none, none], [vI x5], hp S, 0, 0)) rfl ?_
  refine mv_if 159 rfl rfl (fun c => ?_) (fun c => ?_)
  · have F := F.1 c
    obtain ⟨rfl, rfl⟩ := F
    exact ev_ret rfl rfl
  · have F := F.2 c
    refine ev_bk 2 (S' := (156, [some (.ref 367), some (vI x1), some (vI x2), some (vL x3), none, some (vI x5), none, none], [vI 29, vI x5], hp S, 0, 0)) rfl ?_
    refine mv_icmp 160 rfl rfl (fun c => ?_) (fun c => ?_)
    · have F := F.1 c
      refine ev_bk 1 (S' := (161, [some (.ref 367), some (vI x1), some (vI x2), some (vL x3), none, some (vI x5), none, none], [.ref 367], hp S, 0, 0)) rfl ?_
      refine mv_gfR rfl rfl (sh_367) (by decide) rfl ?_
      refine ev_bk 1 (S' := (166, [some (.ref 367), some (vI x1), some (vI x2), some (vL x3), none, some (vI x5), none, none], [vI x5, .ref 393], hp S, 0, 0)) rfl ?_
      obtain ⟨b1, F⟩ := F
      refine mv_ial rfl (sh_393) b1 ?_
      refine mv_i2l rfl ?_
      refine ev_bk 2 (S' := (170, [some (.ref 367), some (vI x1), some (vI x2), some (vL x3), none, some (vI x5), none, none], [.ref 367, .ref 367, vL (w32 (S.1 393 (w32 x5)))], hp S, 0, 0)) rfl ?_
      refine mv_gfR rfl rfl (sh_367) (by decide) rfl ?_
      refine ev_bk 1 (S' := (175, [some (.ref 367), some (vI x1), some (vI x2), some (vL x3), none, some (vI x5), none, none], [vI x5, .ref 394, .ref 367, vL (w32 (S.1 393 (w32 x5)))], hp S, 0, 0)) rfl ?_
      obtain ⟨b2, F⟩ := F
      refine mv_ial rfl (sh_394) b2 ?_
      obtain ⟨z5, S3, e4, F⟩ := F
      refine mv_calv (as := [vI (S.1 394 (w32 x5))]) (rest := [vL (w32 (S.1 393 (w32 x5)))]) e4 (sh_367) rfl rfl rfl ⟨rfl, rfl⟩ rfl rfl rfl rfl rfl ?_
      refine mv_ladd rfl ?_
      refine ev_bk 2 (S' := (183, [some (.ref 367), some (vI x1), some (vI x2), some (vL x3), none, some (vI x5), some (vL ((w32 (S.1 393 (w32 x5))) + z5)), none], [.ref 367], hp S3, 0, 0)) rfl ?_
      obtain ⟨z8, S6, e7, F⟩ := F
      refine mv_calv (as := []) (rest := []) e7 (sh_367) rfl rfl rfl ⟨rfl, rfl⟩ rfl rfl rfl rfl rfl ?_
      refine mv_if 216 rfl rfl (fun c => ?_) (fun c => ?_)
      · have F := F.1 c
        exact F
      · have F := F.2 c
        refine ev_bk 2 (S' := (192, [some (.ref 367), some (vI x1), some (vI x2), some (vL x3), none, some (vI x5), some (vL ((w32 (S.1 393 (w32 x5))) + z5)), none], [.ref 367, vL ((w32 (S.1 393 (w32 x5))) + z5)], hp S6, 0, 0)) rfl ?_
        refine mv_gfI rfl rfl (sh_367) (by decide) rfl ?_
        refine mv_i2l rfl ?_
        refine mv_lif 210 rfl rfl rfl (fun c => ?_) (fun c => ?_)
        · have F := F.1 c
          exact F
        · have F := F.2 c
          refine ev_bk 2 (S' := (203, [some (.ref 367), some (vI x1), some (vI x2), some (vL x3), none, some (vI x5), some (vL ((w32 (S.1 393 (w32 x5))) + z5)), none], [.ref 367, vL ((w32 (S.1 393 (w32 x5))) + z5)], hp S6, 0, 0)) rfl ?_
          refine mv_gfJ rfl rfl (sh_367) (by decide) rfl ?_
          refine mv_lif 216 rfl rfl rfl (fun c => ?_) (fun c => ?_)
          · have F := F.1 c
            exact F
          · have F := F.2 c
            exact F
    · have F := F.2 c
      obtain ⟨rfl, rfl⟩ := F
      exact ev_ret rfl rfl
theorem vc_MD_openSymbols_210 {q : Nat × (Nat → Int32)} {S S' : ms} {r : Option Value} (x1 x2 x3 x5 x6 : Int)
    (F : ∃ (S1 : ms), EV q 337 0 [some (.ref 367), some (vI 12)] [] S none S1 ∧ EV q 349 216 [some (.ref 367), some (vI x1), some (vI x2), some (vL x3), none, some (vI x5), some (vL x6), none] [] S1 r S') : EV q 349 210 [some (.ref 367), some (vI x1), some (vI x2), some (vL x3), none, some (vI x5), some (vL x6), none] [] S r S' := by
  unfold EV
  refine ev_bk 2 (S' := (213, [some (.ref 367), some (vI x1), some (vI x2), some (vL x3), none, some (vI x5), some (vL x6), none], [vI 12, .ref 367], hp S, 0, 0)) rfl ?_
  obtain ⟨S1, e2, F⟩ := F
  refine mv_calv (as := [vI 12]) (rest := []) e2 (sh_367) rfl rfl rfl ⟨rfl, rfl⟩ rfl rfl rfl rfl rfl ?_
  exact F
theorem vc_MD_openSymbols_216 {q : Nat × (Nat → Int32)} {S S' : ms} {r : Option Value} (x1 x2 x3 x5 x6 : Int)
    (F : ∃ (S1 : ms), EV q 350 0 [some (.ref 367), some (vL x6), none, some (vL x3), none, none, none] [] S none S1 ∧ EV q 349 223 [some (.ref 367), some (vI x1), some (vI x2), none, none, none, none, none] [] S1 r S') : EV q 349 216 [some (.ref 367), some (vI x1), some (vI x2), some (vL x3), none, some (vI x5), some (vL x6), none] [] S r S' := by
  unfold EV
  refine ev_bk 3 (S' := (220, [some (.ref 367), some (vI x1), some (vI x2), some (vL x3), none, some (vI x5), some (vL x6), none], [vL x3, vL x6, .ref 367], hp S, 0, 0)) rfl ?_
  obtain ⟨S1, e2, F⟩ := F
  refine mv_calv (as := [vL x6, vL x3]) (rest := []) e2 (sh_367) rfl rfl rfl ⟨rfl, rfl⟩ rfl rfl rfl rfl rfl ?_
  exact ev_wk (le_s (le_s (le_s (le_n (le_s (le_n (le_n (le_s le_0)))))))) F
theorem vc_MD_openSymbols_223 {q : Nat × (Nat → Int32)} {S S' : ms} {r : Option Value} (x1 x2 : Int)
    (F : EV q 349 2 [some (.ref 367), some (vI x1), none, none, none, none, none, none] [] S r S') : EV q 349 223 [some (.ref 367), some (vI x1), some (vI x2), none, none, none, none, none] [] S r S' := by
  unfold EV
  refine mv_goto 2 rfl rfl ?_
  exact ev_wk (le_s (le_s (le_n (le_s (le_s (le_s (le_s (le_s le_0)))))))) F
theorem vc_MD_copy {q : Nat × (Nat → Int32)} {S S' : ms} {r : Option Value} (x1 x3 : Int)
    (F : EV q 350 3 [some (.ref 367), some (vL x1), none, some (vL x3), none, some (vL 0), none] [] S r S') : EV q 350 0 [some (.ref 367), some (vL x1), none, some (vL x3), none, none, none] [] S r S' := by
  unfold EV
  refine ev_bk 2 (S' := (3, [some (.ref 367), some (vL x1), none, some (vL x3), none, some (vL 0), none], [], hp S, 0, 0)) rfl ?_
  exact F
theorem vc_MD_copy_3 {q : Nat × (Nat → Int32)} {S S' : ms} {r : Option Value} (x1 x3 x5 : Int)
    (F : ((w64 x3 ≤ w64 x5) → r = none ∧ S' = S) ∧ ((¬ w64 x3 ≤ w64 x5) → ((¬ w32 (S.1 367 19) = 0) → r = none ∧ S' = S) ∧ ((¬ (¬ w32 (S.1 367 19) = 0)) → (0 ≤ w32 ((S.1 367 22) - x1) ∧ w32 ((S.1 367 22) - x1) < (12000 : Nat)) ∧ ∃ (S2 : ms), EV q 336 0 [some (.ref 367), some (vI (S.1 375 (w32 ((S.1 367 22) - x1))))] [] S none S2 ∧ EV q 350 3 [some (.ref 367), some (vL x1), none, some (vL x3), none, some (vL (x5 + 1)), none] [] S2 r S'))) : EV q 350 3 [some (.ref 367), some (vL x1), none, some (vL x3), none, some (vL x5), none] [] S r S' := by
  unfold EV
  refine ev_bk 2 (S' := (6, [some (.ref 367), some (vL x1), none, some (vL x3), none, some (vL x5), none], [vL x3, vL x5], hp S, 0, 0)) rfl ?_
  refine mv_lif 42 rfl rfl rfl (fun c => ?_) (fun c => ?_)
  · have F := F.1 c
    obtain ⟨rfl, rfl⟩ := F
    exact ev_ret rfl rfl
  · have F := F.2 c
    refine ev_bk 1 (S' := (11, [some (.ref 367), some (vL x1), none, some (vL x3), none, some (vL x5), none], [.ref 367], hp S, 0, 0)) rfl ?_
    refine mv_gfI rfl rfl (sh_367) (by decide) rfl ?_
    refine mv_if 42 rfl rfl (fun c => ?_) (fun c => ?_)
    · have F := F.1 c
      obtain ⟨rfl, rfl⟩ := F
      exact ev_ret rfl rfl
    · have F := F.2 c
      refine ev_bk 2 (S' := (19, [some (.ref 367), some (vL x1), none, some (vL x3), none, some (vL x5), none], [.ref 367, .ref 367], hp S, 0, 0)) rfl ?_
      refine mv_gfR rfl rfl (sh_367) (by decide) rfl ?_
      refine ev_bk 1 (S' := (23, [some (.ref 367), some (vL x1), none, some (vL x3), none, some (vL x5), none], [.ref 367, .ref 375, .ref 367], hp S, 0, 0)) rfl ?_
      refine mv_gfI rfl rfl (sh_367) (by decide) rfl ?_
      refine ev_bk 1 (S' := (27, [some (.ref 367), some (vL x1), none, some (vL x3), none, some (vL x5), none], [vL x1, vI (S.1 367 22), .ref 375, .ref 367], hp S, 0, 0)) rfl ?_
      refine mv_l2i rfl ?_
      refine mv_isub rfl ?_
      obtain ⟨b1, F⟩ := F
      refine mv_bal rfl (sh_375) b1 ?_
      obtain ⟨S2, e3, F⟩ := F
      refine mv_calv (as := [vI (S.1 375 (w32 ((S.1 367 22) - x1)))]) (rest := []) e3 (sh_367) rfl rfl rfl ⟨rfl, rfl⟩ rfl rfl rfl rfl rfl ?_
      refine ev_bk 2 (S' := (36, [some (.ref 367), some (vL x1), none, some (vL x3), none, some (vL x5), none], [vL 1, vL x5], hp S2, 0, 0)) rfl ?_
      refine mv_ladd rfl ?_
      refine ev_bk 1 (S' := (39, [some (.ref 367), some (vL x1), none, some (vL x3), none, some (vL (x5 + 1)), none], [], hp S2, 0, 0)) rfl ?_
      refine mv_goto 3 rfl rfl ?_
      exact F
theorem vc_MD_openRim {q : Nat × (Nat → Int32)} {S S' : ms} {r : Option Value}
    (F : ∃ (z3 : Int) (S1 : ms), EV q 334 0 [some (.ref 367)] [] S (some (vI z3)) S1 ∧ ∃ (z6 : Int) (S4 : ms), EV q 333 0 [some (.ref 367)] [] S1 (some (vI z6)) S4 ∧ ((w32 z6 = 0) → EV q 351 36 [some (.ref 367), some (vI z3), none, none, none] [] S4 r S') ∧ ((¬ w32 z6 = 0) → ((¬ w32 (Int.tmod (w32 z3) (w32 16)) = 8) → EV q 351 30 [some (.ref 367), some (vI z3), none, none, none] [] S4 r S') ∧ ((¬ (¬ w32 (Int.tmod (w32 z3) (w32 16)) = 8)) → ((w32 (Int.tdiv (w32 z3) (w32 16)) ≤ 7) → EV q 351 36 [some (.ref 367), some (vI z3), none, none, none] [] S4 r S') ∧ ((¬ w32 (Int.tdiv (w32 z3) (w32 16)) ≤ 7) → EV q 351 30 [some (.ref 367), some (vI z3), none, none, none] [] S4 r S')))) : EV q 351 0 [some (.ref 367), none, none, none, none] [] S r S' := by
  unfold EV
  refine ev_bk 1 (S' := (1, [some (.ref 367), none, none, none, none], [.ref 367], hp S, 0, 0)) rfl ?_
  obtain ⟨z3, S1, e2, F⟩ := F
  refine mv_calv (as := []) (rest := []) e2 (sh_367) rfl rfl rfl ⟨rfl, rfl⟩ rfl rfl rfl rfl rfl ?_
  refine ev_bk 2 (S' := (6, [some (.ref 367), some (vI z3), none, none, none], [.ref 367], hp S1, 0, 0)) rfl ?_
  obtain ⟨z6, S4, e5, F⟩ := F
  refine mv_calv (as := []) (rest := []) e5 (sh_367) rfl rfl rfl ⟨rfl, rfl⟩ rfl rfl rfl rfl rfl ?_
  refine mv_if 36 rfl rfl (fun c => ?_) (fun c => ?_)
  · have F := F.1 c
    exact F
  · have F := F.2 c
    refine ev_bk 2 (S' := (15, [some (.ref 367), some (vI z3), none, none, none], [vI 16, vI z3], hp S4, 0, 0)) rfl ?_
    refine mv_irem (by decide) rfl ?_
    refine ev_bk 1 (S' := (18, [some (.ref 367), some (vI z3), none, none, none], [vI 8, vI (Int.tmod (w32 z3) (w32 16))], hp S4, 0, 0)) rfl ?_
    refine mv_icmp 30 rfl rfl (fun c => ?_) (fun c => ?_)
    · have F := F.1 c
      exact F
    · have F := F.2 c
      refine ev_bk 2 (S' := (24, [some (.ref 367), some (vI z3), none, none, none], [vI 16, vI z3], hp S4, 0, 0)) rfl ?_
      refine mv_idiv (by decide) rfl ?_
      refine ev_bk 1 (S' := (27, [some (.ref 367), some (vI z3), none, none, none], [vI 7, vI (Int.tdiv (w32 z3) (w32 16))], hp S4, 0, 0)) rfl ?_
      refine mv_icmp 36 rfl rfl (fun c => ?_) (fun c => ?_)
      · have F := F.1 c
        exact F
      · have F := F.2 c
        exact F
theorem vc_MD_openRim_30 {q : Nat × (Nat → Int32)} {S S' : ms} {r : Option Value} (x1 : Int)
    (F : ∃ (S1 : ms), EV q 337 0 [some (.ref 367), some (vI 20)] [] S none S1 ∧ EV q 351 36 [some (.ref 367), some (vI x1), none, none, none] [] S1 r S') : EV q 351 30 [some (.ref 367), some (vI x1), none, none, none] [] S r S' := by
  unfold EV
  refine ev_bk 2 (S' := (33, [some (.ref 367), some (vI x1), none, none, none], [vI 20, .ref 367], hp S, 0, 0)) rfl ?_
  obtain ⟨S1, e2, F⟩ := F
  refine mv_calv (as := [vI 20]) (rest := []) e2 (sh_367) rfl rfl rfl ⟨rfl, rfl⟩ rfl rfl rfl rfl rfl ?_
  exact F
theorem vc_MD_openRim_36 {q : Nat × (Nat → Int32)} {S S' : ms} {r : Option Value} (x1 : Int)
    (F : ∃ (z3 : Int) (S1 : ms), EV q 334 0 [some (.ref 367)] [] S (some (vI z3)) S1 ∧ ∃ (z6 : Int) (S4 : ms), EV q 333 0 [some (.ref 367)] [] S1 (some (vI z6)) S4 ∧ ((w32 z6 = 0) → EV q 351 67 [some (.ref 367), some (vI x1), some (vI z3), none, none] [] S4 r S') ∧ ((¬ w32 z6 = 0) → ((w32 (Int.tmod (w32 ((256 * x1) + z3)) (w32 31)) = 0) → EV q 351 67 [some (.ref 367), some (vI x1), some (vI z3), none, none] [] S4 r S') ∧ ((¬ w32 (Int.tmod (w32 ((256 * x1) + z3)) (w32 31)) = 0) → ∃ (S7 : ms), EV q 337 0 [some (.ref 367), some (vI 21)] [] S4 none S7 ∧ EV q 351 67 [some (.ref 367), some (vI x1), some (vI z3), none, none] [] S7 r S'))) : EV q 351 36 [some (.ref 367), some (vI x1), none, none, none] [] S r S' := by
  unfold EV
  refine ev_bk 1 (S' := (37, [some (.ref 367), some (vI x1), none, none, none], [.ref 367], hp S, 0, 0)) rfl ?_
  obtain ⟨z3, S1, e2, F⟩ := F
  refine mv_calv (as := []) (rest := []) e2 (sh_367) rfl rfl rfl ⟨rfl, rfl⟩ rfl rfl rfl rfl rfl ?_
  refine ev_bk 2 (S' := (42, [some (.ref 367), some (vI x1), some (vI z3), none, none], [.ref 367], hp S1, 0, 0)) rfl ?_
  obtain ⟨z6, S4, e5, F⟩ := F
  refine mv_calv (as := []) (rest := []) e5 (sh_367) rfl rfl rfl ⟨rfl, rfl⟩ rfl rfl rfl rfl rfl ?_
  refine mv_if 67 rfl rfl (fun c => ?_) (fun c => ?_)
  · have F := F.1 c
    exact F
  · have F := F.2 c
    refine ev_bk 2 (S' := (52, [some (.ref 367), some (vI x1), some (vI z3), none, none], [vI x1, vI 256], hp S4, 0, 0)) rfl ?_
    refine mv_imul rfl ?_
    refine ev_bk 1 (S' := (54, [some (.ref 367), some (vI x1), some (vI z3), none, none], [vI z3, vI (256 * x1)], hp S4, 0, 0)) rfl ?_
    refine mv_iadd rfl ?_
    refine ev_bk 1 (S' := (57, [some (.ref 367), some (vI x1), some (vI z3), none, none], [vI 31, vI ((256 * x1) + z3)], hp S4, 0, 0)) rfl ?_
    refine mv_irem (by decide) rfl ?_
    refine mv_if 67 rfl rfl (fun c => ?_) (fun c => ?_)
    · have F := F.1 c
      exact F
    · have F := F.2 c
      refine ev_bk 2 (S' := (64, [some (.ref 367), some (vI x1), some (vI z3), none, none], [vI 21, .ref 367], hp S4, 0, 0)) rfl ?_
      obtain ⟨S7, e8, F⟩ := F
      refine mv_calv (as := [vI 21]) (rest := []) e8 (sh_367) rfl rfl rfl ⟨rfl, rfl⟩ rfl rfl rfl rfl rfl ?_
      exact F
theorem vc_MD_openRim_67 {q : Nat × (Nat → Int32)} {S S' : ms} {r : Option Value} (x1 x2 : Int)
    (F : ∃ (z3 : Int) (S1 : ms), EV q 333 0 [some (.ref 367)] [] S (some (vI z3)) S1 ∧ ((w32 z3 = 0) → EV q 351 87 [some (.ref 367), some (vI x1), some (vI x2), none, none] [] S1 r S') ∧ ((¬ w32 z3 = 0) → ((w32 (bA x2 32) = 0) → EV q 351 87 [some (.ref 367), some (vI x1), some (vI x2), none, none] [] S1 r S') ∧ ((¬ w32 (bA x2 32) = 0) → ∃ (S4 : ms), EV q 337 0 [some (.ref 367), some (vI 22)] [] S1 none S4 ∧ EV q 351 87 [some (.ref 367), some (vI x1), some (vI x2), none, none] [] S4 r S'))) : EV q 351 67 [some (.ref 367), some (vI x1), some (vI x2), none, none] [] S r S' := by
  unfold EV
  refine ev_bk 1 (S' := (68, [some (.ref 367), some (vI x1), some (vI x2), none, none], [.ref 367], hp S, 0, 0)) rfl ?_
  obtain ⟨z3, S1, e2, F⟩ := F
  refine mv_calv (as := []) (rest := []) e2 (sh_367) rfl rfl rfl ⟨rfl, rfl⟩ rfl rfl rfl rfl rfl ?_
  refine mv_if 87 rfl rfl (fun c => ?_) (fun c => ?_)
  · have F := F.1 c
    exact F
  · have F := F.2 c
    refine ev_bk 2 (S' := (77, [some (.ref 367), some (vI x1), some (vI x2), none, none], [vI 32, vI x2], hp S1, 0, 0)) rfl ?_
    refine mv_iand rfl ?_
    refine mv_if 87 rfl rfl (fun c => ?_) (fun c => ?_)
    · have F := F.1 c
      exact F
    · have F := F.2 c
      refine ev_bk 2 (S' := (84, [some (.ref 367), some (vI x1), some (vI x2), none, none], [vI 22, .ref 367], hp S1, 0, 0)) rfl ?_
      obtain ⟨S4, e5, F⟩ := F
      refine mv_calv (as := [vI 22]) (rest := []) e5 (sh_367) rfl rfl rfl ⟨rfl, rfl⟩ rfl rfl rfl rfl rfl ?_
      exact F
theorem vc_MD_openRim_87 {q : Nat × (Nat → Int32)} {S S' : ms} {r : Option Value} (x1 x2 : Int)
    (F : ∃ (z3 : Int) (S1 : ms), EV q 333 0 [some (.ref 367)] [] S (some (vI z3)) S1 ∧ ((w32 z3 = 0) → EV q 351 107 [some (.ref 367), some (vI x1), some (vI x2), none, none] [] S1 r S') ∧ ((¬ w32 z3 = 0) → ∃ (S4 : ms), EV q 343 0 [some (.ref 367), some (vL (1 * ((2 : Int) ^ (((Int.tdiv (w32 x1) (w32 16)) + 8) % 64).toNat))), none, none, none] [] S1 none S4 ∧ EV q 351 107 [some (.ref 367), some (vI x1), some (vI x2), none, none] [] S4 r S')) : EV q 351 87 [some (.ref 367), some (vI x1), some (vI x2), none, none] [] S r S' := by
  unfold EV
  refine ev_bk 1 (S' := (88, [some (.ref 367), some (vI x1), some (vI x2), none, none], [.ref 367], hp S, 0, 0)) rfl ?_
  obtain ⟨z3, S1, e2, F⟩ := F
  refine mv_calv (as := []) (rest := []) e2 (sh_367) rfl rfl rfl ⟨rfl, rfl⟩ rfl rfl rfl rfl rfl ?_
  refine mv_if 107 rfl rfl (fun c => ?_) (fun c => ?_)
  · have F := F.1 c
    exact F
  · have F := F.2 c
    refine ev_bk 4 (S' := (99, [some (.ref 367), some (vI x1), some (vI x2), none, none], [vI 16, vI x1, vL 1, .ref 367], hp S1, 0, 0)) rfl ?_
    refine mv_idiv (by decide) rfl ?_
    refine ev_bk 1 (S' := (102, [some (.ref 367), some (vI x1), some (vI x2), none, none], [vI 8, vI (Int.tdiv (w32 x1) (w32 16)), vL 1, .ref 367], hp S1, 0, 0)) rfl ?_
    refine mv_iadd rfl ?_
    refine mv_lshl ((2 : Int) ^ (((Int.tdiv (w32 x1) (w32 16)) + 8) % 64).toNat) rfl rfl ?_
    obtain ⟨S4, e5, F⟩ := F
    refine mv_calv (as := [vL (1 * ((2 : Int) ^ (((Int.tdiv (w32 x1) (w32 16)) + 8) % 64).toNat))]) (rest := []) e5 (sh_367) rfl rfl rfl ⟨rfl, rfl⟩ rfl rfl rfl rfl rfl ?_
    exact F
theorem vc_MD_openRim_107 {q : Nat × (Nat → Int32)} {S S' : ms} {r : Option Value} (x1 x2 : Int)
    (F : ∃ (z3 : Int) (S1 : ms), EV q 352 0 [some (.ref 367), some (vI 4), none, none, none] [] S (some (vL z3)) S1 ∧ ∃ (z6 : Int) (S4 : ms), EV q 333 0 [some (.ref 367)] [] S1 (some (vI z6)) S4 ∧ ((w32 z6 = 0) → EV q 351 143 [some (.ref 367), some (vI x1), some (vI x2), some (vL z3), none] [] S4 r S') ∧ ((¬ w32 z6 = 0) → ∃ (z9 : Int) (S7 : ms), EV q 263 0 [some (.ref 375), some (vI 0), some (vI (S4.1 367 22)), none, none, none] [] S4 (some (vL z9)) S7 ∧ ((w64 z3 = w64 z9) → EV q 351 143 [some (.ref 367), some (vI x1), some (vI x2), some (vL z3), none] [] S7 r S') ∧ ((¬ w64 z3 = w64 z9) → ∃ (S10 : ms), EV q 337 0 [some (.ref 367), some (vI 23)] [] S7 none S10 ∧ EV q 351 143 [some (.ref 367), some (vI x1), some (vI x2), some (vL z3), none] [] S10 r S'))) : EV q 351 107 [some (.ref 367), some (vI x1), some (vI x2), none, none] [] S r S' := by
  unfold EV
  refine ev_bk 2 (S' := (109, [some (.ref 367), some (vI x1), some (vI x2), none, none], [vI 4, .ref 367], hp S, 0, 0)) rfl ?_
  obtain ⟨z3, S1, e2, F⟩ := F
  refine mv_calv (as := [vI 4]) (rest := []) e2 (sh_367) rfl rfl rfl ⟨rfl, rfl⟩ rfl rfl rfl rfl rfl ?_
  refine ev_bk 2 (S' := (114, [some (.ref 367), some (vI x1), some (vI x2), some (vL z3), none], [.ref 367], hp S1, 0, 0)) rfl ?_
  obtain ⟨z6, S4, e5, F⟩ := F
  refine mv_calv (as := []) (rest := []) e5 (sh_367) rfl rfl rfl ⟨rfl, rfl⟩ rfl rfl rfl rfl rfl ?_
  refine mv_if 143 rfl rfl (fun c => ?_) (fun c => ?_)
  · have F := F.1 c
    exact F
  · have F := F.2 c
    refine ev_bk 2 (S' := (122, [some (.ref 367), some (vI x1), some (vI x2), some (vL z3), none], [.ref 367, vL z3], hp S4, 0, 0)) rfl ?_
    refine mv_gfR rfl rfl (sh_367) (by decide) rfl ?_
    refine ev_bk 2 (S' := (127, [some (.ref 367), some (vI x1), some (vI x2), some (vL z3), none], [.ref 367, vI 0, .ref 375, vL z3], hp S4, 0, 0)) rfl ?_
    refine mv_gfI rfl rfl (sh_367) (by decide) rfl ?_
    obtain ⟨z9, S7, e8, F⟩ := F
    refine mv_cals (as := [.ref 375, vI 0, vI (S4.1 367 22)]) (rest := [vL z3]) e8 rfl rfl rfl ⟨rfl, rfl, rfl⟩ rfl rfl rfl rfl ?_
    refine mv_lif 143 rfl rfl rfl (fun c => ?_) (fun c => ?_)
    · have F := F.1 c
      exact F
    · have F := F.2 c
      refine ev_bk 2 (S' := (140, [some (.ref 367), some (vI x1), some (vI x2), some (vL z3), none], [vI 23, .ref 367], hp S7, 0, 0)) rfl ?_
      obtain ⟨S10, e11, F⟩ := F
      refine mv_calv (as := [vI 23]) (rest := []) e11 (sh_367) rfl rfl rfl ⟨rfl, rfl⟩ rfl rfl rfl rfl rfl ?_
      exact F
theorem vc_MD_openRim_143 {q : Nat × (Nat → Int32)} {S S' : ms} {r : Option Value} (x1 x2 x3 : Int)
    (F : ∃ (S1 : ms), EV q 341 0 [some (.ref 367)] [] S none S1 ∧ r = none ∧ S' = S1) : EV q 351 143 [some (.ref 367), some (vI x1), some (vI x2), some (vL x3), none] [] S r S' := by
  unfold EV
  refine ev_bk 1 (S' := (144, [some (.ref 367), some (vI x1), some (vI x2), some (vL x3), none], [.ref 367], hp S, 0, 0)) rfl ?_
  obtain ⟨S1, e2, F⟩ := F
  refine mv_calv (as := []) (rest := []) e2 (sh_367) rfl rfl rfl ⟨rfl, rfl⟩ rfl rfl rfl rfl rfl ?_
  obtain ⟨rfl, rfl⟩ := F
  exact ev_ret rfl rfl
theorem vc_MD_highNumber {q : Nat × (Nat → Int32)} {S S' : ms} {r : Option Value} (x1 : Int)
    (F : EV q 352 5 [some (.ref 367), some (vI x1), some (vL 0), none, some (vI 0)] [] S r S') : EV q 352 0 [some (.ref 367), some (vI x1), none, none, none] [] S r S' := by
  unfold EV
  refine ev_bk 4 (S' := (5, [some (.ref 367), some (vI x1), some (vL 0), none, some (vI 0)], [], hp S, 0, 0)) rfl ?_
  exact F
theorem vc_MD_highNumber_5 {q : Nat × (Nat → Int32)} {S S' : ms} {r : Option Value} (x1 x2 x4 : Int)
    (F : ((w32 x1 ≤ w32 x4) → r = some (vL x2) ∧ S' = S) ∧ ((¬ w32 x1 ≤ w32 x4) → ∃ (z3 : Int) (S1 : ms), EV q 334 0 [some (.ref 367)] [] S (some (vI z3)) S1 ∧ EV q 352 5 [some (.ref 367), some (vI x1), some (vL (lO (x2 * 256) (w32 z3))), none, some (vI (x4 + 1))] [] S1 r S')) : EV q 352 5 [some (.ref 367), some (vI x1), some (vL x2), none, some (vI x4)] [] S r S' := by
  unfold EV
  refine ev_bk 2 (S' := (8, [some (.ref 367), some (vI x1), some (vL x2), none, some (vI x4)], [vI x1, vI x4], hp S, 0, 0)) rfl ?_
  refine mv_icmp 28 rfl rfl (fun c => ?_) (fun c => ?_)
  · have F := F.1 c
    refine ev_bk 1 (S' := (29, [some (.ref 367), some (vI x1), some (vL x2), none, some (vI x4)], [vL x2], hp S, 0, 0)) rfl ?_
    obtain ⟨rfl, rfl⟩ := F
    exact ev_ret rfl rfl
  · have F := F.2 c
    refine ev_bk 2 (S' := (14, [some (.ref 367), some (vI x1), some (vL x2), none, some (vI x4)], [vI 8, vL x2], hp S, 0, 0)) rfl ?_
    refine mv_lshl 256 rfl rfl ?_
    refine ev_bk 1 (S' := (16, [some (.ref 367), some (vI x1), some (vL x2), none, some (vI x4)], [.ref 367, vL (x2 * 256)], hp S, 0, 0)) rfl ?_
    obtain ⟨z3, S1, e2, F⟩ := F
    refine mv_calv (as := []) (rest := [vL (x2 * 256)]) e2 (sh_367) rfl rfl rfl ⟨rfl, rfl⟩ rfl rfl rfl rfl rfl ?_
    refine mv_i2l rfl ?_
    refine mv_lor rfl ?_
    refine ev_bk 1 (S' := (22, [some (.ref 367), some (vI x1), some (vL (lO (x2 * 256) (w32 z3))), none, some (vI x4)], [], hp S1, 0, 0)) rfl ?_
    refine mv_inc (lv' := [some (.ref 367), some (vI x1), some (vL (lO (x2 * 256) (w32 z3))), none, some (vI (x4 + 1))]) 4 1 rfl rfl rfl rfl ?_
    refine mv_goto 5 rfl rfl ?_
    exact F
theorem vc_MD_openMember {q : Nat × (Nat → Int32)} {S S' : ms} {r : Option Value}
    (F : ∃ (S1 : ms), EV q 354 0 [some (.ref 367), some (vI 31), some (vI 30), none] [] S none S1 ∧ ∃ (S3 : ms), EV q 354 0 [some (.ref 367), some (vI 139), some (vI 30), none] [] S1 none S3 ∧ ∃ (S5 : ms), EV q 354 0 [some (.ref 367), some (vI 8), some (vI 31), none] [] S3 none S5 ∧ ∃ (z9 : Int) (S7 : ms), EV q 334 0 [some (.ref 367)] [] S5 (some (vI z9)) S7 ∧ ∃ (z12 : Int) (S10 : ms), EV q 333 0 [some (.ref 367)] [] S7 (some (vI z12)) S10 ∧ ((w32 z12 = 0) → EV q 353 49 [some (.ref 367), some (vI z9), none, none, none, none, none] [] S10 r S') ∧ ((¬ w32 z12 = 0) → ((w32 z9 < 32) → EV q 353 49 [some (.ref 367), some (vI z9), none, none, none, none, none] [] S10 r S') ∧ ((¬ w32 z9 < 32) → ∃ (S13 : ms), EV q 337 0 [some (.ref 367), some (vI 32)] [] S10 none S13 ∧ EV q 353 49 [some (.ref 367), some (vI z9), none, none, none, none, none] [] S13 r S'))) : EV q 353 0 [some (.ref 367), none, none, none, none, none, none] [] S r S' := by
  unfold EV
  refine ev_bk 3 (S' := (5, [some (.ref 367), none, none, none, none, none, none], [vI 30, vI 31, .ref 367], hp S, 0, 0)) rfl ?_
  obtain ⟨S1, e2, F⟩ := F
  refine mv_calv (as := [vI 31, vI 30]) (rest := []) e2 (sh_367) rfl rfl rfl ⟨rfl, rfl⟩ rfl rfl rfl rfl rfl ?_
  refine ev_bk 3 (S' := (14, [some (.ref 367), none, none, none, none, none, none], [vI 30, vI 139, .ref 367], hp S1, 0, 0)) rfl ?_
  obtain ⟨S3, e4, F⟩ := F
  refine mv_calv (as := [vI 139, vI 30]) (rest := []) e4 (sh_367) rfl rfl rfl ⟨rfl, rfl⟩ rfl rfl rfl rfl rfl ?_
  refine ev_bk 3 (S' := (22, [some (.ref 367), none, none, none, none, none, none], [vI 31, vI 8, .ref 367], hp S3, 0, 0)) rfl ?_
  obtain ⟨S5, e6, F⟩ := F
  refine mv_calv (as := [vI 8, vI 31]) (rest := []) e6 (sh_367) rfl rfl rfl ⟨rfl, rfl⟩ rfl rfl rfl rfl rfl ?_
  refine ev_bk 1 (S' := (26, [some (.ref 367), none, none, none, none, none, none], [.ref 367], hp S5, 0, 0)) rfl ?_
  obtain ⟨z9, S7, e8, F⟩ := F
  refine mv_calv (as := []) (rest := []) e8 (sh_367) rfl rfl rfl ⟨rfl, rfl⟩ rfl rfl rfl rfl rfl ?_
  refine ev_bk 2 (S' := (31, [some (.ref 367), some (vI z9), none, none, none, none, none], [.ref 367], hp S7, 0, 0)) rfl ?_
  obtain ⟨z12, S10, e11, F⟩ := F
  refine mv_calv (as := []) (rest := []) e11 (sh_367) rfl rfl rfl ⟨rfl, rfl⟩ rfl rfl rfl rfl rfl ?_
  refine mv_if 49 rfl rfl (fun c => ?_) (fun c => ?_)
  · have F := F.1 c
    exact F
  · have F := F.2 c
    refine ev_bk 2 (S' := (40, [some (.ref 367), some (vI z9), none, none, none, none, none], [vI 32, vI z9], hp S10, 0, 0)) rfl ?_
    refine mv_icmp 49 rfl rfl (fun c => ?_) (fun c => ?_)
    · have F := F.1 c
      exact F
    · have F := F.2 c
      refine ev_bk 2 (S' := (46, [some (.ref 367), some (vI z9), none, none, none, none, none], [vI 32, .ref 367], hp S10, 0, 0)) rfl ?_
      obtain ⟨S13, e14, F⟩ := F
      refine mv_calv (as := [vI 32]) (rest := []) e14 (sh_367) rfl rfl rfl ⟨rfl, rfl⟩ rfl rfl rfl rfl rfl ?_
      exact F
theorem vc_MD_openMember_49 {q : Nat × (Nat → Int32)} {S S' : ms} {r : Option Value} (x1 : Int)
    (F : EV q 353 51 [some (.ref 367), some (vI x1), some (vI 0), none, none, none, none] [] S r S') : EV q 353 49 [some (.ref 367), some (vI x1), none, none, none, none, none] [] S r S' := by
  unfold EV
  refine ev_bk 2 (S' := (51, [some (.ref 367), some (vI x1), some (vI 0), none, none, none, none], [], hp S, 0, 0)) rfl ?_
  exact F
theorem vc_MD_openMember_51 {q : Nat × (Nat → Int32)} {S S' : ms} {r : Option Value} (x1 x2 : Int)
    (F : ((6 ≤ w32 x2) → ((w32 (bA x1 4) = 0) → EV q 353 112 [some (.ref 367), some (vI x1), none, none, none, none, none] [] S r S') ∧ ((¬ w32 (bA x1 4) = 0) → ∃ (z3 : Int) (S1 : ms), EV q 345 0 [some (.ref 367), some (vI 2), none, none, none] [] S (some (vL z3)) S1 ∧ EV q 353 83 [some (.ref 367), some (vI x1), some (vL z3), none, some (vL 0), none, none] [] S1 r S')) ∧ ((¬ 6 ≤ w32 x2) → ∃ (z6 : Int) (S4 : ms), EV q 334 0 [some (.ref 367)] [] S (some (vI z6)) S4 ∧ EV q 353 51 [some (.ref 367), some (vI x1), some (vI (x2 + 1)), none, none, none, none] [] S4 r S')) : EV q 353 51 [some (.ref 367), some (vI x1), some (vI x2), none, none, none, none] [] S r S' := by
  unfold EV
  refine ev_bk 2 (S' := (54, [some (.ref 367), some (vI x1), some (vI x2), none, none, none, none], [vI 6, vI x2], hp S, 0, 0)) rfl ?_
  refine mv_icmp 68 rfl rfl (fun c => ?_) (fun c => ?_)
  · have F := F.1 c
    refine ev_bk 2 (S' := (70, [some (.ref 367), some (vI x1), some (vI x2), none, none, none, none], [vI 4, vI x1], hp S, 0, 0)) rfl ?_
    refine mv_iand rfl ?_
    refine mv_if 112 rfl rfl (fun c => ?_) (fun c => ?_)
    · have F := F.1 c
      exact ev_wk (le_s (le_s (le_n (le_s (le_s (le_s (le_s le_0))))))) F
    · have F := F.2 c
      refine ev_bk 2 (S' := (76, [some (.ref 367), some (vI x1), some (vI x2), none, none, none, none], [vI 2, .ref 367], hp S, 0, 0)) rfl ?_
      obtain ⟨z3, S1, e2, F⟩ := F
      refine mv_calv (as := [vI 2]) (rest := []) e2 (sh_367) rfl rfl rfl ⟨rfl, rfl⟩ rfl rfl rfl rfl rfl ?_
      refine ev_bk 3 (S' := (83, [some (.ref 367), some (vI x1), some (vL z3), none, some (vL 0), none, none], [], hp S1, 0, 0)) rfl ?_
      exact F
  · have F := F.2 c
    refine ev_bk 1 (S' := (58, [some (.ref 367), some (vI x1), some (vI x2), none, none, none, none], [.ref 367], hp S, 0, 0)) rfl ?_
    obtain ⟨z6, S4, e5, F⟩ := F
    refine mv_calv (as := []) (rest := []) e5 (sh_367) rfl rfl rfl ⟨rfl, rfl⟩ rfl rfl rfl rfl rfl ?_
    refine ev_bk 1 (S' := (62, [some (.ref 367), some (vI x1), some (vI x2), some (vI z6), none, none, none], [], hp S4, 0, 0)) rfl ?_
    refine mv_inc (lv' := [some (.ref 367), some (vI x1), some (vI (x2 + 1)), some (vI z6), none, none, none]) 2 1 rfl rfl rfl rfl ?_
    refine mv_goto 51 rfl rfl ?_
    exact ev_wk (le_s (le_s (le_s (le_n (le_s (le_s (le_s le_0))))))) F
theorem vc_MD_openMember_83 {q : Nat × (Nat → Int32)} {S S' : ms} {r : Option Value} (x1 x2 x4 : Int)
    (F : ((w64 x2 ≤ w64 x4) → EV q 353 112 [some (.ref 367), some (vI x1), none, none, none, none, none] [] S r S') ∧ ((¬ w64 x2 ≤ w64 x4) → ∃ (z3 : Int) (S1 : ms), EV q 333 0 [some (.ref 367)] [] S (some (vI z3)) S1 ∧ ((w32 z3 = 0) → EV q 353 112 [some (.ref 367), some (vI x1), none, none, none, none, none] [] S1 r S') ∧ ((¬ w32 z3 = 0) → ∃ (z6 : Int) (S4 : ms), EV q 334 0 [some (.ref 367)] [] S1 (some (vI z6)) S4 ∧ EV q 353 83 [some (.ref 367), some (vI x1), some (vL x2), none, some (vL (x4 + 1)), none, none] [] S4 r S'))) : EV q 353 83 [some (.ref 367), some (vI x1), some (vL x2), none, some (vL x4), none, none] [] S r S' := by
  unfold EV
  refine ev_bk 2 (S' := (86, [some (.ref 367), some (vI x1), some (vL x2), none, some (vL x4), none, none], [vL x2, vL x4], hp S, 0, 0)) rfl ?_
  refine mv_lif 112 rfl rfl rfl (fun c => ?_) (fun c => ?_)
  · have F := F.1 c
    exact ev_wk (le_s (le_s (le_n (le_s (le_n (le_s (le_s le_0))))))) F
  · have F := F.2 c
    refine ev_bk 1 (S' := (91, [some (.ref 367), some (vI x1), some (vL x2), none, some (vL x4), none, none], [.ref 367], hp S, 0, 0)) rfl ?_
    obtain ⟨z3, S1, e2, F⟩ := F
    refine mv_calv (as := []) (rest := []) e2 (sh_367) rfl rfl rfl ⟨rfl, rfl⟩ rfl rfl rfl rfl rfl ?_
    refine mv_if 112 rfl rfl (fun c => ?_) (fun c => ?_)
    · have F := F.1 c
      exact ev_wk (le_s (le_s (le_n (le_s (le_n (le_s (le_s le_0))))))) F
    · have F := F.2 c
      refine ev_bk 1 (S' := (98, [some (.ref 367), some (vI x1), some (vL x2), none, some (vL x4), none, none], [.ref 367], hp S1, 0, 0)) rfl ?_
      obtain ⟨z6, S4, e5, F⟩ := F
      refine mv_calv (as := []) (rest := []) e5 (sh_367) rfl rfl rfl ⟨rfl, rfl⟩ rfl rfl rfl rfl rfl ?_
      refine ev_bk 3 (S' := (106, [some (.ref 367), some (vI x1), some (vL x2), none, some (vL x4), none, some (vI z6)], [vL 1, vL x4], hp S4, 0, 0)) rfl ?_
      refine mv_ladd rfl ?_
      refine ev_bk 1 (S' := (109, [some (.ref 367), some (vI x1), some (vL x2), none, some (vL (x4 + 1)), none, some (vI z6)], [], hp S4, 0, 0)) rfl ?_
      refine mv_goto 83 rfl rfl ?_
      exact ev_wk (le_s (le_s (le_s (le_s (le_s (le_s (le_n le_0))))))) F
theorem vc_MD_openMember_112 {q : Nat × (Nat → Int32)} {S S' : ms} {r : Option Value} (x1 : Int)
    (F : ((w32 (bA x1 8) = 0) → EV q 353 123 [some (.ref 367), some (vI x1), none, none, none, none, none] [] S r S') ∧ ((¬ w32 (bA x1 8) = 0) → ∃ (S1 : ms), EV q 355 0 [some (.ref 367), none] [] S none S1 ∧ EV q 353 123 [some (.ref 367), some (vI x1), none, none, none, none, none] [] S1 r S')) : EV q 353 112 [some (.ref 367), some (vI x1), none, none, none, none, none] [] S r S' := by
  unfold EV
  refine ev_bk 2 (S' := (115, [some (.ref 367), some (vI x1), none, none, none, none, none], [vI 8, vI x1], hp S, 0, 0)) rfl ?_
  refine mv_iand rfl ?_
  refine mv_if 123 rfl rfl (fun c => ?_) (fun c => ?_)
  · have F := F.1 c
    exact F
  · have F := F.2 c
    refine ev_bk 1 (S' := (120, [some (.ref 367), some (vI x1), none, none, none, none, none], [.ref 367], hp S, 0, 0)) rfl ?_
    obtain ⟨S1, e2, F⟩ := F
    refine mv_calv (as := []) (rest := []) e2 (sh_367) rfl rfl rfl ⟨rfl, rfl⟩ rfl rfl rfl rfl rfl ?_
    exact F
theorem vc_MD_openMember_123 {q : Nat × (Nat → Int32)} {S S' : ms} {r : Option Value} (x1 : Int)
    (F : ((w32 (bA x1 16) = 0) → EV q 353 134 [some (.ref 367), some (vI x1), none, none, none, none, none] [] S r S') ∧ ((¬ w32 (bA x1 16) = 0) → ∃ (S1 : ms), EV q 355 0 [some (.ref 367), none] [] S none S1 ∧ EV q 353 134 [some (.ref 367), some (vI x1), none, none, none, none, none] [] S1 r S')) : EV q 353 123 [some (.ref 367), some (vI x1), none, none, none, none, none] [] S r S' := by
  unfold EV
  refine ev_bk 2 (S' := (126, [some (.ref 367), some (vI x1), none, none, none, none, none], [vI 16, vI x1], hp S, 0, 0)) rfl ?_
  refine mv_iand rfl ?_
  refine mv_if 134 rfl rfl (fun c => ?_) (fun c => ?_)
  · have F := F.1 c
    exact F
  · have F := F.2 c
    refine ev_bk 1 (S' := (131, [some (.ref 367), some (vI x1), none, none, none, none, none], [.ref 367], hp S, 0, 0)) rfl ?_
    obtain ⟨S1, e2, F⟩ := F
    refine mv_calv (as := []) (rest := []) e2 (sh_367) rfl rfl rfl ⟨rfl, rfl⟩ rfl rfl rfl rfl rfl ?_
    exact F
theorem vc_MD_openMember_134 {q : Nat × (Nat → Int32)} {S S' : ms} {r : Option Value} (x1 : Int)
    (F : ((w32 (bA x1 2) = 0) → EV q 353 184 [some (.ref 367), some (vI x1), none, none, none, none, none] [] S r S') ∧ ((¬ w32 (bA x1 2) = 0) → ∃ (z3 : Int) (S1 : ms), EV q 345 0 [some (.ref 367), some (vI 2), none, none, none] [] S (some (vL z3)) S1 ∧ ∃ (z6 : Int) (S4 : ms), EV q 333 0 [some (.ref 367)] [] S1 (some (vI z6)) S4 ∧ ((w32 z6 = 0) → EV q 353 184 [some (.ref 367), some (vI x1), none, none, none, none, none] [] S4 r S') ∧ ((¬ w32 z6 = 0) → ∃ (z9 : Int) (S7 : ms), EV q 264 0 [some (.ref 367), some (.ref 368), some (vI 0), some (vI (S.1 367 16)), none, none] [] S4 (some (vI z9)) S7 ∧ ((w64 z3 = w64 (w32 (z9 % 65536))) → EV q 353 184 [some (.ref 367), some (vI x1), none, none, none, none, none] [] S7 r S') ∧ ((¬ w64 z3 = w64 (w32 (z9 % 65536))) → ∃ (S10 : ms), EV q 337 0 [some (.ref 367), some (vI 33)] [] S7 none S10 ∧ EV q 353 184 [some (.ref 367), some (vI x1), none, none, none, none, none] [] S10 r S')))) : EV q 353 134 [some (.ref 367), some (vI x1), none, none, none, none, none] [] S r S' := by
  unfold EV
  refine ev_bk 2 (S' := (136, [some (.ref 367), some (vI x1), none, none, none, none, none], [vI 2, vI x1], hp S, 0, 0)) rfl ?_
  refine mv_iand rfl ?_
  refine mv_if 184 rfl rfl (fun c => ?_) (fun c => ?_)
  · have F := F.1 c
    exact F
  · have F := F.2 c
    refine ev_bk 1 (S' := (141, [some (.ref 367), some (vI x1), none, none, none, none, none], [.ref 367], hp S, 0, 0)) rfl ?_
    refine mv_gfI rfl rfl (sh_367) (by decide) rfl ?_
    refine ev_bk 3 (S' := (147, [some (.ref 367), some (vI x1), some (vI (S.1 367 16)), none, none, none, none], [vI 2, .ref 367], hp S, 0, 0)) rfl ?_
    obtain ⟨z3, S1, e2, F⟩ := F
    refine mv_calv (as := [vI 2]) (rest := []) e2 (sh_367) rfl rfl rfl ⟨rfl, rfl⟩ rfl rfl rfl rfl rfl ?_
    refine ev_bk 2 (S' := (152, [some (.ref 367), some (vI x1), some (vI (S.1 367 16)), some (vL z3), none, none, none], [.ref 367], hp S1, 0, 0)) rfl ?_
    obtain ⟨z6, S4, e5, F⟩ := F
    refine mv_calv (as := []) (rest := []) e5 (sh_367) rfl rfl rfl ⟨rfl, rfl⟩ rfl rfl rfl rfl rfl ?_
    refine mv_if 184 rfl rfl (fun c => ?_) (fun c => ?_)
    · have F := F.1 c
      exact ev_wk (le_s (le_s (le_n (le_n (le_s (le_s (le_s le_0))))))) F
    · have F := F.2 c
      refine ev_bk 3 (S' := (161, [some (.ref 367), some (vI x1), some (vI (S.1 367 16)), some (vL z3), none, none, none], [.ref 367, .ref 367, vL z3], hp S4, 0, 0)) rfl ?_
      refine mv_gfR rfl rfl (sh_367) (by decide) rfl ?_
      refine ev_bk 2 (S' := (166, [some (.ref 367), some (vI x1), some (vI (S.1 367 16)), some (vL z3), none, none, none], [vI (S.1 367 16), vI 0, .ref 368, .ref 367, vL z3], hp S4, 0, 0)) rfl ?_
      obtain ⟨z9, S7, e8, F⟩ := F
      refine mv_calv (as := [.ref 368, vI 0, vI (S.1 367 16)]) (rest := [vL z3]) e8 (sh_367) rfl rfl rfl ⟨rfl, rfl⟩ rfl rfl rfl rfl rfl ?_
      refine ev_bk 1 (S' := (172, [some (.ref 367), some (vI x1), some (vI (S.1 367 16)), some (vL z3), none, none, none], [vI 65535, vI z9, vL z3], hp S7, 0, 0)) rfl ?_
      refine mv_iandm 65536 16 (by decide) rfl rfl rfl ?_
      refine mv_i2l rfl ?_
      refine mv_lif 184 rfl rfl rfl (fun c => ?_) (fun c => ?_)
      · have F := F.1 c
        exact ev_wk (le_s (le_s (le_n (le_n (le_s (le_s (le_s le_0))))))) F
      · have F := F.2 c
        refine ev_bk 2 (S' := (181, [some (.ref 367), some (vI x1), some (vI (S.1 367 16)), some (vL z3), none, none, none], [vI 33, .ref 367], hp S7, 0, 0)) rfl ?_
        obtain ⟨S10, e11, F⟩ := F
        refine mv_calv (as := [vI 33]) (rest := []) e11 (sh_367) rfl rfl rfl ⟨rfl, rfl⟩ rfl rfl rfl rfl rfl ?_
        exact ev_wk (le_s (le_s (le_n (le_n (le_s (le_s (le_s le_0))))))) F
theorem vc_MD_openMember_184 {q : Nat × (Nat → Int32)} {S S' : ms} {r : Option Value} (x1 : Int)
    (F : ∃ (z3 : Int) (S1 : ms), EV q 333 0 [some (.ref 367)] [] S (some (vI z3)) S1 ∧ ((w32 z3 = 0) → EV q 353 198 [some (.ref 367), some (vI x1), none, none, none, none, none] [] S1 r S') ∧ ((¬ w32 z3 = 0) → ∃ (S4 : ms), EV q 343 0 [some (.ref 367), some (vL 32768), none, none, none] [] S1 none S4 ∧ EV q 353 198 [some (.ref 367), some (vI x1), none, none, none, none, none] [] S4 r S')) : EV q 353 184 [some (.ref 367), some (vI x1), none, none, none, none, none] [] S r S' := by
  unfold EV
  refine ev_bk 1 (S' := (185, [some (.ref 367), some (vI x1), none, none, none, none, none], [.ref 367], hp S, 0, 0)) rfl ?_
  obtain ⟨z3, S1, e2, F⟩ := F
  refine mv_calv (as := []) (rest := []) e2 (sh_367) rfl rfl rfl ⟨rfl, rfl⟩ rfl rfl rfl rfl rfl ?_
  refine mv_if 198 rfl rfl (fun c => ?_) (fun c => ?_)
  · have F := F.1 c
    exact F
  · have F := F.2 c
    refine ev_bk 2 (S' := (195, [some (.ref 367), some (vI x1), none, none, none, none, none], [vL 32768, .ref 367], hp S1, 0, 0)) rfl ?_
    obtain ⟨S4, e5, F⟩ := F
    refine mv_calv (as := [vL 32768]) (rest := []) e5 (sh_367) rfl rfl rfl ⟨rfl, rfl⟩ rfl rfl rfl rfl rfl ?_
    exact F
theorem vc_MD_openMember_198 {q : Nat × (Nat → Int32)} {S S' : ms} {r : Option Value} (x1 : Int)
    (F : ∃ (z3 : Int) (S1 : ms), EV q 345 0 [some (.ref 367), some (vI 4), none, none, none] [] S (some (vL z3)) S1 ∧ ∃ (z6 : Int) (S4 : ms), EV q 333 0 [some (.ref 367)] [] S1 (some (vI z6)) S4 ∧ ((w32 z6 = 0) → EV q 353 240 [some (.ref 367), some (vI x1), some (vL z3), none, none, none, none] [] S4 r S') ∧ ((¬ w32 z6 = 0) → ∃ (z9 : Int) (S7 : ms), EV q 264 0 [some (.ref 367), some (.ref 375), some (vI 0), some (vI (S4.1 367 22)), none, none] [] S4 (some (vI z9)) S7 ∧ ((w64 z3 = w64 ((w32 z9) % 4294967296)) → EV q 353 240 [some (.ref 367), some (vI x1), some (vL z3), none, none, none, none] [] S7 r S') ∧ ((¬ w64 z3 = w64 ((w32 z9) % 4294967296)) → ∃ (S10 : ms), EV q 337 0 [some (.ref 367), some (vI 34)] [] S7 none S10 ∧ EV q 353 240 [some (.ref 367), some (vI x1), some (vL z3), none, none, none, none] [] S10 r S'))) : EV q 353 198 [some (.ref 367), some (vI x1), none, none, none, none, none] [] S r S' := by
  unfold EV
  refine ev_bk 2 (S' := (200, [some (.ref 367), some (vI x1), none, none, none, none, none], [vI 4, .ref 367], hp S, 0, 0)) rfl ?_
  obtain ⟨z3, S1, e2, F⟩ := F
  refine mv_calv (as := [vI 4]) (rest := []) e2 (sh_367) rfl rfl rfl ⟨rfl, rfl⟩ rfl rfl rfl rfl rfl ?_
  refine ev_bk 2 (S' := (205, [some (.ref 367), some (vI x1), some (vL z3), none, none, none, none], [.ref 367], hp S1, 0, 0)) rfl ?_
  obtain ⟨z6, S4, e5, F⟩ := F
  refine mv_calv (as := []) (rest := []) e5 (sh_367) rfl rfl rfl ⟨rfl, rfl⟩ rfl rfl rfl rfl rfl ?_
  refine mv_if 240 rfl rfl (fun c => ?_) (fun c => ?_)
  · have F := F.1 c
    exact F
  · have F := F.2 c
    refine ev_bk 3 (S' := (214, [some (.ref 367), some (vI x1), some (vL z3), none, none, none, none], [.ref 367, .ref 367, vL z3], hp S4, 0, 0)) rfl ?_
    refine mv_gfR rfl rfl (sh_367) (by decide) rfl ?_
    refine ev_bk 2 (S' := (219, [some (.ref 367), some (vI x1), some (vL z3), none, none, none, none], [.ref 367, vI 0, .ref 375, .ref 367, vL z3], hp S4, 0, 0)) rfl ?_
    refine mv_gfI rfl rfl (sh_367) (by decide) rfl ?_
    obtain ⟨z9, S7, e8, F⟩ := F
    refine mv_calv (as := [.ref 375, vI 0, vI (S4.1 367 22)]) (rest := [vL z3]) e8 (sh_367) rfl rfl rfl ⟨rfl, rfl⟩ rfl rfl rfl rfl rfl ?_
    refine mv_i2l rfl ?_
    refine ev_bk 1 (S' := (229, [some (.ref 367), some (vI x1), some (vL z3), none, none, none, none], [vL 4294967295, vL (w32 z9), vL z3], hp S7, 0, 0)) rfl ?_
    refine mv_landm 4294967296 32 (by decide) rfl rfl rfl ?_
    refine mv_lif 240 rfl rfl rfl (fun c => ?_) (fun c => ?_)
    · have F := F.1 c
      exact F
    · have F := F.2 c
      refine ev_bk 2 (S' := (237, [some (.ref 367), some (vI x1), some (vL z3), none, none, none, none], [vI 34, .ref 367], hp S7, 0, 0)) rfl ?_
      obtain ⟨S10, e11, F⟩ := F
      refine mv_calv (as := [vI 34]) (rest := []) e11 (sh_367) rfl rfl rfl ⟨rfl, rfl⟩ rfl rfl rfl rfl rfl ?_
      exact F
theorem vc_MD_openMember_240 {q : Nat × (Nat → Int32)} {S S' : ms} {r : Option Value} (x1 x2 : Int)
    (F : ∃ (z3 : Int) (S1 : ms), EV q 345 0 [some (.ref 367), some (vI 4), none, none, none] [] S (some (vL z3)) S1 ∧ ∃ (z6 : Int) (S4 : ms), EV q 333 0 [some (.ref 367)] [] S1 (some (vI z6)) S4 ∧ ((w32 z6 = 0) → EV q 353 269 [some (.ref 367), some (vI x1), some (vL z3), none, none, none, none] [] S4 r S') ∧ ((¬ w32 z6 = 0) → ((w64 z3 = w64 (w32 (S4.1 367 22))) → EV q 353 269 [some (.ref 367), some (vI x1), some (vL z3), none, none, none, none] [] S4 r S') ∧ ((¬ w64 z3 = w64 (w32 (S4.1 367 22))) → ∃ (S7 : ms), EV q 337 0 [some (.ref 367), some (vI 35)] [] S4 none S7 ∧ EV q 353 269 [some (.ref 367), some (vI x1), some (vL z3), none, none, none, none] [] S7 r S'))) : EV q 353 240 [some (.ref 367), some (vI x1), some (vL x2), none, none, none, none] [] S r S' := by
  unfold EV
  refine ev_bk 2 (S' := (242, [some (.ref 367), some (vI x1), some (vL x2), none, none, none, none], [vI 4, .ref 367], hp S, 0, 0)) rfl ?_
  obtain ⟨z3, S1, e2, F⟩ := F
  refine mv_calv (as := [vI 4]) (rest := []) e2 (sh_367) rfl rfl rfl ⟨rfl, rfl⟩ rfl rfl rfl rfl rfl ?_
  refine ev_bk 2 (S' := (247, [some (.ref 367), some (vI x1), some (vL z3), none, none, none, none], [.ref 367], hp S1, 0, 0)) rfl ?_
  obtain ⟨z6, S4, e5, F⟩ := F
  refine mv_calv (as := []) (rest := []) e5 (sh_367) rfl rfl rfl ⟨rfl, rfl⟩ rfl rfl rfl rfl rfl ?_
  refine mv_if 269 rfl rfl (fun c => ?_) (fun c => ?_)
  · have F := F.1 c
    exact F
  · have F := F.2 c
    refine ev_bk 2 (S' := (255, [some (.ref 367), some (vI x1), some (vL z3), none, none, none, none], [.ref 367, vL z3], hp S4, 0, 0)) rfl ?_
    refine mv_gfI rfl rfl (sh_367) (by decide) rfl ?_
    refine mv_i2l rfl ?_
    refine mv_lif 269 rfl rfl rfl (fun c => ?_) (fun c => ?_)
    · have F := F.1 c
      exact F
    · have F := F.2 c
      refine ev_bk 2 (S' := (266, [some (.ref 367), some (vI x1), some (vL z3), none, none, none, none], [vI 35, .ref 367], hp S4, 0, 0)) rfl ?_
      obtain ⟨S7, e8, F⟩ := F
      refine mv_calv (as := [vI 35]) (rest := []) e8 (sh_367) rfl rfl rfl ⟨rfl, rfl⟩ rfl rfl rfl rfl rfl ?_
      exact F
theorem vc_MD_openMember_269 {q : Nat × (Nat → Int32)} {S S' : ms} {r : Option Value} (x1 x2 : Int)
    (F : ∃ (S1 : ms), EV q 341 0 [some (.ref 367)] [] S none S1 ∧ r = none ∧ S' = S1) : EV q 353 269 [some (.ref 367), some (vI x1), some (vL x2), none, none, none, none] [] S r S' := by
  unfold EV
  refine ev_bk 1 (S' := (270, [some (.ref 367), some (vI x1), some (vL x2), none, none, none, none], [.ref 367], hp S, 0, 0)) rfl ?_
  obtain ⟨S1, e2, F⟩ := F
  refine mv_calv (as := []) (rest := []) e2 (sh_367) rfl rfl rfl ⟨rfl, rfl⟩ rfl rfl rfl rfl rfl ?_
  obtain ⟨rfl, rfl⟩ := F
  exact ev_ret rfl rfl
theorem vc_MD_mustBe {q : Nat × (Nat → Int32)} {S S' : ms} {r : Option Value} (x1 x2 : Int)
    (F : ∃ (z3 : Int) (S1 : ms), EV q 334 0 [some (.ref 367)] [] S (some (vI z3)) S1 ∧ ∃ (z6 : Int) (S4 : ms), EV q 333 0 [some (.ref 367)] [] S1 (some (vI z6)) S4 ∧ ((w32 z6 = 0) → r = none ∧ S' = S4) ∧ ((¬ w32 z6 = 0) → ((w32 z3 = w32 x1) → r = none ∧ S' = S4) ∧ ((¬ w32 z3 = w32 x1) → ∃ (S7 : ms), EV q 337 0 [some (.ref 367), some (vI x2)] [] S4 none S7 ∧ r = none ∧ S' = S7))) : EV q 354 0 [some (.ref 367), some (vI x1), some (vI x2), none] [] S r S' := by
  unfold EV
  refine ev_bk 1 (S' := (1, [some (.ref 367), some (vI x1), some (vI x2), none], [.ref 367], hp S, 0, 0)) rfl ?_
  obtain ⟨z3, S1, e2, F⟩ := F
  refine mv_calv (as := []) (rest := []) e2 (sh_367) rfl rfl rfl ⟨rfl, rfl⟩ rfl rfl rfl rfl rfl ?_
  refine ev_bk 2 (S' := (6, [some (.ref 367), some (vI x1), some (vI x2), some (vI z3)], [.ref 367], hp S1, 0, 0)) rfl ?_
  obtain ⟨z6, S4, e5, F⟩ := F
  refine mv_calv (as := []) (rest := []) e5 (sh_367) rfl rfl rfl ⟨rfl, rfl⟩ rfl rfl rfl rfl rfl ?_
  refine mv_if 22 rfl rfl (fun c => ?_) (fun c => ?_)
  · have F := F.1 c
    obtain ⟨rfl, rfl⟩ := F
    exact ev_ret rfl rfl
  · have F := F.2 c
    refine ev_bk 2 (S' := (14, [some (.ref 367), some (vI x1), some (vI x2), some (vI z3)], [vI x1, vI z3], hp S4, 0, 0)) rfl ?_
    refine mv_icmp 22 rfl rfl (fun c => ?_) (fun c => ?_)
    · have F := F.1 c
      obtain ⟨rfl, rfl⟩ := F
      exact ev_ret rfl rfl
    · have F := F.2 c
      refine ev_bk 2 (S' := (19, [some (.ref 367), some (vI x1), some (vI x2), some (vI z3)], [vI x2, .ref 367], hp S4, 0, 0)) rfl ?_
      obtain ⟨S7, e8, F⟩ := F
      refine mv_calv (as := [vI x2]) (rest := []) e8 (sh_367) rfl rfl rfl ⟨rfl, rfl⟩ rfl rfl rfl rfl rfl ?_
      obtain ⟨rfl, rfl⟩ := F
      exact ev_ret rfl rfl
theorem vc_MD_passText {q : Nat × (Nat → Int32)} {S S' : ms} {r : Option Value}
    (F : EV q 355 2 [some (.ref 367), some (vI 1)] [] S r S') : EV q 355 0 [some (.ref 367), none] [] S r S' := by
  unfold EV
  refine ev_bk 2 (S' := (2, [some (.ref 367), some (vI 1)], [], hp S, 0, 0)) rfl ?_
  exact F
theorem vc_MD_passText_2 {q : Nat × (Nat → Int32)} {S S' : ms} {r : Option Value} (x1 : Int)
    (F : ∃ (z3 : Int) (S1 : ms), EV q 333 0 [some (.ref 367)] [] S (some (vI z3)) S1 ∧ ((w32 z3 = 0) → r = none ∧ S' = S1) ∧ ((¬ w32 z3 = 0) → ((w32 x1 = 0) → r = none ∧ S' = S1) ∧ ((¬ w32 x1 = 0) → ∃ (z6 : Int) (S4 : ms), EV q 334 0 [some (.ref 367)] [] S1 (some (vI z6)) S4 ∧ EV q 355 2 [some (.ref 367), some (vI z6)] [] S4 r S'))) : EV q 355 2 [some (.ref 367), some (vI x1)] [] S r S' := by
  unfold EV
  refine ev_bk 1 (S' := (3, [some (.ref 367), some (vI x1)], [.ref 367], hp S, 0, 0)) rfl ?_
  obtain ⟨z3, S1, e2, F⟩ := F
  refine mv_calv (as := []) (rest := []) e2 (sh_367) rfl rfl rfl ⟨rfl, rfl⟩ rfl rfl rfl rfl rfl ?_
  refine mv_if 21 rfl rfl (fun c => ?_) (fun c => ?_)
  · have F := F.1 c
    obtain ⟨rfl, rfl⟩ := F
    exact ev_ret rfl rfl
  · have F := F.2 c
    refine ev_bk 1 (S' := (10, [some (.ref 367), some (vI x1)], [vI x1], hp S1, 0, 0)) rfl ?_
    refine mv_if 21 rfl rfl (fun c => ?_) (fun c => ?_)
    · have F := F.1 c
      obtain ⟨rfl, rfl⟩ := F
      exact ev_ret rfl rfl
    · have F := F.2 c
      refine ev_bk 1 (S' := (14, [some (.ref 367), some (vI x1)], [.ref 367], hp S1, 0, 0)) rfl ?_
      obtain ⟨z6, S4, e5, F⟩ := F
      refine mv_calv (as := []) (rest := []) e5 (sh_367) rfl rfl rfl ⟨rfl, rfl⟩ rfl rfl rfl rfl rfl ?_
      refine ev_bk 1 (S' := (18, [some (.ref 367), some (vI z6)], [], hp S4, 0, 0)) rfl ?_
      refine mv_goto 2 rfl rfl ?_
      exact F
theorem vc_MD_openFast {q : Nat × (Nat → Int32)} {S S' : ms} {r : Option Value} (x1 x2 : Int)
    (F : EV q 356 2 [some (.ref 367), some (vI x1), some (vI x2), some (vI 1), none, none, none, none, none, none, none] [] S r S') : EV q 356 0 [some (.ref 367), some (vI x1), some (vI x2), none, none, none, none, none, none, none, none] [] S r S' := by
  unfold EV
  refine ev_bk 2 (S' := (2, [some (.ref 367), some (vI x1), some (vI x2), some (vI 1), none, none, none, none, none, none, none], [], hp S, 0, 0)) rfl ?_
  exact F
theorem vc_MD_openFast_2 {q : Nat × (Nat → Int32)} {S S' : ms} {r : Option Value} (x1 x2 x3 : Int)
    (F : ((w32 x3 = 0) → r = none ∧ S' = S) ∧ ((¬ w32 x3 = 0) → ∃ (z3 : Int) (S1 : ms), EV q 333 0 [some (.ref 367)] [] S (some (vI z3)) S1 ∧ ((w32 z3 = 0) → r = none ∧ S' = S1) ∧ ((¬ w32 z3 = 0) → ∃ (z6 : Int) (S4 : ms), EV q 334 0 [some (.ref 367)] [] S1 (some (vI z6)) S4 ∧ ((¬ w64 (w32 (w32 z6 / 16)) = w64 15) → EV q 356 45 [some (.ref 367), some (vI x1), some (vI x2), some (vI x3), some (vI z6), some (vL (w32 (w32 z6 / 16))), none, none, none, none, none] [vL 0, vL (w32 (w32 z6 / 16))] S4 r S') ∧ ((¬ (¬ w64 (w32 (w32 z6 / 16)) = w64 15)) → ∃ (z9 : Int) (S7 : ms), EV q 357 0 [some (.ref 367), none, none, none] [] S4 (some (vL z9)) S7 ∧ EV q 356 45 [some (.ref 367), some (vI x1), some (vI x2), some (vI x3), some (vI z6), some (vL (w32 (w32 z6 / 16))), none, none, none, none, none] [vL z9, vL (w32 (w32 z6 / 16))] S7 r S')))) : EV q 356 2 [some (.ref 367), some (vI x1), some (vI x2), some (vI x3), none, none, none, none, none, none, none] [] S r S' := by
  unfold EV
  refine ev_bk 1 (S' := (3, [some (.ref 367), some (vI x1), some (vI x2), some (vI x3), none, none, none, none, none, none, none], [vI x3], hp S, 0, 0)) rfl ?_
  refine mv_if 228 rfl rfl (fun c => ?_) (fun c => ?_)
  · have F := F.1 c
    obtain ⟨rfl, rfl⟩ := F
    exact ev_ret rfl rfl
  · have F := F.2 c
    refine ev_bk 1 (S' := (7, [some (.ref 367), some (vI x1), some (vI x2), some (vI x3), none, none, none, none, none, none, none], [.ref 367], hp S, 0, 0)) rfl ?_
    obtain ⟨z3, S1, e2, F⟩ := F
    refine mv_calv (as := []) (rest := []) e2 (sh_367) rfl rfl rfl ⟨rfl, rfl⟩ rfl rfl rfl rfl rfl ?_
    refine mv_if 228 rfl rfl (fun c => ?_) (fun c => ?_)
    · have F := F.1 c
      obtain ⟨rfl, rfl⟩ := F
      exact ev_ret rfl rfl
    · have F := F.2 c
      refine ev_bk 1 (S' := (14, [some (.ref 367), some (vI x1), some (vI x2), some (vI x3), none, none, none, none, none, none, none], [.ref 367], hp S1, 0, 0)) rfl ?_
      obtain ⟨z6, S4, e5, F⟩ := F
      refine mv_calv (as := []) (rest := []) e5 (sh_367) rfl rfl rfl ⟨rfl, rfl⟩ rfl rfl rfl rfl rfl ?_
      refine ev_bk 3 (S' := (22, [some (.ref 367), some (vI x1), some (vI x2), some (vI x3), some (vI z6), none, none, none, none, none, none], [vI 4, vI z6], hp S4, 0, 0)) rfl ?_
      refine mv_ishr 16 rfl rfl ?_
      refine mv_i2l rfl ?_
      refine ev_bk 4 (S' := (33, [some (.ref 367), some (vI x1), some (vI x2), some (vI x3), some (vI z6), some (vL (w32 (w32 z6 / 16))), none, none, none, none, none], [vL 15, vL (w32 (w32 z6 / 16)), vL (w32 (w32 z6 / 16))], hp S4, 0, 0)) rfl ?_
      refine mv_lif 44 rfl rfl rfl (fun c => ?_) (fun c => ?_)
      · have F := F.1 c
        refine ev_bk 1 (S' := (45, [some (.ref 367), some (vI x1), some (vI x2), some (vI x3), some (vI z6), some (vL (w32 (w32 z6 / 16))), none, none, none, none, none], [vL 0, vL (w32 (w32 z6 / 16))], hp S4, 0, 0)) rfl ?_
        exact F
      · have F := F.2 c
        refine ev_bk 1 (S' := (38, [some (.ref 367), some (vI x1), some (vI x2), some (vI x3), some (vI z6), some (vL (w32 (w32 z6 / 16))), none, none, none, none, none], [.ref 367, vL (w32 (w32 z6 / 16))], hp S4, 0, 0)) rfl ?_
        obtain ⟨z9, S7, e8, F⟩ := F
        refine mv_calv (as := []) (rest := [vL (w32 (w32 z6 / 16))]) e8 (sh_367) rfl rfl rfl ⟨rfl, rfl⟩ rfl rfl rfl rfl rfl ?_
        refine mv_goto 45 rfl rfl ?_
        exact F
theorem vc_MD_openFast_45 {q : Nat × (Nat → Int32)} {S S' : ms} {r : Option Value} (x1 x2 x3 x4 x5 y0 y1 : Int)
    (F : EV q 356 51 [some (.ref 367), some (vI x1), some (vI x2), some (vI x3), some (vI x4), some (vL (y1 + y0)), none, some (vL 0), none, none, none] [] S r S') : EV q 356 45 [some (.ref 367), some (vI x1), some (vI x2), some (vI x3), some (vI x4), some (vL x5), none, none, none, none, none] [vL y0, vL y1] S r S' := by
  unfold EV
  refine mv_ladd rfl ?_
  refine ev_bk 3 (S' := (51, [some (.ref 367), some (vI x1), some (vI x2), some (vI x3), some (vI x4), some (vL (y1 + y0)), none, some (vL 0), none, none, none], [], hp S, 0, 0)) rfl ?_
  exact F
theorem vc_MD_openFast_51 {q : Nat × (Nat → Int32)} {S S' : ms} {r : Option Value} (x1 x2 x3 x4 x5 x7 : Int)
    (F : ((w64 x5 ≤ w64 x7) → EV q 356 87 [some (.ref 367), some (vI x1), some (vI x2), some (vI x3), some (vI x4), some (vL x5), none, some (vL x7), none, none, none] [] S r S') ∧ ((¬ w64 x5 ≤ w64 x7) → ∃ (z3 : Int) (S1 : ms), EV q 333 0 [some (.ref 367)] [] S (some (vI z3)) S1 ∧ ((w32 z3 = 0) → EV q 356 87 [some (.ref 367), some (vI x1), some (vI x2), some (vI x3), some (vI x4), some (vL x5), none, some (vL x7), none, none, none] [] S1 r S') ∧ ((¬ w32 z3 = 0) → ∃ (z6 : Int) (S4 : ms), EV q 334 0 [some (.ref 367)] [] S1 (some (vI z6)) S4 ∧ ∃ (S7 : ms), EV q 336 0 [some (.ref 367), some (vI z6)] [] S4 none S7 ∧ EV q 356 51 [some (.ref 367), some (vI x1), some (vI x2), some (vI x3), some (vI x4), some (vL x5), none, some (vL (x7 + 1)), none, none, none] [] S7 r S'))) : EV q 356 51 [some (.ref 367), some (vI x1), some (vI x2), some (vI x3), some (vI x4), some (vL x5), none, some (vL x7), none, none, none] [] S r S' := by
  unfold EV
  refine ev_bk 2 (S' := (55, [some (.ref 367), some (vI x1), some (vI x2), some (vI x3), some (vI x4), some (vL x5), none, some (vL x7), none, none, none], [vL x5, vL x7], hp S, 0, 0)) rfl ?_
  refine mv_lif 87 rfl rfl rfl (fun c => ?_) (fun c => ?_)
  · have F := F.1 c
    exact F
  · have F := F.2 c
    refine ev_bk 1 (S' := (60, [some (.ref 367), some (vI x1), some (vI x2), some (vI x3), some (vI x4), some (vL x5), none, some (vL x7), none, none, none], [.ref 367], hp S, 0, 0)) rfl ?_
    obtain ⟨z3, S1, e2, F⟩ := F
    refine mv_calv (as := []) (rest := []) e2 (sh_367) rfl rfl rfl ⟨rfl, rfl⟩ rfl rfl rfl rfl rfl ?_
    refine mv_if 87 rfl rfl (fun c => ?_) (fun c => ?_)
    · have F := F.1 c
      exact F
    · have F := F.2 c
      refine ev_bk 1 (S' := (67, [some (.ref 367), some (vI x1), some (vI x2), some (vI x3), some (vI x4), some (vL x5), none, some (vL x7), none, none, none], [.ref 367], hp S1, 0, 0)) rfl ?_
      obtain ⟨z6, S4, e5, F⟩ := F
      refine mv_calv (as := []) (rest := []) e5 (sh_367) rfl rfl rfl ⟨rfl, rfl⟩ rfl rfl rfl rfl rfl ?_
      refine ev_bk 3 (S' := (75, [some (.ref 367), some (vI x1), some (vI x2), some (vI x3), some (vI x4), some (vL x5), none, some (vL x7), none, some (vI z6), none], [vI z6, .ref 367], hp S4, 0, 0)) rfl ?_
      obtain ⟨S7, e8, F⟩ := F
      refine mv_calv (as := [vI z6]) (rest := []) e8 (sh_367) rfl rfl rfl ⟨rfl, rfl⟩ rfl rfl rfl rfl rfl ?_
      refine ev_bk 2 (S' := (81, [some (.ref 367), some (vI x1), some (vI x2), some (vI x3), some (vI x4), some (vL x5), none, some (vL x7), none, some (vI z6), none], [vL 1, vL x7], hp S7, 0, 0)) rfl ?_
      refine mv_ladd rfl ?_
      refine ev_bk 1 (S' := (84, [some (.ref 367), some (vI x1), some (vI x2), some (vI x3), some (vI x4), some (vL x5), none, some (vL (x7 + 1)), none, some (vI z6), none], [], hp S7, 0, 0)) rfl ?_
      refine mv_goto 51 rfl rfl ?_
      exact ev_wk (le_s (le_s (le_s (le_s (le_s (le_s (le_s (le_s (le_s (le_n (le_s le_0))))))))))) F
theorem vc_MD_openFast_87 {q : Nat × (Nat → Int32)} {S S' : ms} {r : Option Value} (x1 x2 x3 x4 x5 x7 : Int)
    (F : ((w32 (S.1 367 15) ≤ w32 (S.1 367 16)) → EV q 356 103 [some (.ref 367), some (vI x1), some (vI x2), some (vI x3), some (vI x4), some (vL x5), none, some (vL x7), none, none, none] [vI 0] S r S') ∧ ((¬ w32 (S.1 367 15) ≤ w32 (S.1 367 16)) → EV q 356 103 [some (.ref 367), some (vI x1), some (vI x2), some (vI x3), some (vI x4), some (vL x5), none, some (vL x7), none, none, none] [vI 1] S r S')) : EV q 356 87 [some (.ref 367), some (vI x1), some (vI x2), some (vI x3), some (vI x4), some (vL x5), none, some (vL x7), none, none, none] [] S r S' := by
  unfold EV
  refine ev_bk 1 (S' := (88, [some (.ref 367), some (vI x1), some (vI x2), some (vI x3), some (vI x4), some (vL x5), none, some (vL x7), none, none, none], [.ref 367], hp S, 0, 0)) rfl ?_
  refine mv_gfI rfl rfl (sh_367) (by decide) rfl ?_
  refine ev_bk 1 (S' := (92, [some (.ref 367), some (vI x1), some (vI x2), some (vI x3), some (vI x4), some (vL x5), none, some (vL x7), none, none, none], [.ref 367, vI (S.1 367 16)], hp S, 0, 0)) rfl ?_
  refine mv_gfI rfl rfl (sh_367) (by decide) rfl ?_
  refine mv_icmp 102 rfl rfl (fun c => ?_) (fun c => ?_)
  · have F := F.1 c
    refine ev_bk 1 (S' := (103, [some (.ref 367), some (vI x1), some (vI x2), some (vI x3), some (vI x4), some (vL x5), none, some (vL x7), none, none, none], [vI 0], hp S, 0, 0)) rfl ?_
    exact F
  · have F := F.2 c
    refine ev_bk 1 (S' := (99, [some (.ref 367), some (vI x1), some (vI x2), some (vI x3), some (vI x4), some (vL x5), none, some (vL x7), none, none, none], [vI 1], hp S, 0, 0)) rfl ?_
    refine mv_goto 103 rfl rfl ?_
    exact F
theorem vc_MD_openFast_103 {q : Nat × (Nat → Int32)} {S S' : ms} {r : Option Value} (x1 x2 x3 x4 x5 x7 y0 : Int)
    (F : ((w32 y0 = 0) → r = none ∧ S' = S) ∧ ((¬ w32 y0 = 0) → ∃ (z3 : Int) (S1 : ms), EV q 333 0 [some (.ref 367)] [] S (some (vI z3)) S1 ∧ ((¬ w32 z3 = 0) → ∃ (z6 : Int) (S4 : ms), EV q 345 0 [some (.ref 367), some (vI 2), none, none, none] [] S1 (some (vL z6)) S4 ∧ ∃ (z9 : Int) (S7 : ms), EV q 333 0 [some (.ref 367)] [] S4 (some (vI z9)) S7 ∧ ((w32 z9 = 0) → EV q 356 153 [some (.ref 367), some (vI x1), some (vI x2), some (vI y0), some (vI x4), some (vL x5), none, some (vL z6), none, none, none] [] S7 r S') ∧ ((¬ w32 z9 = 0) → ((w32 x2 = 0) → EV q 356 153 [some (.ref 367), some (vI x1), some (vI x2), some (vI y0), some (vI x4), some (vL x5), none, some (vL z6), none, none, none] [] S7 r S') ∧ ((¬ w32 x2 = 0) → ((w64 z6 ≤ w64 (w32 ((S7.1 367 22) - x1))) → EV q 356 153 [some (.ref 367), some (vI x1), some (vI x2), some (vI y0), some (vI x4), some (vL x5), none, some (vL z6), none, none, none] [] S7 r S') ∧ ((¬ w64 z6 ≤ w64 (w32 ((S7.1 367 22) - x1))) → ∃ (S10 : ms), EV q 337 0 [some (.ref 367), some (vI 42)] [] S7 none S10 ∧ EV q 356 153 [some (.ref 367), some (vI x1), some (vI x2), some (vI y0), some (vI x4), some (vL x5), none, some (vL z6), none, none, none] [] S10 r S')))) ∧ ((¬ (¬ w32 z3 = 0)) → r = none ∧ S' = S1))) : EV q 356 103 [some (.ref 367), some (vI x1), some (vI x2), some (vI x3), some (vI x4), some (vL x5), none, some (vL x7), none, none, none] [vI y0] S r S' := by
  unfold EV
  refine ev_bk 2 (S' := (105, [some (.ref 367), some (vI x1), some (vI x2), some (vI y0), some (vI x4), some (vL x5), none, some (vL x7), none, none, none], [vI y0], hp S, 0, 0)) rfl ?_
  refine mv_if 115 rfl rfl (fun c => ?_) (fun c => ?_)
  · have F := F.1 c
    obtain ⟨rfl, rfl⟩ := F
    exact ev_ret rfl rfl
  · have F := F.2 c
    refine ev_bk 1 (S' := (109, [some (.ref 367), some (vI x1), some (vI x2), some (vI y0), some (vI x4), some (vL x5), none, some (vL x7), none, none, none], [.ref 367], hp S, 0, 0)) rfl ?_
    obtain ⟨z3, S1, e2, F⟩ := F
    refine mv_calv (as := []) (rest := []) e2 (sh_367) rfl rfl rfl ⟨rfl, rfl⟩ rfl rfl rfl rfl rfl ?_
    refine mv_if 116 rfl rfl (fun c => ?_) (fun c => ?_)
    · have F := F.1 c
      refine ev_bk 2 (S' := (118, [some (.ref 367), some (vI x1), some (vI x2), some (vI y0), some (vI x4), some (vL x5), none, some (vL x7), none, none, none], [vI 2, .ref 367], hp S1, 0, 0)) rfl ?_
      obtain ⟨z6, S4, e5, F⟩ := F
      refine mv_calv (as := [vI 2]) (rest := []) e5 (sh_367) rfl rfl rfl ⟨rfl, rfl⟩ rfl rfl rfl rfl rfl ?_
      refine ev_bk 2 (S' := (124, [some (.ref 367), some (vI x1), some (vI x2), some (vI y0), some (vI x4), some (vL x5), none, some (vL z6), none, none, none], [.ref 367], hp S4, 0, 0)) rfl ?_
      obtain ⟨z9, S7, e8, F⟩ := F
      refine mv_calv (as := []) (rest := []) e8 (sh_367) rfl rfl rfl ⟨rfl, rfl⟩ rfl rfl rfl rfl rfl ?_
      refine mv_if 153 rfl rfl (fun c => ?_) (fun c => ?_)
      · have F := F.1 c
        exact F
      · have F := F.2 c
        refine ev_bk 1 (S' := (131, [some (.ref 367), some (vI x1), some (vI x2), some (vI y0), some (vI x4), some (vL x5), none, some (vL z6), none, none, none], [vI x2], hp S7, 0, 0)) rfl ?_
        refine mv_if 153 rfl rfl (fun c => ?_) (fun c => ?_)
        · have F := F.1 c
          exact F
        · have F := F.2 c
          refine ev_bk 2 (S' := (137, [some (.ref 367), some (vI x1), some (vI x2), some (vI y0), some (vI x4), some (vL x5), none, some (vL z6), none, none, none], [.ref 367, vL z6], hp S7, 0, 0)) rfl ?_
          refine mv_gfI rfl rfl (sh_367) (by decide) rfl ?_
          refine ev_bk 1 (S' := (141, [some (.ref 367), some (vI x1), some (vI x2), some (vI y0), some (vI x4), some (vL x5), none, some (vL z6), none, none, none], [vI x1, vI (S7.1 367 22), vL z6], hp S7, 0, 0)) rfl ?_
          refine mv_isub rfl ?_
          refine mv_i2l rfl ?_
          refine mv_lif 153 rfl rfl rfl (fun c => ?_) (fun c => ?_)
          · have F := F.1 c
            exact F
          · have F := F.2 c
            refine ev_bk 2 (S' := (150, [some (.ref 367), some (vI x1), some (vI x2), some (vI y0), some (vI x4), some (vL x5), none, some (vL z6), none, none, none], [vI 42, .ref 367], hp S7, 0, 0)) rfl ?_
            obtain ⟨S10, e11, F⟩ := F
            refine mv_calv (as := [vI 42]) (rest := []) e11 (sh_367) rfl rfl rfl ⟨rfl, rfl⟩ rfl rfl rfl rfl rfl ?_
            exact F
    · have F := F.2 c
      obtain ⟨rfl, rfl⟩ := F
      exact ev_ret rfl rfl
theorem vc_MD_openFast_153 {q : Nat × (Nat → Int32)} {S S' : ms} {r : Option Value} (x1 x2 x3 x4 x5 x7 : Int)
    (F : ∃ (z3 : Int) (S1 : ms), EV q 333 0 [some (.ref 367)] [] S (some (vI z3)) S1 ∧ ((w32 z3 = 0) → EV q 356 184 [some (.ref 367), some (vI x1), some (vI x2), some (vI x3), some (vI x4), some (vL x5), none, some (vL x7), none, none, none] [] S1 r S') ∧ ((¬ w32 z3 = 0) → ((w64 x7 = w64 0) → EV q 356 178 [some (.ref 367), some (vI x1), some (vI x2), some (vI x3), some (vI x4), some (vL x5), none, some (vL x7), none, none, none] [] S1 r S') ∧ ((¬ w64 x7 = w64 0) → ((w64 x7 ≤ w64 (w32 (S1.1 367 22))) → EV q 356 184 [some (.ref 367), some (vI x1), some (vI x2), some (vI x3), some (vI x4), some (vL x5), none, some (vL x7), none, none, none] [] S1 r S') ∧ ((¬ w64 x7 ≤ w64 (w32 (S1.1 367 22))) → EV q 356 178 [some (.ref 367), some (vI x1), some (vI x2), some (vI x3), some (vI x4), some (vL x5), none, some (vL x7), none, none, none] [] S1 r S')))) : EV q 356 153 [some (.ref 367), some (vI x1), some (vI x2), some (vI x3), some (vI x4), some (vL x5), none, some (vL x7), none, none, none] [] S r S' := by
  unfold EV
  refine ev_bk 1 (S' := (154, [some (.ref 367), some (vI x1), some (vI x2), some (vI x3), some (vI x4), some (vL x5), none, some (vL x7), none, none, none], [.ref 367], hp S, 0, 0)) rfl ?_
  obtain ⟨z3, S1, e2, F⟩ := F
  refine mv_calv (as := []) (rest := []) e2 (sh_367) rfl rfl rfl ⟨rfl, rfl⟩ rfl rfl rfl rfl rfl ?_
  refine mv_if 184 rfl rfl (fun c => ?_) (fun c => ?_)
  · have F := F.1 c
    exact F
  · have F := F.2 c
    refine ev_bk 2 (S' := (163, [some (.ref 367), some (vI x1), some (vI x2), some (vI x3), some (vI x4), some (vL x5), none, some (vL x7), none, none, none], [vL 0, vL x7], hp S1, 0, 0)) rfl ?_
    refine mv_lif 178 rfl rfl rfl (fun c => ?_) (fun c => ?_)
    · have F := F.1 c
      exact F
    · have F := F.2 c
      refine ev_bk 2 (S' := (170, [some (.ref 367), some (vI x1), some (vI x2), some (vI x3), some (vI x4), some (vL x5), none, some (vL x7), none, none, none], [.ref 367, vL x7], hp S1, 0, 0)) rfl ?_
      refine mv_gfI rfl rfl (sh_367) (by decide) rfl ?_
      refine mv_i2l rfl ?_
      refine mv_lif 184 rfl rfl rfl (fun c => ?_) (fun c => ?_)
      · have F := F.1 c
        exact F
      · have F := F.2 c
        exact F
theorem vc_MD_openFast_178 {q : Nat × (Nat → Int32)} {S S' : ms} {r : Option Value} (x1 x2 x3 x4 x5 x7 : Int)
    (F : ∃ (S1 : ms), EV q 337 0 [some (.ref 367), some (vI 41)] [] S none S1 ∧ EV q 356 184 [some (.ref 367), some (vI x1), some (vI x2), some (vI x3), some (vI x4), some (vL x5), none, some (vL x7), none, none, none] [] S1 r S') : EV q 356 178 [some (.ref 367), some (vI x1), some (vI x2), some (vI x3), some (vI x4), some (vL x5), none, some (vL x7), none, none, none] [] S r S' := by
  unfold EV
  refine ev_bk 2 (S' := (181, [some (.ref 367), some (vI x1), some (vI x2), some (vI x3), some (vI x4), some (vL x5), none, some (vL x7), none, none, none], [vI 41, .ref 367], hp S, 0, 0)) rfl ?_
  obtain ⟨S1, e2, F⟩ := F
  refine mv_calv (as := [vI 41]) (rest := []) e2 (sh_367) rfl rfl rfl ⟨rfl, rfl⟩ rfl rfl rfl rfl rfl ?_
  exact F
theorem vc_MD_openFast_184 {q : Nat × (Nat → Int32)} {S S' : ms} {r : Option Value} (x1 x2 x3 x4 x5 x7 : Int)
    (F : ((¬ w32 (x4 % 16) = 15) → EV q 356 214 [some (.ref 367), some (vI x1), some (vI x2), some (vI x3), some (vI x4), some (vL x5), none, some (vL x7), none, some (vL (w32 ((x4 % 16) + 4))), none] [vL 0, vL (w32 ((x4 % 16) + 4))] S r S') ∧ ((¬ (¬ w32 (x4 % 16) = 15)) → ∃ (z3 : Int) (S1 : ms), EV q 357 0 [some (.ref 367), none, none, none] [] S (some (vL z3)) S1 ∧ EV q 356 214 [some (.ref 367), some (vI x1), some (vI x2), some (vI x3), some (vI x4), some (vL x5), none, some (vL x7), none, some (vL (w32 ((x4 % 16) + 4))), none] [vL z3, vL (w32 ((x4 % 16) + 4))] S1 r S')) : EV q 356 184 [some (.ref 367), some (vI x1), some (vI x2), some (vI x3), some (vI x4), some (vL x5), none, some (vL x7), none, none, none] [] S r S' := by
  unfold EV
  refine ev_bk 2 (S' := (188, [some (.ref 367), some (vI x1), some (vI x2), some (vI x3), some (vI x4), some (vL x5), none, some (vL x7), none, none, none], [vI 15, vI x4], hp S, 0, 0)) rfl ?_
  refine mv_iandm 16 4 (by decide) rfl rfl rfl ?_
  refine ev_bk 1 (S' := (190, [some (.ref 367), some (vI x1), some (vI x2), some (vI x3), some (vI x4), some (vL x5), none, some (vL x7), none, none, none], [vI 4, vI (x4 % 16)], hp S, 0, 0)) rfl ?_
  refine mv_iadd rfl ?_
  refine mv_i2l rfl ?_
  refine ev_bk 4 (S' := (200, [some (.ref 367), some (vI x1), some (vI x2), some (vI x3), some (vI x4), some (vL x5), none, some (vL x7), none, some (vL (w32 ((x4 % 16) + 4))), none], [vI 15, vI x4, vL (w32 ((x4 % 16) + 4))], hp S, 0, 0)) rfl ?_
  refine mv_iandm 16 4 (by decide) rfl rfl rfl ?_
  refine ev_bk 1 (S' := (203, [some (.ref 367), some (vI x1), some (vI x2), some (vI x3), some (vI x4), some (vL x5), none, some (vL x7), none, some (vL (w32 ((x4 % 16) + 4))), none], [vI 15, vI (x4 % 16), vL (w32 ((x4 % 16) + 4))], hp S, 0, 0)) rfl ?_
  refine mv_icmp 213 rfl rfl (fun c => ?_) (fun c => ?_)
  · have F := F.1 c
    refine ev_bk 1 (S' := (214, [some (.ref 367), some (vI x1), some (vI x2), some (vI x3), some (vI x4), some (vL x5), none, some (vL x7), none, some (vL (w32 ((x4 % 16) + 4))), none], [vL 0, vL (w32 ((x4 % 16) + 4))], hp S, 0, 0)) rfl ?_
    exact F
  · have F := F.2 c
    refine ev_bk 1 (S' := (207, [some (.ref 367), some (vI x1), some (vI x2), some (vI x3), some (vI x4), some (vL x5), none, some (vL x7), none, some (vL (w32 ((x4 % 16) + 4))), none], [.ref 367, vL (w32 ((x4 % 16) + 4))], hp S, 0, 0)) rfl ?_
    obtain ⟨z3, S1, e2, F⟩ := F
    refine mv_calv (as := []) (rest := [vL (w32 ((x4 % 16) + 4))]) e2 (sh_367) rfl rfl rfl ⟨rfl, rfl⟩ rfl rfl rfl rfl rfl ?_
    refine mv_goto 214 rfl rfl ?_
    exact F
theorem vc_MD_openFast_214 {q : Nat × (Nat → Int32)} {S S' : ms} {r : Option Value} (x1 x2 x3 x4 x5 x7 x9 y0 y1 : Int)
    (F : ∃ (S1 : ms), EV q 350 0 [some (.ref 367), some (vL x7), none, some (vL (y1 + y0)), none, none, none] [] S none S1 ∧ EV q 356 2 [some (.ref 367), some (vI x1), some (vI x2), some (vI x3), none, none, none, none, none, none, none] [] S1 r S') : EV q 356 214 [some (.ref 367), some (vI x1), some (vI x2), some (vI x3), some (vI x4), some (vL x5), none, some (vL x7), none, some (vL x9), none] [vL y0, vL y1] S r S' := by
  unfold EV
  refine mv_ladd rfl ?_
  refine ev_bk 4 (S' := (222, [some (.ref 367), some (vI x1), some (vI x2), some (vI x3), some (vI x4), some (vL x5), none, some (vL x7), none, some (vL (y1 + y0)), none], [vL (y1 + y0), vL x7, .ref 367], hp S, 0, 0)) rfl ?_
  obtain ⟨S1, e2, F⟩ := F
  refine mv_calv (as := [vL x7, vL (y1 + y0)]) (rest := []) e2 (sh_367) rfl rfl rfl ⟨rfl, rfl⟩ rfl rfl rfl rfl rfl ?_
  refine mv_goto 2 rfl rfl ?_
  exact ev_wk (le_s (le_s (le_s (le_s (le_n (le_n (le_s (le_n (le_s (le_n (le_s le_0))))))))))) F
theorem vc_MD_more {q : Nat × (Nat → Int32)} {S S' : ms} {r : Option Value}
    (F : ∃ (z3 : Int) (S1 : ms), EV q 334 0 [some (.ref 367)] [] S (some (vI z3)) S1 ∧ EV q 357 12 [some (.ref 367), some (vL (0 + (w32 z3))), none, some (vI z3)] [] S1 r S') : EV q 357 0 [some (.ref 367), none, none, none] [] S r S' := by
  unfold EV
  refine ev_bk 3 (S' := (3, [some (.ref 367), some (vL 0), none, none], [.ref 367], hp S, 0, 0)) rfl ?_
  obtain ⟨z3, S1, e2, F⟩ := F
  refine mv_calv (as := []) (rest := []) e2 (sh_367) rfl rfl rfl ⟨rfl, rfl⟩ rfl rfl rfl rfl rfl ?_
  refine ev_bk 3 (S' := (9, [some (.ref 367), some (vL 0), none, some (vI z3)], [vI z3, vL 0], hp S1, 0, 0)) rfl ?_
  refine mv_i2l rfl ?_
  refine mv_ladd rfl ?_
  refine ev_bk 1 (S' := (12, [some (.ref 367), some (vL (0 + (w32 z3))), none, some (vI z3)], [], hp S1, 0, 0)) rfl ?_
  exact F
theorem vc_MD_more_12 {q : Nat × (Nat → Int32)} {S S' : ms} {r : Option Value} (x1 x3 : Int)
    (F : ∃ (z3 : Int) (S1 : ms), EV q 333 0 [some (.ref 367)] [] S (some (vI z3)) S1 ∧ ((w32 z3 = 0) → r = some (vL x1) ∧ S' = S1) ∧ ((¬ w32 z3 = 0) → ((¬ w32 x3 = 255) → r = some (vL x1) ∧ S' = S1) ∧ ((¬ (¬ w32 x3 = 255)) → ∃ (z6 : Int) (S4 : ms), EV q 334 0 [some (.ref 367)] [] S1 (some (vI z6)) S4 ∧ EV q 357 12 [some (.ref 367), some (vL (x1 + (w32 z6))), none, some (vI z6)] [] S4 r S'))) : EV q 357 12 [some (.ref 367), some (vL x1), none, some (vI x3)] [] S r S' := by
  unfold EV
  refine ev_bk 1 (S' := (13, [some (.ref 367), some (vL x1), none, some (vI x3)], [.ref 367], hp S, 0, 0)) rfl ?_
  obtain ⟨z3, S1, e2, F⟩ := F
  refine mv_calv (as := []) (rest := []) e2 (sh_367) rfl rfl rfl ⟨rfl, rfl⟩ rfl rfl rfl rfl rfl ?_
  refine mv_if 39 rfl rfl (fun c => ?_) (fun c => ?_)
  · have F := F.1 c
    refine ev_bk 1 (S' := (40, [some (.ref 367), some (vL x1), none, some (vI x3)], [vL x1], hp S1, 0, 0)) rfl ?_
    obtain ⟨rfl, rfl⟩ := F
    exact ev_ret rfl rfl
  · have F := F.2 c
    refine ev_bk 2 (S' := (23, [some (.ref 367), some (vL x1), none, some (vI x3)], [vI 255, vI x3], hp S1, 0, 0)) rfl ?_
    refine mv_icmp 39 rfl rfl (fun c => ?_) (fun c => ?_)
    · have F := F.1 c
      refine ev_bk 1 (S' := (40, [some (.ref 367), some (vL x1), none, some (vI x3)], [vL x1], hp S1, 0, 0)) rfl ?_
      obtain ⟨rfl, rfl⟩ := F
      exact ev_ret rfl rfl
    · have F := F.2 c
      refine ev_bk 1 (S' := (27, [some (.ref 367), some (vL x1), none, some (vI x3)], [.ref 367], hp S1, 0, 0)) rfl ?_
      obtain ⟨z6, S4, e5, F⟩ := F
      refine mv_calv (as := []) (rest := []) e5 (sh_367) rfl rfl rfl ⟨rfl, rfl⟩ rfl rfl rfl rfl rfl ?_
      refine ev_bk 3 (S' := (33, [some (.ref 367), some (vL x1), none, some (vI z6)], [vI z6, vL x1], hp S4, 0, 0)) rfl ?_
      refine mv_i2l rfl ?_
      refine mv_ladd rfl ?_
      refine ev_bk 1 (S' := (36, [some (.ref 367), some (vL (x1 + (w32 z6))), none, some (vI z6)], [], hp S4, 0, 0)) rfl ?_
      refine mv_goto 12 rfl rfl ?_
      exact F
theorem vc_MD_openFrame {q : Nat × (Nat → Int32)} {S S' : ms} {r : Option Value}
    (F : ∃ (S1 : ms), EV q 354 0 [some (.ref 367), some (vI 4), some (vI 43), none] [] S none S1 ∧ ∃ (S3 : ms), EV q 354 0 [some (.ref 367), some (vI 34), some (vI 43), none] [] S1 none S3 ∧ ∃ (S5 : ms), EV q 354 0 [some (.ref 367), some (vI 77), some (vI 43), none] [] S3 none S5 ∧ ∃ (S7 : ms), EV q 354 0 [some (.ref 367), some (vI 24), some (vI 43), none] [] S5 none S7 ∧ ∃ (z11 : Int) (S9 : ms), EV q 334 0 [some (.ref 367)] [] S7 (some (vI z11)) S9 ∧ ∃ (z14 : Int) (S12 : ms), EV q 333 0 [some (.ref 367)] [] S9 (some (vI z14)) S12 ∧ ((w32 z14 = 0) → EV q 358 63 [some (.ref 367), some (vI z11), none, none, none, none, none, none, none, none] [] S12 r S') ∧ ((¬ w32 z14 = 0) → ((¬ w32 (w32 z11 / 64) = 1) → EV q 358 57 [some (.ref 367), some (vI z11), none, none, none, none, none, none, none, none] [] S12 r S') ∧ ((¬ (¬ w32 (w32 z11 / 64) = 1)) → ((w32 (z11 % 4) = 0) → EV q 358 63 [some (.ref 367), some (vI z11), none, none, none, none, none, none, none, none] [] S12 r S') ∧ ((¬ w32 (z11 % 4) = 0) → EV q 358 57 [some (.ref 367), some (vI z11), none, none, none, none, none, none, none, none] [] S12 r S')))) : EV q 358 0 [some (.ref 367), none, none, none, none, none, none, none, none, none] [] S r S' := by
  unfold EV
  refine ev_bk 3 (S' := (4, [some (.ref 367), none, none, none, none, none, none, none, none, none], [vI 43, vI 4, .ref 367], hp S, 0, 0)) rfl ?_
  obtain ⟨S1, e2, F⟩ := F
  refine mv_calv (as := [vI 4, vI 43]) (rest := []) e2 (sh_367) rfl rfl rfl ⟨rfl, rfl⟩ rfl rfl rfl rfl rfl ?_
  refine ev_bk 3 (S' := (12, [some (.ref 367), none, none, none, none, none, none, none, none, none], [vI 43, vI 34, .ref 367], hp S1, 0, 0)) rfl ?_
  obtain ⟨S3, e4, F⟩ := F
  refine mv_calv (as := [vI 34, vI 43]) (rest := []) e4 (sh_367) rfl rfl rfl ⟨rfl, rfl⟩ rfl rfl rfl rfl rfl ?_
  refine ev_bk 3 (S' := (20, [some (.ref 367), none, none, none, none, none, none, none, none, none], [vI 43, vI 77, .ref 367], hp S3, 0, 0)) rfl ?_
  obtain ⟨S5, e6, F⟩ := F
  refine mv_calv (as := [vI 77, vI 43]) (rest := []) e6 (sh_367) rfl rfl rfl ⟨rfl, rfl⟩ rfl rfl rfl rfl rfl ?_
  refine ev_bk 3 (S' := (28, [some (.ref 367), none, none, none, none, none, none, none, none, none], [vI 43, vI 24, .ref 367], hp S5, 0, 0)) rfl ?_
  obtain ⟨S7, e8, F⟩ := F
  refine mv_calv (as := [vI 24, vI 43]) (rest := []) e8 (sh_367) rfl rfl rfl ⟨rfl, rfl⟩ rfl rfl rfl rfl rfl ?_
  refine ev_bk 1 (S' := (32, [some (.ref 367), none, none, none, none, none, none, none, none, none], [.ref 367], hp S7, 0, 0)) rfl ?_
  obtain ⟨z11, S9, e10, F⟩ := F
  refine mv_calv (as := []) (rest := []) e10 (sh_367) rfl rfl rfl ⟨rfl, rfl⟩ rfl rfl rfl rfl rfl ?_
  refine ev_bk 2 (S' := (37, [some (.ref 367), some (vI z11), none, none, none, none, none, none, none, none], [.ref 367], hp S9, 0, 0)) rfl ?_
  obtain ⟨z14, S12, e13, F⟩ := F
  refine mv_calv (as := []) (rest := []) e13 (sh_367) rfl rfl rfl ⟨rfl, rfl⟩ rfl rfl rfl rfl rfl ?_
  refine mv_if 63 rfl rfl (fun c => ?_) (fun c => ?_)
  · have F := F.1 c
    exact F
  · have F := F.2 c
    refine ev_bk 2 (S' := (46, [some (.ref 367), some (vI z11), none, none, none, none, none, none, none, none], [vI 6, vI z11], hp S12, 0, 0)) rfl ?_
    refine mv_ishr 64 rfl rfl ?_
    refine ev_bk 1 (S' := (48, [some (.ref 367), some (vI z11), none, none, none, none, none, none, none, none], [vI 1, vI (w32 z11 / 64)], hp S12, 0, 0)) rfl ?_
    refine mv_icmp 57 rfl rfl (fun c => ?_) (fun c => ?_)
    · have F := F.1 c
      exact F
    · have F := F.2 c
      refine ev_bk 2 (S' := (53, [some (.ref 367), some (vI z11), none, none, none, none, none, none, none, none], [vI 3, vI z11], hp S12, 0, 0)) rfl ?_
      refine mv_iandm 4 2 (by decide) rfl rfl rfl ?_
      refine mv_if 63 rfl rfl (fun c => ?_) (fun c => ?_)
      · have F := F.1 c
        exact F
      · have F := F.2 c
        exact F
theorem vc_MD_openFrame_57 {q : Nat × (Nat → Int32)} {S S' : ms} {r : Option Value} (x1 : Int)
    (F : ∃ (S1 : ms), EV q 337 0 [some (.ref 367), some (vI 44)] [] S none S1 ∧ EV q 358 63 [some (.ref 367), some (vI x1), none, none, none, none, none, none, none, none] [] S1 r S') : EV q 358 57 [some (.ref 367), some (vI x1), none, none, none, none, none, none, none, none] [] S r S' := by
  unfold EV
  refine ev_bk 2 (S' := (60, [some (.ref 367), some (vI x1), none, none, none, none, none, none, none, none], [vI 44, .ref 367], hp S, 0, 0)) rfl ?_
  obtain ⟨S1, e2, F⟩ := F
  refine mv_calv (as := [vI 44]) (rest := []) e2 (sh_367) rfl rfl rfl ⟨rfl, rfl⟩ rfl rfl rfl rfl rfl ?_
  exact F
theorem vc_MD_openFrame_63 {q : Nat × (Nat → Int32)} {S S' : ms} {r : Option Value} (x1 : Int)
    (F : ∃ (z3 : Int) (S1 : ms), EV q 334 0 [some (.ref 367)] [] S (some (vI z3)) S1 ∧ ∃ (z6 : Int) (S4 : ms), EV q 333 0 [some (.ref 367)] [] S1 (some (vI z6)) S4 ∧ ((w32 z6 = 0) → EV q 358 96 [some (.ref 367), some (vI x1), some (vI z3), none, none, none, none, none, none, none] [] S4 r S') ∧ ((¬ w32 z6 = 0) → ((¬ w32 (bA z3 143) = 0) → EV q 358 90 [some (.ref 367), some (vI x1), some (vI z3), none, none, none, none, none, none, none] [] S4 r S') ∧ ((¬ (¬ w32 (bA z3 143) = 0)) → ((4 ≤ w32 (w32 z3 / 16)) → EV q 358 96 [some (.ref 367), some (vI x1), some (vI z3), none, none, none, none, none, none, none] [] S4 r S') ∧ ((¬ 4 ≤ w32 (w32 z3 / 16)) → EV q 358 90 [some (.ref 367), some (vI x1), some (vI z3), none, none, none, none, none, none, none] [] S4 r S')))) : EV q 358 63 [some (.ref 367), some (vI x1), none, none, none, none, none, none, none, none] [] S r S' := by
  unfold EV
  refine ev_bk 1 (S' := (64, [some (.ref 367), some (vI x1), none, none, none, none, none, none, none, none], [.ref 367], hp S, 0, 0)) rfl ?_
  obtain ⟨z3, S1, e2, F⟩ := F
  refine mv_calv (as := []) (rest := []) e2 (sh_367) rfl rfl rfl ⟨rfl, rfl⟩ rfl rfl rfl rfl rfl ?_
  refine ev_bk 2 (S' := (69, [some (.ref 367), some (vI x1), some (vI z3), none, none, none, none, none, none, none], [.ref 367], hp S1, 0, 0)) rfl ?_
  obtain ⟨z6, S4, e5, F⟩ := F
  refine mv_calv (as := []) (rest := []) e5 (sh_367) rfl rfl rfl ⟨rfl, rfl⟩ rfl rfl rfl rfl rfl ?_
  refine mv_if 96 rfl rfl (fun c => ?_) (fun c => ?_)
  · have F := F.1 c
    exact F
  · have F := F.2 c
    refine ev_bk 2 (S' := (79, [some (.ref 367), some (vI x1), some (vI z3), none, none, none, none, none, none, none], [vI 143, vI z3], hp S4, 0, 0)) rfl ?_
    refine mv_iand rfl ?_
    refine mv_if 90 rfl rfl (fun c => ?_) (fun c => ?_)
    · have F := F.1 c
      exact F
    · have F := F.2 c
      refine ev_bk 2 (S' := (85, [some (.ref 367), some (vI x1), some (vI z3), none, none, none, none, none, none, none], [vI 4, vI z3], hp S4, 0, 0)) rfl ?_
      refine mv_ishr 16 rfl rfl ?_
      refine ev_bk 1 (S' := (87, [some (.ref 367), some (vI x1), some (vI z3), none, none, none, none, none, none, none], [vI 4, vI (w32 z3 / 16)], hp S4, 0, 0)) rfl ?_
      refine mv_icmp 96 rfl rfl (fun c => ?_) (fun c => ?_)
      · have F := F.1 c
        exact F
      · have F := F.2 c
        exact F
theorem vc_MD_openFrame_90 {q : Nat × (Nat → Int32)} {S S' : ms} {r : Option Value} (x1 x2 : Int)
    (F : ∃ (S1 : ms), EV q 337 0 [some (.ref 367), some (vI 44)] [] S none S1 ∧ EV q 358 96 [some (.ref 367), some (vI x1), some (vI x2), none, none, none, none, none, none, none] [] S1 r S') : EV q 358 90 [some (.ref 367), some (vI x1), some (vI x2), none, none, none, none, none, none, none] [] S r S' := by
  unfold EV
  refine ev_bk 2 (S' := (93, [some (.ref 367), some (vI x1), some (vI x2), none, none, none, none, none, none, none], [vI 44, .ref 367], hp S, 0, 0)) rfl ?_
  obtain ⟨S1, e2, F⟩ := F
  refine mv_calv (as := [vI 44]) (rest := []) e2 (sh_367) rfl rfl rfl ⟨rfl, rfl⟩ rfl rfl rfl rfl rfl ?_
  exact F
theorem vc_MD_openFrame_96 {q : Nat × (Nat → Int32)} {S S' : ms} {r : Option Value} (x1 x2 : Int)
    (F : ((w32 (bA x1 8) = 0) → EV q 358 113 [some (.ref 367), some (vI x1), some (vI x2), none, none, none, none, none, none, none] [vL 0] S r S') ∧ ((¬ w32 (bA x1 8) = 0) → ∃ (z3 : Int) (S1 : ms), EV q 345 0 [some (.ref 367), some (vI 8), none, none, none] [] S (some (vL z3)) S1 ∧ EV q 358 113 [some (.ref 367), some (vI x1), some (vI x2), none, none, none, none, none, none, none] [vL z3] S1 r S')) : EV q 358 96 [some (.ref 367), some (vI x1), some (vI x2), none, none, none, none, none, none, none] [] S r S' := by
  unfold EV
  refine ev_bk 2 (S' := (99, [some (.ref 367), some (vI x1), some (vI x2), none, none, none, none, none, none, none], [vI 8, vI x1], hp S, 0, 0)) rfl ?_
  refine mv_iand rfl ?_
  refine mv_if 112 rfl rfl (fun c => ?_) (fun c => ?_)
  · have F := F.1 c
    refine ev_bk 1 (S' := (113, [some (.ref 367), some (vI x1), some (vI x2), none, none, none, none, none, none, none], [vL 0], hp S, 0, 0)) rfl ?_
    exact F
  · have F := F.2 c
    refine ev_bk 2 (S' := (106, [some (.ref 367), some (vI x1), some (vI x2), none, none, none, none, none, none, none], [vI 8, .ref 367], hp S, 0, 0)) rfl ?_
    obtain ⟨z3, S1, e2, F⟩ := F
    refine mv_calv (as := [vI 8]) (rest := []) e2 (sh_367) rfl rfl rfl ⟨rfl, rfl⟩ rfl rfl rfl rfl rfl ?_
    refine mv_goto 113 rfl rfl ?_
    exact F
theorem vc_MD_openFrame_113 {q : Nat × (Nat → Int32)} {S S' : ms} {r : Option Value} (x1 x2 y0 : Int)
    (F : ∃ (z3 : Int) (S1 : ms), EV q 334 0 [some (.ref 367)] [] S (some (vI z3)) S1 ∧ ∃ (z6 : Int) (S4 : ms), EV q 333 0 [some (.ref 367)] [] S1 (some (vI z6)) S4 ∧ ((w32 z6 = 0) → EV q 358 163 [some (.ref 367), some (vI x1), some (vI x2), some (vL y0), none, some (vI (S.1 367 16)), some (vI z3), none, none, none] [] S4 r S') ∧ ((¬ w32 z6 = 0) → ∃ (z9 : Int) (S7 : ms), EV q 266 0 [some (.ref 368), some (vI 4), some (vI ((S.1 367 16) - 4)), none, none, none, none, none, none] [] S4 (some (vI z9)) S7 ∧ ((w32 z3 = w32 ((w32 z9 / 256) % 256)) → EV q 358 163 [some (.ref 367), some (vI x1), some (vI x2), some (vL y0), none, some (vI (S.1 367 16)), some (vI z3), none, none, none] [] S7 r S') ∧ ((¬ w32 z3 = w32 ((w32 z9 / 256) % 256)) → ∃ (S10 : ms), EV q 337 0 [some (.ref 367), some (vI 45)] [] S7 none S10 ∧ EV q 358 163 [some (.ref 367), some (vI x1), some (vI x2), some (vL y0), none, some (vI (S.1 367 16)), some (vI z3), none, none, none] [] S10 r S'))) : EV q 358 113 [some (.ref 367), some (vI x1), some (vI x2), none, none, none, none, none, none, none] [vL y0] S r S' := by
  unfold EV
  refine ev_bk 2 (S' := (115, [some (.ref 367), some (vI x1), some (vI x2), some (vL y0), none, none, none, none, none, none], [.ref 367], hp S, 0, 0)) rfl ?_
  refine mv_gfI rfl rfl (sh_367) (by decide) rfl ?_
  refine ev_bk 2 (S' := (121, [some (.ref 367), some (vI x1), some (vI x2), some (vL y0), none, some (vI (S.1 367 16)), none, none, none, none], [.ref 367], hp S, 0, 0)) rfl ?_
  obtain ⟨z3, S1, e2, F⟩ := F
  refine mv_calv (as := []) (rest := []) e2 (sh_367) rfl rfl rfl ⟨rfl, rfl⟩ rfl rfl rfl rfl rfl ?_
  refine ev_bk 2 (S' := (127, [some (.ref 367), some (vI x1), some (vI x2), some (vL y0), none, some (vI (S.1 367 16)), some (vI z3), none, none, none], [.ref 367], hp S1, 0, 0)) rfl ?_
  obtain ⟨z6, S4, e5, F⟩ := F
  refine mv_calv (as := []) (rest := []) e5 (sh_367) rfl rfl rfl ⟨rfl, rfl⟩ rfl rfl rfl rfl rfl ?_
  refine mv_if 163 rfl rfl (fun c => ?_) (fun c => ?_)
  · have F := F.1 c
    exact F
  · have F := F.2 c
    refine ev_bk 2 (S' := (136, [some (.ref 367), some (vI x1), some (vI x2), some (vL y0), none, some (vI (S.1 367 16)), some (vI z3), none, none, none], [.ref 367, vI z3], hp S4, 0, 0)) rfl ?_
    refine mv_gfR rfl rfl (sh_367) (by decide) rfl ?_
    refine ev_bk 3 (S' := (143, [some (.ref 367), some (vI x1), some (vI x2), some (vL y0), none, some (vI (S.1 367 16)), some (vI z3), none, none, none], [vI 4, vI (S.1 367 16), vI 4, .ref 368, vI z3], hp S4, 0, 0)) rfl ?_
    refine mv_isub rfl ?_
    obtain ⟨z9, S7, e8, F⟩ := F
    refine mv_cals (as := [.ref 368, vI 4, vI ((S.1 367 16) - 4)]) (rest := [vI z3]) e8 rfl rfl rfl ⟨rfl, rfl, rfl⟩ rfl rfl rfl rfl ?_
    refine ev_bk 1 (S' := (149, [some (.ref 367), some (vI x1), some (vI x2), some (vL y0), none, some (vI (S.1 367 16)), some (vI z3), none, none, none], [vI 8, vI z9, vI z3], hp S7, 0, 0)) rfl ?_
    refine mv_ishr 256 rfl rfl ?_
    refine ev_bk 1 (S' := (153, [some (.ref 367), some (vI x1), some (vI x2), some (vL y0), none, some (vI (S.1 367 16)), some (vI z3), none, none, none], [vI 255, vI (w32 z9 / 256), vI z3], hp S7, 0, 0)) rfl ?_
    refine mv_iandm 256 8 (by decide) rfl rfl rfl ?_
    refine mv_icmp 163 rfl rfl (fun c => ?_) (fun c => ?_)
    · have F := F.1 c
      exact F
    · have F := F.2 c
      refine ev_bk 2 (S' := (160, [some (.ref 367), some (vI x1), some (vI x2), some (vL y0), none, some (vI (S.1 367 16)), some (vI z3), none, none, none], [vI 45, .ref 367], hp S7, 0, 0)) rfl ?_
      obtain ⟨S10, e11, F⟩ := F
      refine mv_calv (as := [vI 45]) (rest := []) e11 (sh_367) rfl rfl rfl ⟨rfl, rfl⟩ rfl rfl rfl rfl rfl ?_
      exact F
theorem vc_MD_openFrame_163 {q : Nat × (Nat → Int32)} {S S' : ms} {r : Option Value} (x1 x2 x3 x5 x6 : Int)
    (F : EV q 358 166 [some (.ref 367), some (vI x1), some (vI x2), some (vL x3), none, some (vI x5), some (vI x6), some (vI 1), none, none] [] S r S') : EV q 358 163 [some (.ref 367), some (vI x1), some (vI x2), some (vL x3), none, some (vI x5), some (vI x6), none, none, none] [] S r S' := by
  unfold EV
  refine ev_bk 2 (S' := (166, [some (.ref 367), some (vI x1), some (vI x2), some (vL x3), none, some (vI x5), some (vI x6), some (vI 1), none, none], [], hp S, 0, 0)) rfl ?_
  exact F
theorem vc_MD_openFrame_166 {q : Nat × (Nat → Int32)} {S S' : ms} {r : Option Value} (x1 x2 x3 x5 x6 x7 : Int)
    (F : ((w32 x7 = 0) → EV q 358 221 [some (.ref 367), some (vI x1), some (vI x2), some (vL x3), none, some (vI x5), some (vI x6), some (vI x7), none, none] [] S r S') ∧ ((¬ w32 x7 = 0) → ∃ (z3 : Int) (S1 : ms), EV q 333 0 [some (.ref 367)] [] S (some (vI z3)) S1 ∧ ((w32 z3 = 0) → EV q 358 221 [some (.ref 367), some (vI x1), some (vI x2), some (vL x3), none, some (vI x5), some (vI x6), some (vI x7), none, none] [] S1 r S') ∧ ((¬ w32 z3 = 0) → ∃ (z6 : Int) (S4 : ms), EV q 345 0 [some (.ref 367), some (vI 4), none, none, none] [] S1 (some (vL z6)) S4 ∧ ((w64 z6 = w64 0) → EV q 358 197 [some (.ref 367), some (vI x1), some (vI x2), some (vL x3), none, some (vI x5), some (vI x6), some (vI x7), some (vL z6), none] [vI 0] S4 r S') ∧ ((¬ w64 z6 = w64 0) → EV q 358 197 [some (.ref 367), some (vI x1), some (vI x2), some (vL x3), none, some (vI x5), some (vI x6), some (vI x7), some (vL z6), none] [vI 1] S4 r S')))) : EV q 358 166 [some (.ref 367), some (vI x1), some (vI x2), some (vL x3), none, some (vI x5), some (vI x6), some (vI x7), none, none] [] S r S' := by
  unfold EV
  refine ev_bk 1 (S' := (168, [some (.ref 367), some (vI x1), some (vI x2), some (vL x3), none, some (vI x5), some (vI x6), some (vI x7), none, none], [vI x7], hp S, 0, 0)) rfl ?_
  refine mv_if 221 rfl rfl (fun c => ?_) (fun c => ?_)
  · have F := F.1 c
    exact F
  · have F := F.2 c
    refine ev_bk 1 (S' := (172, [some (.ref 367), some (vI x1), some (vI x2), some (vL x3), none, some (vI x5), some (vI x6), some (vI x7), none, none], [.ref 367], hp S, 0, 0)) rfl ?_
    obtain ⟨z3, S1, e2, F⟩ := F
    refine mv_calv (as := []) (rest := []) e2 (sh_367) rfl rfl rfl ⟨rfl, rfl⟩ rfl rfl rfl rfl rfl ?_
    refine mv_if 221 rfl rfl (fun c => ?_) (fun c => ?_)
    · have F := F.1 c
      exact F
    · have F := F.2 c
      refine ev_bk 2 (S' := (180, [some (.ref 367), some (vI x1), some (vI x2), some (vL x3), none, some (vI x5), some (vI x6), some (vI x7), none, none], [vI 4, .ref 367], hp S1, 0, 0)) rfl ?_
      obtain ⟨z6, S4, e5, F⟩ := F
      refine mv_calv (as := [vI 4]) (rest := []) e5 (sh_367) rfl rfl rfl ⟨rfl, rfl⟩ rfl rfl rfl rfl rfl ?_
      refine ev_bk 3 (S' := (188, [some (.ref 367), some (vI x1), some (vI x2), some (vL x3), none, some (vI x5), some (vI x6), some (vI x7), some (vL z6), none], [vL 0, vL z6], hp S4, 0, 0)) rfl ?_
      refine mv_lif 196 rfl rfl rfl (fun c => ?_) (fun c => ?_)
      · have F := F.1 c
        refine ev_bk 1 (S' := (197, [some (.ref 367), some (vI x1), some (vI x2), some (vL x3), none, some (vI x5), some (vI x6), some (vI x7), some (vL z6), none], [vI 0], hp S4, 0, 0)) rfl ?_
        exact F
      · have F := F.2 c
        refine ev_bk 1 (S' := (193, [some (.ref 367), some (vI x1), some (vI x2), some (vL x3), none, some (vI x5), some (vI x6), some (vI x7), some (vL z6), none], [vI 1], hp S4, 0, 0)) rfl ?_
        refine mv_goto 197 rfl rfl ?_
        exact F
theorem vc_MD_openFrame_197 {q : Nat × (Nat → Int32)} {S S' : ms} {r : Option Value} (x1 x2 x3 x5 x6 x7 x8 y0 : Int)
    (F : ((w32 y0 = 0) → EV q 358 218 [some (.ref 367), some (vI x1), some (vI x2), some (vL x3), none, some (vI x5), some (vI x6), some (vI y0), some (vL x8), none] [] S r S') ∧ ((¬ w32 y0 = 0) → ∃ (z3 : Int) (S1 : ms), EV q 333 0 [some (.ref 367)] [] S (some (vI z3)) S1 ∧ ((w32 z3 = 0) → EV q 358 218 [some (.ref 367), some (vI x1), some (vI x2), some (vL x3), none, some (vI x5), some (vI x6), some (vI y0), some (vL x8), none] [] S1 r S') ∧ ((¬ w32 z3 = 0) → ∃ (S4 : ms), EV q 359 0 [some (.ref 367), some (vL x8), none, some (vI x1), none, none, none, none, none, none, none, none] [] S1 none S4 ∧ EV q 358 218 [some (.ref 367), some (vI x1), some (vI x2), some (vL x3), none, some (vI x5), some (vI x6), some (vI y0), some (vL x8), none] [] S4 r S'))) : EV q 358 197 [some (.ref 367), some (vI x1), some (vI x2), some (vL x3), none, some (vI x5), some (vI x6), some (vI x7), some (vL x8), none] [vI y0] S r S' := by
  unfold EV
  refine ev_bk 2 (S' := (201, [some (.ref 367), some (vI x1), some (vI x2), some (vL x3), none, some (vI x5), some (vI x6), some (vI y0), some (vL x8), none], [vI y0], hp S, 0, 0)) rfl ?_
  refine mv_if 218 rfl rfl (fun c => ?_) (fun c => ?_)
  · have F := F.1 c
    exact F
  · have F := F.2 c
    refine ev_bk 1 (S' := (205, [some (.ref 367), some (vI x1), some (vI x2), some (vL x3), none, some (vI x5), some (vI x6), some (vI y0), some (vL x8), none], [.ref 367], hp S, 0, 0)) rfl ?_
    obtain ⟨z3, S1, e2, F⟩ := F
    refine mv_calv (as := []) (rest := []) e2 (sh_367) rfl rfl rfl ⟨rfl, rfl⟩ rfl rfl rfl rfl rfl ?_
    refine mv_if 218 rfl rfl (fun c => ?_) (fun c => ?_)
    · have F := F.1 c
      exact F
    · have F := F.2 c
      refine ev_bk 3 (S' := (215, [some (.ref 367), some (vI x1), some (vI x2), some (vL x3), none, some (vI x5), some (vI x6), some (vI y0), some (vL x8), none], [vI x1, vL x8, .ref 367], hp S1, 0, 0)) rfl ?_
      obtain ⟨S4, e5, F⟩ := F
      refine mv_calv (as := [vL x8, vI x1]) (rest := []) e5 (sh_367) rfl rfl rfl ⟨rfl, rfl⟩ rfl rfl rfl rfl rfl ?_
      exact F
theorem vc_MD_openFrame_218 {q : Nat × (Nat → Int32)} {S S' : ms} {r : Option Value} (x1 x2 x3 x5 x6 x7 x8 : Int)
    (F : EV q 358 166 [some (.ref 367), some (vI x1), some (vI x2), some (vL x3), none, some (vI x5), some (vI x6), some (vI x7), none, none] [] S r S') : EV q 358 218 [some (.ref 367), some (vI x1), some (vI x2), some (vL x3), none, some (vI x5), some (vI x6), some (vI x7), some (vL x8), none] [] S r S' := by
  unfold EV
  refine mv_goto 166 rfl rfl ?_
  exact ev_wk (le_s (le_s (le_s (le_s (le_s (le_s (le_s (le_s (le_n (le_s le_0)))))))))) F
theorem vc_MD_openFrame_221 {q : Nat × (Nat → Int32)} {S S' : ms} {r : Option Value} (x1 x2 x3 x5 x6 x7 : Int)
    (F : ((w32 (bA x1 4) = 0) → EV q 358 270 [some (.ref 367), some (vI x1), some (vI x2), some (vL x3), none, some (vI x5), some (vI x6), some (vI x7), none, none] [] S r S') ∧ ((¬ w32 (bA x1 4) = 0) → ∃ (z3 : Int) (S1 : ms), EV q 345 0 [some (.ref 367), some (vI 4), none, none, none] [] S (some (vL z3)) S1 ∧ ∃ (z6 : Int) (S4 : ms), EV q 333 0 [some (.ref 367)] [] S1 (some (vI z6)) S4 ∧ ((w32 z6 = 0) → EV q 358 270 [some (.ref 367), some (vI x1), some (vI x2), some (vL x3), none, some (vI x5), some (vI x6), some (vI x7), none, none] [] S4 r S') ∧ ((¬ w32 z6 = 0) → ∃ (z9 : Int) (S7 : ms), EV q 266 0 [some (.ref 375), some (vI 0), some (vI (S4.1 367 22)), none, none, none, none, none, none] [] S4 (some (vI z9)) S7 ∧ ((w64 z3 = w64 ((w32 z9) % 4294967296)) → EV q 358 270 [some (.ref 367), some (vI x1), some (vI x2), some (vL x3), none, some (vI x5), some (vI x6), some (vI x7), none, none] [] S7 r S') ∧ ((¬ w64 z3 = w64 ((w32 z9) % 4294967296)) → ∃ (S10 : ms), EV q 337 0 [some (.ref 367), some (vI 47)] [] S7 none S10 ∧ EV q 358 270 [some (.ref 367), some (vI x1), some (vI x2), some (vL x3), none, some (vI x5), some (vI x6), some (vI x7), none, none] [] S10 r S')))) : EV q 358 221 [some (.ref 367), some (vI x1), some (vI x2), some (vL x3), none, some (vI x5), some (vI x6), some (vI x7), none, none] [] S r S' := by
  unfold EV
  refine ev_bk 2 (S' := (223, [some (.ref 367), some (vI x1), some (vI x2), some (vL x3), none, some (vI x5), some (vI x6), some (vI x7), none, none], [vI 4, vI x1], hp S, 0, 0)) rfl ?_
  refine mv_iand rfl ?_
  refine mv_if 270 rfl rfl (fun c => ?_) (fun c => ?_)
  · have F := F.1 c
    exact F
  · have F := F.2 c
    refine ev_bk 2 (S' := (229, [some (.ref 367), some (vI x1), some (vI x2), some (vL x3), none, some (vI x5), some (vI x6), some (vI x7), none, none], [vI 4, .ref 367], hp S, 0, 0)) rfl ?_
    obtain ⟨z3, S1, e2, F⟩ := F
    refine mv_calv (as := [vI 4]) (rest := []) e2 (sh_367) rfl rfl rfl ⟨rfl, rfl⟩ rfl rfl rfl rfl rfl ?_
    refine ev_bk 2 (S' := (235, [some (.ref 367), some (vI x1), some (vI x2), some (vL x3), none, some (vI x5), some (vI x6), some (vI x7), some (vL z3), none], [.ref 367], hp S1, 0, 0)) rfl ?_
    obtain ⟨z6, S4, e5, F⟩ := F
    refine mv_calv (as := []) (rest := []) e5 (sh_367) rfl rfl rfl ⟨rfl, rfl⟩ rfl rfl rfl rfl rfl ?_
    refine mv_if 270 rfl rfl (fun c => ?_) (fun c => ?_)
    · have F := F.1 c
      exact ev_wk (le_s (le_s (le_s (le_s (le_s (le_s (le_s (le_s (le_n (le_s le_0)))))))))) F
    · have F := F.2 c
      refine ev_bk 2 (S' := (244, [some (.ref 367), some (vI x1), some (vI x2), some (vL x3), none, some (vI x5), some (vI x6), some (vI x7), some (vL z3), none], [.ref 367, vL z3], hp S4, 0, 0)) rfl ?_
      refine mv_gfR rfl rfl (sh_367) (by decide) rfl ?_
      refine ev_bk 2 (S' := (249, [some (.ref 367), some (vI x1), some (vI x2), some (vL x3), none, some (vI x5), some (vI x6), some (vI x7), some (vL z3), none], [.ref 367, vI 0, .ref 375, vL z3], hp S4, 0, 0)) rfl ?_
      refine mv_gfI rfl rfl (sh_367) (by decide) rfl ?_
      obtain ⟨z9, S7, e8, F⟩ := F
      refine mv_cals (as := [.ref 375, vI 0, vI (S4.1 367 22)]) (rest := [vL z3]) e8 rfl rfl rfl ⟨rfl, rfl, rfl⟩ rfl rfl rfl rfl ?_
      refine mv_i2l rfl ?_
      refine ev_bk 1 (S' := (259, [some (.ref 367), some (vI x1), some (vI x2), some (vL x3), none, some (vI x5), some (vI x6), some (vI x7), some (vL z3), none], [vL 4294967295, vL (w32 z9), vL z3], hp S7, 0, 0)) rfl ?_
      refine mv_landm 4294967296 32 (by decide) rfl rfl rfl ?_
      refine mv_lif 270 rfl rfl rfl (fun c => ?_) (fun c => ?_)
      · have F := F.1 c
        exact ev_wk (le_s (le_s (le_s (le_s (le_s (le_s (le_s (le_s (le_n (le_s le_0)))))))))) F
      · have F := F.2 c
        refine ev_bk 2 (S' := (267, [some (.ref 367), some (vI x1), some (vI x2), some (vL x3), none, some (vI x5), some (vI x6), some (vI x7), some (vL z3), none], [vI 47, .ref 367], hp S7, 0, 0)) rfl ?_
        obtain ⟨S10, e11, F⟩ := F
        refine mv_calv (as := [vI 47]) (rest := []) e11 (sh_367) rfl rfl rfl ⟨rfl, rfl⟩ rfl rfl rfl rfl rfl ?_
        exact ev_wk (le_s (le_s (le_s (le_s (le_s (le_s (le_s (le_s (le_n (le_s le_0)))))))))) F
theorem vc_MD_openFrame_270 {q : Nat × (Nat → Int32)} {S S' : ms} {r : Option Value} (x1 x2 x3 x5 x6 x7 : Int)
    (F : ∃ (z3 : Int) (S1 : ms), EV q 333 0 [some (.ref 367)] [] S (some (vI z3)) S1 ∧ ((w32 z3 = 0) → EV q 358 300 [some (.ref 367), some (vI x1), some (vI x2), some (vL x3), none, some (vI x5), some (vI x6), some (vI x7), none, none] [] S1 r S') ∧ ((¬ w32 z3 = 0) → ((w32 (bA x1 8) = 0) → EV q 358 300 [some (.ref 367), some (vI x1), some (vI x2), some (vL x3), none, some (vI x5), some (vI x6), some (vI x7), none, none] [] S1 r S') ∧ ((¬ w32 (bA x1 8) = 0) → ((w64 x3 = w64 (w32 (S1.1 367 22))) → EV q 358 300 [some (.ref 367), some (vI x1), some (vI x2), some (vL x3), none, some (vI x5), some (vI x6), some (vI x7), none, none] [] S1 r S') ∧ ((¬ w64 x3 = w64 (w32 (S1.1 367 22))) → ∃ (S4 : ms), EV q 337 0 [some (.ref 367), some (vI 48)] [] S1 none S4 ∧ EV q 358 300 [some (.ref 367), some (vI x1), some (vI x2), some (vL x3), none, some (vI x5), some (vI x6), some (vI x7), none, none] [] S4 r S')))) : EV q 358 270 [some (.ref 367), some (vI x1), some (vI x2), some (vL x3), none, some (vI x5), some (vI x6), some (vI x7), none, none] [] S r S' := by
  unfold EV
  refine ev_bk 1 (S' := (271, [some (.ref 367), some (vI x1), some (vI x2), some (vL x3), none, some (vI x5), some (vI x6), some (vI x7), none, none], [.ref 367], hp S, 0, 0)) rfl ?_
  obtain ⟨z3, S1, e2, F⟩ := F
  refine mv_calv (as := []) (rest := []) e2 (sh_367) rfl rfl rfl ⟨rfl, rfl⟩ rfl rfl rfl rfl rfl ?_
  refine mv_if 300 rfl rfl (fun c => ?_) (fun c => ?_)
  · have F := F.1 c
    exact F
  · have F := F.2 c
    refine ev_bk 2 (S' := (280, [some (.ref 367), some (vI x1), some (vI x2), some (vL x3), none, some (vI x5), some (vI x6), some (vI x7), none, none], [vI 8, vI x1], hp S1, 0, 0)) rfl ?_
    refine mv_iand rfl ?_
    refine mv_if 300 rfl rfl (fun c => ?_) (fun c => ?_)
    · have F := F.1 c
      exact F
    · have F := F.2 c
      refine ev_bk 2 (S' := (286, [some (.ref 367), some (vI x1), some (vI x2), some (vL x3), none, some (vI x5), some (vI x6), some (vI x7), none, none], [.ref 367, vL x3], hp S1, 0, 0)) rfl ?_
      refine mv_gfI rfl rfl (sh_367) (by decide) rfl ?_
      refine mv_i2l rfl ?_
      refine mv_lif 300 rfl rfl rfl (fun c => ?_) (fun c => ?_)
      · have F := F.1 c
        exact F
      · have F := F.2 c
        refine ev_bk 2 (S' := (297, [some (.ref 367), some (vI x1), some (vI x2), some (vL x3), none, some (vI x5), some (vI x6), some (vI x7), none, none], [vI 48, .ref 367], hp S1, 0, 0)) rfl ?_
        obtain ⟨S4, e5, F⟩ := F
        refine mv_calv (as := [vI 48]) (rest := []) e5 (sh_367) rfl rfl rfl ⟨rfl, rfl⟩ rfl rfl rfl rfl rfl ?_
        exact F
theorem vc_MD_openFrame_300 {q : Nat × (Nat → Int32)} {S S' : ms} {r : Option Value} (x1 x2 x3 x5 x6 x7 : Int)
    (F : ∃ (S1 : ms), EV q 341 0 [some (.ref 367)] [] S none S1 ∧ r = none ∧ S' = S1) : EV q 358 300 [some (.ref 367), some (vI x1), some (vI x2), some (vL x3), none, some (vI x5), some (vI x6), some (vI x7), none, none] [] S r S' := by
  unfold EV
  refine ev_bk 1 (S' := (301, [some (.ref 367), some (vI x1), some (vI x2), some (vL x3), none, some (vI x5), some (vI x6), some (vI x7), none, none], [.ref 367], hp S, 0, 0)) rfl ?_
  obtain ⟨S1, e2, F⟩ := F
  refine mv_calv (as := []) (rest := []) e2 (sh_367) rfl rfl rfl ⟨rfl, rfl⟩ rfl rfl rfl rfl rfl ?_
  obtain ⟨rfl, rfl⟩ := F
  exact ev_ret rfl rfl
theorem vc_MD_frameBlock {q : Nat × (Nat → Int32)} {S S' : ms} {r : Option Value} (x1 x3 : Int)
    (F : ((w64 x1 < w64 2147483648) → EV q 359 13 [some (.ref 367), some (vL x1), none, some (vI x3), none, none, none, none, none, none, none, none] [vI 0] S r S') ∧ ((¬ w64 x1 < w64 2147483648) → EV q 359 13 [some (.ref 367), some (vL x1), none, some (vI x3), none, none, none, none, none, none, none, none] [vI 1] S r S')) : EV q 359 0 [some (.ref 367), some (vL x1), none, some (vI x3), none, none, none, none, none, none, none, none] [] S r S' := by
  unfold EV
  refine ev_bk 2 (S' := (4, [some (.ref 367), some (vL x1), none, some (vI x3), none, none, none, none, none, none, none, none], [vL 2147483648, vL x1], hp S, 0, 0)) rfl ?_
  refine mv_lif 12 rfl rfl rfl (fun c => ?_) (fun c => ?_)
  · have F := F.1 c
    refine ev_bk 1 (S' := (13, [some (.ref 367), some (vL x1), none, some (vI x3), none, none, none, none, none, none, none, none], [vI 0], hp S, 0, 0)) rfl ?_
    exact F
  · have F := F.2 c
    refine ev_bk 1 (S' := (9, [some (.ref 367), some (vL x1), none, some (vI x3), none, none, none, none, none, none, none, none], [vI 1], hp S, 0, 0)) rfl ?_
    refine mv_goto 13 rfl rfl ?_
    exact F
theorem vc_MD_frameBlock_13 {q : Nat × (Nat → Int32)} {S S' : ms} {r : Option Value} (x1 x3 y0 : Int)
    (F : ((w32 y0 = 0) → EV q 359 29 [some (.ref 367), some (vL x1), none, some (vI x3), some (vI y0), none, none, none, none, none, none, none] [vL x1] S r S') ∧ ((¬ w32 y0 = 0) → EV q 359 29 [some (.ref 367), some (vL x1), none, some (vI x3), some (vI y0), none, none, none, none, none, none, none] [vL (x1 - 2147483648)] S r S')) : EV q 359 13 [some (.ref 367), some (vL x1), none, some (vI x3), none, none, none, none, none, none, none, none] [vI y0] S r S' := by
  unfold EV
  refine ev_bk 2 (S' := (17, [some (.ref 367), some (vL x1), none, some (vI x3), some (vI y0), none, none, none, none, none, none, none], [vI y0], hp S, 0, 0)) rfl ?_
  refine mv_if 28 rfl rfl (fun c => ?_) (fun c => ?_)
  · have F := F.1 c
    refine ev_bk 1 (S' := (29, [some (.ref 367), some (vL x1), none, some (vI x3), some (vI y0), none, none, none, none, none, none, none], [vL x1], hp S, 0, 0)) rfl ?_
    exact F
  · have F := F.2 c
    refine ev_bk 2 (S' := (24, [some (.ref 367), some (vL x1), none, some (vI x3), some (vI y0), none, none, none, none, none, none, none], [vL 2147483648, vL x1], hp S, 0, 0)) rfl ?_
    refine mv_lsub rfl ?_
    refine mv_goto 29 rfl rfl ?_
    exact F
theorem vc_MD_frameBlock_29 {q : Nat × (Nat → Int32)} {S S' : ms} {r : Option Value} (x1 x3 x4 y0 : Int)
    (F : ((w64 y0 = w64 0) → EV q 359 47 [some (.ref 367), some (vL x1), none, some (vI x3), some (vI x4), some (vL y0), none, none, none, none, none, none] [] S r S') ∧ ((¬ w64 y0 = w64 0) → ((w64 y0 ≤ w64 65536) → ((w32 (bA x3 16) = 0) → EV q 359 66 [some (.ref 367), some (vL x1), none, some (vI x3), some (vI x4), some (vL y0), none, none, none, none, none, none] [vI 0] S r S') ∧ ((¬ w32 (bA x3 16) = 0) → EV q 359 66 [some (.ref 367), some (vL x1), none, some (vI x3), some (vI x4), some (vL y0), none, none, none, none, none, none] [vI 4] S r S')) ∧ ((¬ w64 y0 ≤ w64 65536) → EV q 359 47 [some (.ref 367), some (vL x1), none, some (vI x3), some (vI x4), some (vL y0), none, none, none, none, none, none] [] S r S'))) : EV q 359 29 [some (.ref 367), some (vL x1), none, some (vI x3), some (vI x4), none, none, none, none, none, none, none] [vL y0] S r S' := by
  unfold EV
  refine ev_bk 3 (S' := (34, [some (.ref 367), some (vL x1), none, some (vI x3), some (vI x4), some (vL y0), none, none, none, none, none, none], [vL 0, vL y0], hp S, 0, 0)) rfl ?_
  refine mv_lif 47 rfl rfl rfl (fun c => ?_) (fun c => ?_)
  · have F := F.1 c
    exact F
  · have F := F.2 c
    refine ev_bk 2 (S' := (43, [some (.ref 367), some (vL x1), none, some (vI x3), some (vI x4), some (vL y0), none, none, none, none, none, none], [vL 65536, vL y0], hp S, 0, 0)) rfl ?_
    refine mv_lif 54 rfl rfl rfl (fun c => ?_) (fun c => ?_)
    · have F := F.1 c
      refine ev_bk 2 (S' := (57, [some (.ref 367), some (vL x1), none, some (vI x3), some (vI x4), some (vL y0), none, none, none, none, none, none], [vI 16, vI x3], hp S, 0, 0)) rfl ?_
      refine mv_iand rfl ?_
      refine mv_if 65 rfl rfl (fun c => ?_) (fun c => ?_)
      · have F := F.1 c
        refine ev_bk 1 (S' := (66, [some (.ref 367), some (vL x1), none, some (vI x3), some (vI x4), some (vL y0), none, none, none, none, none, none], [vI 0], hp S, 0, 0)) rfl ?_
        exact F
      · have F := F.2 c
        refine ev_bk 1 (S' := (62, [some (.ref 367), some (vL x1), none, some (vI x3), some (vI x4), some (vL y0), none, none, none, none, none, none], [vI 4], hp S, 0, 0)) rfl ?_
        refine mv_goto 66 rfl rfl ?_
        exact F
    · have F := F.2 c
      exact F
theorem vc_MD_frameBlock_47 {q : Nat × (Nat → Int32)} {S S' : ms} {r : Option Value} (x1 x3 x4 x5 : Int)
    (F : ∃ (S1 : ms), EV q 337 0 [some (.ref 367), some (vI 46)] [] S none S1 ∧ r = none ∧ S' = S1) : EV q 359 47 [some (.ref 367), some (vL x1), none, some (vI x3), some (vI x4), some (vL x5), none, none, none, none, none, none] [] S r S' := by
  unfold EV
  refine ev_bk 2 (S' := (50, [some (.ref 367), some (vL x1), none, some (vI x3), some (vI x4), some (vL x5), none, none, none, none, none, none], [vI 46, .ref 367], hp S, 0, 0)) rfl ?_
  obtain ⟨S1, e2, F⟩ := F
  refine mv_calv (as := [vI 46]) (rest := []) e2 (sh_367) rfl rfl rfl ⟨rfl, rfl⟩ rfl rfl rfl rfl rfl ?_
  obtain ⟨rfl, rfl⟩ := F
  exact ev_ret rfl rfl
theorem vc_MD_frameBlock_66 {q : Nat × (Nat → Int32)} {S S' : ms} {r : Option Value} (x1 x3 x4 x5 y0 : Int)
    (F : ((w64 (x5 + (w32 y0)) ≤ w64 (w32 ((S.1 367 15) - (S.1 367 16)))) → ((w32 y0 ≤ 0) → EV q 359 160 [some (.ref 367), some (vL x1), none, some (vI x3), some (vI x4), some (vL x5), none, some (vI y0), some (vI (S.1 367 16)), some (vI (S.1 367 16 + x5)), none, none] [] S r S') ∧ ((¬ w32 y0 ≤ 0) → ∀ S1 : ms, S1 = wI S 367 16 (S.1 367 16 + x5) → ∃ (z4 : Int) (S2 : ms), EV q 345 0 [some (.ref 367), some (vI 4), none, none, none] [] S1 (some (vL z4)) S2 ∧ ∃ (z7 : Int) (S5 : ms), EV q 266 0 [some (.ref 368), some (vI (S.1 367 16)), some (vI x5), none, none, none, none, none, none] [] S2 (some (vI z7)) S5 ∧ ((w64 z4 = w64 ((w32 z7) % 4294967296)) → EV q 359 160 [some (.ref 367), some (vL x1), none, some (vI x3), some (vI x4), some (vL x5), none, some (vI y0), some (vI (S.1 367 16)), some (vI (S.1 367 16 + x5)), none, none] [] S5 r S') ∧ ((¬ w64 z4 = w64 ((w32 z7) % 4294967296)) → ∃ (S8 : ms), EV q 337 0 [some (.ref 367), some (vI 47)] [] S5 none S8 ∧ r = none ∧ S' = S8))) ∧ ((¬ w64 (x5 + (w32 y0)) ≤ w64 (w32 ((S.1 367 15) - (S.1 367 16)))) → ∃ (S10 : ms), EV q 335 0 [some (.ref 367), some (vI 1), some (vI (S.1 367 15))] [] S none S10 ∧ r = none ∧ S' = S10)) : EV q 359 66 [some (.ref 367), some (vL x1), none, some (vI x3), some (vI x4), some (vL x5), none, none, none, none, none, none] [vI y0] S r S' := by
  unfold EV
  refine ev_bk 3 (S' := (72, [some (.ref 367), some (vL x1), none, some (vI x3), some (vI x4), some (vL x5), none, some (vI y0), none, none, none, none], [vI y0, vL x5], hp S, 0, 0)) rfl ?_
  refine mv_i2l rfl ?_
  refine mv_ladd rfl ?_
  refine ev_bk 1 (S' := (75, [some (.ref 367), some (vL x1), none, some (vI x3), some (vI x4), some (vL x5), none, some (vI y0), none, none, none, none], [.ref 367, vL (x5 + (w32 y0))], hp S, 0, 0)) rfl ?_
  refine mv_gfI rfl rfl (sh_367) (by decide) rfl ?_
  refine ev_bk 1 (S' := (79, [some (.ref 367), some (vL x1), none, some (vI x3), some (vI x4), some (vL x5), none, some (vI y0), none, none, none, none], [.ref 367, vI (S.1 367 15), vL (x5 + (w32 y0))], hp S, 0, 0)) rfl ?_
  refine mv_gfI rfl rfl (sh_367) (by decide) rfl ?_
  refine mv_isub rfl ?_
  refine mv_i2l rfl ?_
  refine mv_lif 98 rfl rfl rfl (fun c => ?_) (fun c => ?_)
  · have F := F.1 c
    refine ev_bk 1 (S' := (99, [some (.ref 367), some (vL x1), none, some (vI x3), some (vI x4), some (vL x5), none, some (vI y0), none, none, none, none], [.ref 367], hp S, 0, 0)) rfl ?_
    refine mv_gfI rfl rfl (sh_367) (by decide) rfl ?_
    refine ev_bk 3 (S' := (108, [some (.ref 367), some (vL x1), none, some (vI x3), some (vI x4), some (vL x5), none, some (vI y0), some (vI (S.1 367 16)), none, none, none], [vL x5, vI (S.1 367 16)], hp S, 0, 0)) rfl ?_
    refine mv_l2i rfl ?_
    refine mv_iadd rfl ?_
    refine ev_bk 2 (S' := (114, [some (.ref 367), some (vL x1), none, some (vI x3), some (vI x4), some (vL x5), none, some (vI y0), some (vI (S.1 367 16)), some (vI (S.1 367 16 + x5)), none, none], [vI y0], hp S, 0, 0)) rfl ?_
    refine mv_if 160 rfl rfl (fun c => ?_) (fun c => ?_)
    · have F := F.1 c
      exact F
    · have F := F.2 c
      refine ev_bk 2 (S' := (120, [some (.ref 367), some (vL x1), none, some (vI x3), some (vI x4), some (vL x5), none, some (vI y0), some (vI (S.1 367 16)), some (vI (S.1 367 16 + x5)), none, none], [vI (S.1 367 16 + x5), .ref 367], hp S, 0, 0)) rfl ?_
      refine mv_pfI rfl rfl (sh_367) (by decide) rfl rfl ?_
      have F := F _ rfl
      refine ev_bk 2 (S' := (125, [some (.ref 367), some (vL x1), none, some (vI x3), some (vI x4), some (vL x5), none, some (vI y0), some (vI (S.1 367 16)), some (vI (S.1 367 16 + x5)), none, none], [vI 4, .ref 367], hp (wI S 367 16 (S.1 367 16 + x5)), 0, 0)) rfl ?_
      obtain ⟨z4, S2, e3, F⟩ := F
      refine mv_calv (as := [vI 4]) (rest := []) e3 (sh_367) rfl rfl rfl ⟨rfl, rfl⟩ rfl rfl rfl rfl rfl ?_
      refine ev_bk 3 (S' := (133, [some (.ref 367), some (vL x1), none, some (vI x3), some (vI x4), some (vL x5), none, some (vI y0), some (vI (S.1 367 16)), some (vI (S.1 367 16 + x5)), some (vL z4), none], [.ref 367, vL z4], hp S2, 0, 0)) rfl ?_
      refine mv_gfR rfl rfl (sh_367) (by decide) rfl ?_
      refine ev_bk 2 (S' := (140, [some (.ref 367), some (vL x1), none, some (vI x3), some (vI x4), some (vL x5), none, some (vI y0), some (vI (S.1 367 16)), some (vI (S.1 367 16 + x5)), some (vL z4), none], [vL x5, vI (S.1 367 16), .ref 368, vL z4], hp S2, 0, 0)) rfl ?_
      refine mv_l2i rfl ?_
      obtain ⟨z7, S5, e6, F⟩ := F
      refine mv_cals (as := [.ref 368, vI (S.1 367 16), vI x5]) (rest := [vL z4]) e6 rfl rfl rfl ⟨rfl, rfl, rfl⟩ rfl rfl rfl rfl ?_
      refine mv_i2l rfl ?_
      refine ev_bk 1 (S' := (148, [some (.ref 367), some (vL x1), none, some (vI x3), some (vI x4), some (vL x5), none, some (vI y0), some (vI (S.1 367 16)), some (vI (S.1 367 16 + x5)), some (vL z4), none], [vL 4294967295, vL (w32 z7), vL z4], hp S5, 0, 0)) rfl ?_
      refine mv_landm 4294967296 32 (by decide) rfl rfl rfl ?_
      refine mv_lif 160 rfl rfl rfl (fun c => ?_) (fun c => ?_)
      · have F := F.1 c
        exact ev_wk (le_s (le_s (le_s (le_s (le_s (le_s (le_s (le_s (le_s (le_s (le_n (le_s le_0)))))))))))) F
      · have F := F.2 c
        refine ev_bk 2 (S' := (156, [some (.ref 367), some (vL x1), none, some (vI x3), some (vI x4), some (vL x5), none, some (vI y0), some (vI (S.1 367 16)), some (vI (S.1 367 16 + x5)), some (vL z4), none], [vI 47, .ref 367], hp S5, 0, 0)) rfl ?_
        obtain ⟨S8, e9, F⟩ := F
        refine mv_calv (as := [vI 47]) (rest := []) e9 (sh_367) rfl rfl rfl ⟨rfl, rfl⟩ rfl rfl rfl rfl rfl ?_
        obtain ⟨rfl, rfl⟩ := F
        exact ev_ret rfl rfl
  · have F := F.2 c
    refine ev_bk 3 (S' := (91, [some (.ref 367), some (vL x1), none, some (vI x3), some (vI x4), some (vL x5), none, some (vI y0), none, none, none, none], [.ref 367, vI 1, .ref 367], hp S, 0, 0)) rfl ?_
    refine mv_gfI rfl rfl (sh_367) (by decide) rfl ?_
    obtain ⟨S10, e11, F⟩ := F
    refine mv_calv (as := [vI 1, vI (S.1 367 15)]) (rest := []) e11 (sh_367) rfl rfl rfl ⟨rfl, rfl⟩ rfl rfl rfl rfl rfl ?_
    obtain ⟨rfl, rfl⟩ := F
    exact ev_ret rfl rfl
theorem vc_MD_frameBlock_160 {q : Nat × (Nat → Int32)} {S S' : ms} {r : Option Value} (x1 x3 x4 x5 x7 x8 x9 : Int)
    (F : ∀ S1 : ms, S1 = wI S 367 16 x8 → ∀ S2 : ms, S2 = wI S1 367 15 x9 → ((w32 x4 = 0) → ((w32 (bA x3 32) = 0) → EV q 359 233 [some (.ref 367), some (vL x1), none, some (vI x3), some (vI x4), some (vL x5), none, some (vI x7), some (vI x8), some (vI x9), some (vI (S.1 367 15)), none] [vI 0, vI (S2.1 367 22), .ref 367] S2 r S') ∧ ((¬ w32 (bA x3 32) = 0) → EV q 359 233 [some (.ref 367), some (vL x1), none, some (vI x3), some (vI x4), some (vL x5), none, some (vI x7), some (vI x8), some (vI x9), some (vI (S.1 367 15)), none] [vI 1, vI (S2.1 367 22), .ref 367] S2 r S')) ∧ ((¬ w32 x4 = 0) → EV q 359 183 [some (.ref 367), some (vL x1), none, some (vI x3), some (vI x4), some (vL x5), none, some (vI x7), some (vI x8), some (vI x9), some (vI (S.1 367 15)), none] [] S2 r S')) : EV q 359 160 [some (.ref 367), some (vL x1), none, some (vI x3), some (vI x4), some (vL x5), none, some (vI x7), some (vI x8), some (vI x9), none, none] [] S r S' := by
  unfold EV
  refine ev_bk 1 (S' := (161, [some (.ref 367), some (vL x1), none, some (vI x3), some (vI x4), some (vL x5), none, some (vI x7), some (vI x8), some (vI x9), none, none], [.ref 367], hp S, 0, 0)) rfl ?_
  refine mv_gfI rfl rfl (sh_367) (by decide) rfl ?_
  refine ev_bk 3 (S' := (169, [some (.ref 367), some (vL x1), none, some (vI x3), some (vI x4), some (vL x5), none, some (vI x7), some (vI x8), some (vI x9), some (vI (S.1 367 15)), none], [vI x8, .ref 367], hp S, 0, 0)) rfl ?_
  refine mv_pfI rfl rfl (sh_367) (by decide) rfl rfl ?_
  have F := F _ rfl
  refine ev_bk 2 (S' := (175, [some (.ref 367), some (vL x1), none, some (vI x3), some (vI x4), some (vL x5), none, some (vI x7), some (vI x8), some (vI x9), some (vI (S.1 367 15)), none], [vI x9, .ref 367], hp (wI S 367 16 x8), 0, 0)) rfl ?_
  refine mv_pfI rfl rfl (sh_367) (by decide) rfl rfl ?_
  have F := F _ rfl
  refine ev_bk 1 (S' := (180, [some (.ref 367), some (vL x1), none, some (vI x3), some (vI x4), some (vL x5), none, some (vI x7), some (vI x8), some (vI x9), some (vI (S.1 367 15)), none], [vI x4], hp (wI (wI S 367 16 x8) 367 15 x9), 0, 0)) rfl ?_
  refine mv_if 216 rfl rfl (fun c => ?_) (fun c => ?_)
  · have F := F.1 c
    refine ev_bk 2 (S' := (218, [some (.ref 367), some (vL x1), none, some (vI x3), some (vI x4), some (vL x5), none, some (vI x7), some (vI x8), some (vI x9), some (vI (S.1 367 15)), none], [.ref 367, .ref 367], hp (wI (wI S 367 16 x8) 367 15 x9), 0, 0)) rfl ?_
    refine mv_gfI rfl rfl (sh_367) (by decide) rfl ?_
    refine ev_bk 2 (S' := (224, [some (.ref 367), some (vL x1), none, some (vI x3), some (vI x4), some (vL x5), none, some (vI x7), some (vI x8), some (vI x9), some (vI (S.1 367 15)), none], [vI 32, vI x3, vI ((wI (wI S 367 16 x8) 367 15 x9).1 367 22), .ref 367], hp (wI (wI S 367 16 x8) 367 15 x9), 0, 0)) rfl ?_
    refine mv_iand rfl ?_
    refine mv_if 232 rfl rfl (fun c => ?_) (fun c => ?_)
    · have F := F.1 c
      refine ev_bk 1 (S' := (233, [some (.ref 367), some (vL x1), none, some (vI x3), some (vI x4), some (vL x5), none, some (vI x7), some (vI x8), some (vI x9), some (vI (S.1 367 15)), none], [vI 0, vI ((wI (wI S 367 16 x8) 367 15 x9).1 367 22), .ref 367], hp (wI (wI S 367 16 x8) 367 15 x9), 0, 0)) rfl ?_
      exact F
    · have F := F.2 c
      refine ev_bk 1 (S' := (229, [some (.ref 367), some (vL x1), none, some (vI x3), some (vI x4), some (vL x5), none, some (vI x7), some (vI x8), some (vI x9), some (vI (S.1 367 15)), none], [vI 1, vI ((wI (wI S 367 16 x8) 367 15 x9).1 367 22), .ref 367], hp (wI (wI S 367 16 x8) 367 15 x9), 0, 0)) rfl ?_
      refine mv_goto 233 rfl rfl ?_
      exact F
  · have F := F.2 c
    exact F
theorem vc_MD_frameBlock_183 {q : Nat × (Nat → Int32)} {S S' : ms} {r : Option Value} (x1 x3 x4 x5 x7 x8 x9 x10 : Int)
    (F : ∃ (z3 : Int) (S1 : ms), EV q 333 0 [some (.ref 367)] [] S (some (vI z3)) S1 ∧ ((w32 z3 = 0) → EV q 359 236 [some (.ref 367), some (vL x1), none, some (vI x3), some (vI x4), some (vL x5), none, some (vI x7), some (vI x8), some (vI x9), some (vI x10), none] [] S1 r S') ∧ ((¬ w32 z3 = 0) → ((w32 (S1.1 367 15) ≤ w32 (S1.1 367 16)) → EV q 359 236 [some (.ref 367), some (vL x1), none, some (vI x3), some (vI x4), some (vL x5), none, some (vI x7), some (vI x8), some (vI x9), some (vI x10), none] [] S1 r S') ∧ ((¬ w32 (S1.1 367 15) ≤ w32 (S1.1 367 16)) → ∃ (z6 : Int) (S4 : ms), EV q 334 0 [some (.ref 367)] [] S1 (some (vI z6)) S4 ∧ ∃ (S7 : ms), EV q 336 0 [some (.ref 367), some (vI z6)] [] S4 none S7 ∧ EV q 359 183 [some (.ref 367), some (vL x1), none, some (vI x3), some (vI x4), some (vL x5), none, some (vI x7), some (vI x8), some (vI x9), some (vI x10), none] [] S7 r S'))) : EV q 359 183 [some (.ref 367), some (vL x1), none, some (vI x3), some (vI x4), some (vL x5), none, some (vI x7), some (vI x8), some (vI x9), some (vI x10), none] [] S r S' := by
  unfold EV
  refine ev_bk 1 (S' := (184, [some (.ref 367), some (vL x1), none, some (vI x3), some (vI x4), some (vL x5), none, some (vI x7), some (vI x8), some (vI x9), some (vI x10), none], [.ref 367], hp S, 0, 0)) rfl ?_
  obtain ⟨z3, S1, e2, F⟩ := F
  refine mv_calv (as := []) (rest := []) e2 (sh_367) rfl rfl rfl ⟨rfl, rfl⟩ rfl rfl rfl rfl rfl ?_
  refine mv_if 236 rfl rfl (fun c => ?_) (fun c => ?_)
  · have F := F.1 c
    exact F
  · have F := F.2 c
    refine ev_bk 1 (S' := (191, [some (.ref 367), some (vL x1), none, some (vI x3), some (vI x4), some (vL x5), none, some (vI x7), some (vI x8), some (vI x9), some (vI x10), none], [.ref 367], hp S1, 0, 0)) rfl ?_
    refine mv_gfI rfl rfl (sh_367) (by decide) rfl ?_
    refine ev_bk 1 (S' := (195, [some (.ref 367), some (vL x1), none, some (vI x3), some (vI x4), some (vL x5), none, some (vI x7), some (vI x8), some (vI x9), some (vI x10), none], [.ref 367, vI (S1.1 367 16)], hp S1, 0, 0)) rfl ?_
    refine mv_gfI rfl rfl (sh_367) (by decide) rfl ?_
    refine mv_icmp 236 rfl rfl (fun c => ?_) (fun c => ?_)
    · have F := F.1 c
      exact F
    · have F := F.2 c
      refine ev_bk 1 (S' := (202, [some (.ref 367), some (vL x1), none, some (vI x3), some (vI x4), some (vL x5), none, some (vI x7), some (vI x8), some (vI x9), some (vI x10), none], [.ref 367], hp S1, 0, 0)) rfl ?_
      obtain ⟨z6, S4, e5, F⟩ := F
      refine mv_calv (as := []) (rest := []) e5 (sh_367) rfl rfl rfl ⟨rfl, rfl⟩ rfl rfl rfl rfl rfl ?_
      refine ev_bk 3 (S' := (210, [some (.ref 367), some (vL x1), none, some (vI x3), some (vI x4), some (vL x5), none, some (vI x7), some (vI x8), some (vI x9), some (vI x10), some (vI z6)], [vI z6, .ref 367], hp S4, 0, 0)) rfl ?_
      obtain ⟨S7, e8, F⟩ := F
      refine mv_calv (as := [vI z6]) (rest := []) e8 (sh_367) rfl rfl rfl ⟨rfl, rfl⟩ rfl rfl rfl rfl rfl ?_
      refine mv_goto 183 rfl rfl ?_
      exact ev_wk (le_s (le_s (le_s (le_s (le_s (le_s (le_s (le_s (le_s (le_s (le_s (le_n le_0)))))))))))) F
theorem vc_MD_frameBlock_233 {q : Nat × (Nat → Int32)} {S S' : ms} {r : Option Value} (x1 x3 x4 x5 x7 x8 x9 x10 y0 y1 : Int)
    (F : ∃ (S1 : ms), EV q 356 0 [some (.ref 367), some (vI y1), some (vI y0), none, none, none, none, none, none, none, none] [] S none S1 ∧ EV q 359 236 [some (.ref 367), some (vL x1), none, some (vI x3), some (vI x4), some (vL x5), none, some (vI x7), some (vI x8), some (vI x9), some (vI x10), none] [] S1 r S') : EV q 359 233 [some (.ref 367), some (vL x1), none, some (vI x3), some (vI x4), some (vL x5), none, some (vI x7), some (vI x8), some (vI x9), some (vI x10), none] [vI y0, vI y1, .ref 367] S r S' := by
  unfold EV
  obtain ⟨S1, e2, F⟩ := F
  refine mv_calv (as := [vI y1, vI y0]) (rest := []) e2 (sh_367) rfl rfl rfl ⟨rfl, rfl⟩ rfl rfl rfl rfl rfl ?_
  exact F
theorem vc_MD_frameBlock_236 {q : Nat × (Nat → Int32)} {S S' : ms} {r : Option Value} (x1 x3 x4 x5 x7 x8 x9 x10 : Int)
    (F : ∀ S1 : ms, S1 = wI S 367 15 x10 → ∃ (z4 : Int) (S2 : ms), EV q 333 0 [some (.ref 367)] [] S1 (some (vI z4)) S2 ∧ ((w32 z4 = 0) → EV q 359 262 [some (.ref 367), some (vL x1), none, some (vI x3), some (vI x4), some (vL x5), none, some (vI x7), some (vI x8), some (vI x9), some (vI x10), none] [vI (S2.1 367 16), .ref 367] S2 r S') ∧ ((¬ w32 z4 = 0) → EV q 359 262 [some (.ref 367), some (vL x1), none, some (vI x3), some (vI x4), some (vL x5), none, some (vI x7), some (vI x8), some (vI x9), some (vI x10), none] [vI (x9 + x7), .ref 367] S2 r S')) : EV q 359 236 [some (.ref 367), some (vL x1), none, some (vI x3), some (vI x4), some (vL x5), none, some (vI x7), some (vI x8), some (vI x9), some (vI x10), none] [] S r S' := by
  unfold EV
  refine ev_bk 2 (S' := (239, [some (.ref 367), some (vL x1), none, some (vI x3), some (vI x4), some (vL x5), none, some (vI x7), some (vI x8), some (vI x9), some (vI x10), none], [vI x10, .ref 367], hp S, 0, 0)) rfl ?_
  refine mv_pfI rfl rfl (sh_367) (by decide) rfl rfl ?_
  have F := F _ rfl
  refine ev_bk 2 (S' := (244, [some (.ref 367), some (vL x1), none, some (vI x3), some (vI x4), some (vL x5), none, some (vI x7), some (vI x8), some (vI x9), some (vI x10), none], [.ref 367, .ref 367], hp (wI S 367 15 x10), 0, 0)) rfl ?_
  obtain ⟨z4, S2, e3, F⟩ := F
  refine mv_calv (as := []) (rest := [.ref 367]) e3 (sh_367) rfl rfl rfl ⟨rfl, rfl⟩ rfl rfl rfl rfl rfl ?_
  refine mv_if 258 rfl rfl (fun c => ?_) (fun c => ?_)
  · have F := F.1 c
    refine ev_bk 1 (S' := (259, [some (.ref 367), some (vL x1), none, some (vI x3), some (vI x4), some (vL x5), none, some (vI x7), some (vI x8), some (vI x9), some (vI x10), none], [.ref 367, .ref 367], hp S2, 0, 0)) rfl ?_
    refine mv_gfI rfl rfl (sh_367) (by decide) rfl ?_
    exact F
  · have F := F.2 c
    refine ev_bk 2 (S' := (254, [some (.ref 367), some (vL x1), none, some (vI x3), some (vI x4), some (vL x5), none, some (vI x7), some (vI x8), some (vI x9), some (vI x10), none], [vI x7, vI x9, .ref 367], hp S2, 0, 0)) rfl ?_
    refine mv_iadd rfl ?_
    refine mv_goto 262 rfl rfl ?_
    exact F
theorem vc_MD_frameBlock_262 {q : Nat × (Nat → Int32)} {S S' : ms} {r : Option Value} (x1 x3 x4 x5 x7 x8 x9 x10 y0 : Int)
    (F : ∀ S1 : ms, S1 = wI S 367 16 y0 → r = none ∧ S' = S1) : EV q 359 262 [some (.ref 367), some (vL x1), none, some (vI x3), some (vI x4), some (vL x5), none, some (vI x7), some (vI x8), some (vI x9), some (vI x10), none] [vI y0, .ref 367] S r S' := by
  unfold EV
  refine mv_pfI rfl rfl (sh_367) (by decide) rfl rfl ?_
  have F := F _ rfl
  obtain ⟨rfl, rfl⟩ := F
  exact ev_ret rfl rfl
theorem vc_MD_openCopies {q : Nat × (Nat → Int32)} {S S' : ms} {r : Option Value}
    (F : ∃ (z3 : Int) (S1 : ms), EV q 361 0 [some (.ref 367), none, none, none, none] [] S (some (vL z3)) S1 ∧ ∃ (z6 : Int) (S4 : ms), EV q 333 0 [some (.ref 367)] [] S1 (some (vI z6)) S4 ∧ ((w32 z6 = 0) → EV q 360 26 [some (.ref 367), some (vL z3), none, none, none, none, none, none, none, none] [] S4 r S') ∧ ((¬ w32 z6 = 0) → ((w64 z3 ≤ w64 12000) → EV q 360 26 [some (.ref 367), some (vL z3), none, none, none, none, none, none, none, none] [] S4 r S') ∧ ((¬ w64 z3 ≤ w64 12000) → ∃ (S7 : ms), EV q 337 0 [some (.ref 367), some (vI 13)] [] S4 none S7 ∧ EV q 360 26 [some (.ref 367), some (vL z3), none, none, none, none, none, none, none, none] [] S7 r S'))) : EV q 360 0 [some (.ref 367), none, none, none, none, none, none, none, none, none] [] S r S' := by
  unfold EV
  refine ev_bk 1 (S' := (1, [some (.ref 367), none, none, none, none, none, none, none, none, none], [.ref 367], hp S, 0, 0)) rfl ?_
  obtain ⟨z3, S1, e2, F⟩ := F
  refine mv_calv (as := []) (rest := []) e2 (sh_367) rfl rfl rfl ⟨rfl, rfl⟩ rfl rfl rfl rfl rfl ?_
  refine ev_bk 2 (S' := (6, [some (.ref 367), some (vL z3), none, none, none, none, none, none, none, none], [.ref 367], hp S1, 0, 0)) rfl ?_
  obtain ⟨z6, S4, e5, F⟩ := F
  refine mv_calv (as := []) (rest := []) e5 (sh_367) rfl rfl rfl ⟨rfl, rfl⟩ rfl rfl rfl rfl rfl ?_
  refine mv_if 26 rfl rfl (fun c => ?_) (fun c => ?_)
  · have F := F.1 c
    exact F
  · have F := F.2 c
    refine ev_bk 2 (S' := (16, [some (.ref 367), some (vL z3), none, none, none, none, none, none, none, none], [vL 12000, vL z3], hp S4, 0, 0)) rfl ?_
    refine mv_lif 26 rfl rfl rfl (fun c => ?_) (fun c => ?_)
    · have F := F.1 c
      exact F
    · have F := F.2 c
      refine ev_bk 2 (S' := (23, [some (.ref 367), some (vL z3), none, none, none, none, none, none, none, none], [vI 13, .ref 367], hp S4, 0, 0)) rfl ?_
      obtain ⟨S7, e8, F⟩ := F
      refine mv_calv (as := [vI 13]) (rest := []) e8 (sh_367) rfl rfl rfl ⟨rfl, rfl⟩ rfl rfl rfl rfl rfl ?_
      exact F
theorem vc_MD_openCopies_26 {q : Nat × (Nat → Int32)} {S S' : ms} {r : Option Value} (x1 : Int)
    (F : ∃ (z3 : Int) (S1 : ms), EV q 333 0 [some (.ref 367)] [] S (some (vI z3)) S1 ∧ ((w32 z3 = 0) → EV q 360 270 [some (.ref 367), some (vL x1), none, none, none, none, none, none, none, none] [] S1 r S') ∧ ((¬ w32 z3 = 0) → ((w32 (S1.1 367 15) ≤ w32 (S1.1 367 16)) → EV q 360 270 [some (.ref 367), some (vL x1), none, none, none, none, none, none, none, none] [] S1 r S') ∧ ((¬ w32 (S1.1 367 15) ≤ w32 (S1.1 367 16)) → ∃ (z6 : Int) (S4 : ms), EV q 334 0 [some (.ref 367)] [] S1 (some (vI z6)) S4 ∧ ((¬ w32 (z6 % 4) = 1) → EV q 360 78 [some (.ref 367), some (vL x1), none, some (vI z6), some (vI (z6 % 4)), none, none, none, none, none] [vL (w32 ((w32 z6 / 4) + 1))] S4 r S') ∧ ((¬ (¬ w32 (z6 % 4) = 1)) → EV q 360 78 [some (.ref 367), some (vL x1), none, some (vI z6), some (vI (z6 % 4)), none, none, none, none, none] [vL (w32 (((w32 z6 / 4) % 8) + 4))] S4 r S')))) : EV q 360 26 [some (.ref 367), some (vL x1), none, none, none, none, none, none, none, none] [] S r S' := by
  unfold EV
  refine ev_bk 1 (S' := (27, [some (.ref 367), some (vL x1), none, none, none, none, none, none, none, none], [.ref 367], hp S, 0, 0)) rfl ?_
  obtain ⟨z3, S1, e2, F⟩ := F
  refine mv_calv (as := []) (rest := []) e2 (sh_367) rfl rfl rfl ⟨rfl, rfl⟩ rfl rfl rfl rfl rfl ?_
  refine mv_if 270 rfl rfl (fun c => ?_) (fun c => ?_)
  · have F := F.1 c
    exact F
  · have F := F.2 c
    refine ev_bk 1 (S' := (34, [some (.ref 367), some (vL x1), none, none, none, none, none, none, none, none], [.ref 367], hp S1, 0, 0)) rfl ?_
    refine mv_gfI rfl rfl (sh_367) (by decide) rfl ?_
    refine ev_bk 1 (S' := (38, [some (.ref 367), some (vL x1), none, none, none, none, none, none, none, none], [.ref 367, vI (S1.1 367 16)], hp S1, 0, 0)) rfl ?_
    refine mv_gfI rfl rfl (sh_367) (by decide) rfl ?_
    refine mv_icmp 270 rfl rfl (fun c => ?_) (fun c => ?_)
    · have F := F.1 c
      exact F
    · have F := F.2 c
      refine ev_bk 1 (S' := (45, [some (.ref 367), some (vL x1), none, none, none, none, none, none, none, none], [.ref 367], hp S1, 0, 0)) rfl ?_
      obtain ⟨z6, S4, e5, F⟩ := F
      refine mv_calv (as := []) (rest := []) e5 (sh_367) rfl rfl rfl ⟨rfl, rfl⟩ rfl rfl rfl rfl rfl ?_
      refine ev_bk 3 (S' := (51, [some (.ref 367), some (vL x1), none, some (vI z6), none, none, none, none, none, none], [vI 3, vI z6], hp S4, 0, 0)) rfl ?_
      refine mv_iandm 4 2 (by decide) rfl rfl rfl ?_
      refine ev_bk 3 (S' := (57, [some (.ref 367), some (vL x1), none, some (vI z6), some (vI (z6 % 4)), none, none, none, none, none], [vI 1, vI (z6 % 4)], hp S4, 0, 0)) rfl ?_
      refine mv_icmp 72 rfl rfl (fun c => ?_) (fun c => ?_)
      · have F := F.1 c
        refine ev_bk 2 (S' := (74, [some (.ref 367), some (vL x1), none, some (vI z6), some (vI (z6 % 4)), none, none, none, none, none], [vI 2, vI z6], hp S4, 0, 0)) rfl ?_
        refine mv_ishr 4 rfl rfl ?_
        refine ev_bk 1 (S' := (76, [some (.ref 367), some (vL x1), none, some (vI z6), some (vI (z6 % 4)), none, none, none, none, none], [vI 1, vI (w32 z6 / 4)], hp S4, 0, 0)) rfl ?_
        refine mv_iadd rfl ?_
        refine mv_i2l rfl ?_
        exact F
      · have F := F.2 c
        refine ev_bk 2 (S' := (62, [some (.ref 367), some (vL x1), none, some (vI z6), some (vI (z6 % 4)), none, none, none, none, none], [vI 2, vI z6], hp S4, 0, 0)) rfl ?_
        refine mv_ishr 4 rfl rfl ?_
        refine ev_bk 1 (S' := (65, [some (.ref 367), some (vL x1), none, some (vI z6), some (vI (z6 % 4)), none, none, none, none, none], [vI 7, vI (w32 z6 / 4)], hp S4, 0, 0)) rfl ?_
        refine mv_iandm 8 3 (by decide) rfl rfl rfl ?_
        refine ev_bk 1 (S' := (67, [some (.ref 367), some (vL x1), none, some (vI z6), some (vI (z6 % 4)), none, none, none, none, none], [vI 4, vI ((w32 z6 / 4) % 8)], hp S4, 0, 0)) rfl ?_
        refine mv_iadd rfl ?_
        refine mv_i2l rfl ?_
        refine mv_goto 78 rfl rfl ?_
        exact F
theorem vc_MD_openCopies_78 {q : Nat × (Nat → Int32)} {S S' : ms} {r : Option Value} (x1 x3 x4 y0 : Int)
    (F : ((¬ w32 x4 = 0) → EV q 360 108 [some (.ref 367), some (vL x1), none, some (vI x3), some (vI x4), some (vL y0), none, none, none, none] [] S r S') ∧ ((¬ (¬ w32 x4 = 0)) → ((w64 y0 ≤ w64 60) → EV q 360 108 [some (.ref 367), some (vL x1), none, some (vI x3), some (vI x4), some (vL y0), none, none, none, none] [] S r S') ∧ ((¬ w64 y0 ≤ w64 60) → ∃ (z3 : Int) (S1 : ms), EV q 345 0 [some (.ref 367), some (vI (y0 - 60)), none, none, none] [] S (some (vL z3)) S1 ∧ EV q 360 108 [some (.ref 367), some (vL x1), none, some (vI x3), some (vI x4), some (vL (z3 + 1)), none, none, none, none] [] S1 r S'))) : EV q 360 78 [some (.ref 367), some (vL x1), none, some (vI x3), some (vI x4), none, none, none, none, none] [vL y0] S r S' := by
  unfold EV
  refine ev_bk 2 (S' := (82, [some (.ref 367), some (vL x1), none, some (vI x3), some (vI x4), some (vL y0), none, none, none, none], [vI x4], hp S, 0, 0)) rfl ?_
  refine mv_if 108 rfl rfl (fun c => ?_) (fun c => ?_)
  · have F := F.1 c
    exact F
  · have F := F.2 c
    refine ev_bk 2 (S' := (90, [some (.ref 367), some (vL x1), none, some (vI x3), some (vI x4), some (vL y0), none, none, none, none], [vL 60, vL y0], hp S, 0, 0)) rfl ?_
    refine mv_lif 108 rfl rfl rfl (fun c => ?_) (fun c => ?_)
    · have F := F.1 c
      exact F
    · have F := F.2 c
      refine ev_bk 2 (S' := (97, [some (.ref 367), some (vL x1), none, some (vI x3), some (vI x4), some (vL y0), none, none, none, none], [vL y0, .ref 367], hp S, 0, 0)) rfl ?_
      refine mv_l2i rfl ?_
      refine ev_bk 1 (S' := (100, [some (.ref 367), some (vL x1), none, some (vI x3), some (vI x4), some (vL y0), none, none, none, none], [vI 60, vI y0, .ref 367], hp S, 0, 0)) rfl ?_
      refine mv_isub rfl ?_
      obtain ⟨z3, S1, e2, F⟩ := F
      refine mv_calv (as := [vI (y0 - 60)]) (rest := []) e2 (sh_367) rfl rfl rfl ⟨rfl, rfl⟩ rfl rfl rfl rfl rfl ?_
      refine ev_bk 1 (S' := (105, [some (.ref 367), some (vL x1), none, some (vI x3), some (vI x4), some (vL y0), none, none, none, none], [vL 1, vL z3], hp S1, 0, 0)) rfl ?_
      refine mv_ladd rfl ?_
      refine ev_bk 1 (S' := (108, [some (.ref 367), some (vL x1), none, some (vI x3), some (vI x4), some (vL (z3 + 1)), none, none, none, none], [], hp S1, 0, 0)) rfl ?_
      exact F
theorem vc_MD_openCopies_108 {q : Nat × (Nat → Int32)} {S S' : ms} {r : Option Value} (x1 x3 x4 x5 : Int)
    (F : ∃ (z3 : Int) (S1 : ms), EV q 333 0 [some (.ref 367)] [] S (some (vI z3)) S1 ∧ ((w32 z3 = 0) → EV q 360 134 [some (.ref 367), some (vL x1), none, some (vI x3), some (vI x4), some (vL x5), none, none, none, none] [] S1 r S') ∧ ((¬ w32 z3 = 0) → ((w64 x5 ≤ w64 (x1 - (w32 (S1.1 367 22)))) → EV q 360 134 [some (.ref 367), some (vL x1), none, some (vI x3), some (vI x4), some (vL x5), none, none, none, none] [] S1 r S') ∧ ((¬ w64 x5 ≤ w64 (x1 - (w32 (S1.1 367 22)))) → ∃ (S4 : ms), EV q 337 0 [some (.ref 367), some (vI 53)] [] S1 none S4 ∧ EV q 360 134 [some (.ref 367), some (vL x1), none, some (vI x3), some (vI x4), some (vL x5), none, none, none, none] [] S4 r S'))) : EV q 360 108 [some (.ref 367), some (vL x1), none, some (vI x3), some (vI x4), some (vL x5), none, none, none, none] [] S r S' := by
  unfold EV
  refine ev_bk 1 (S' := (109, [some (.ref 367), some (vL x1), none, some (vI x3), some (vI x4), some (vL x5), none, none, none, none], [.ref 367], hp S, 0, 0)) rfl ?_
  obtain ⟨z3, S1, e2, F⟩ := F
  refine mv_calv (as := []) (rest := []) e2 (sh_367) rfl rfl rfl ⟨rfl, rfl⟩ rfl rfl rfl rfl rfl ?_
  refine mv_if 134 rfl rfl (fun c => ?_) (fun c => ?_)
  · have F := F.1 c
    exact F
  · have F := F.2 c
    refine ev_bk 3 (S' := (119, [some (.ref 367), some (vL x1), none, some (vI x3), some (vI x4), some (vL x5), none, none, none, none], [.ref 367, vL x1, vL x5], hp S1, 0, 0)) rfl ?_
    refine mv_gfI rfl rfl (sh_367) (by decide) rfl ?_
    refine mv_i2l rfl ?_
    refine mv_lsub rfl ?_
    refine mv_lif 134 rfl rfl rfl (fun c => ?_) (fun c => ?_)
    · have F := F.1 c
      exact F
    · have F := F.2 c
      refine ev_bk 2 (S' := (131, [some (.ref 367), some (vL x1), none, some (vI x3), some (vI x4), some (vL x5), none, none, none, none], [vI 53, .ref 367], hp S1, 0, 0)) rfl ?_
      obtain ⟨S4, e5, F⟩ := F
      refine mv_calv (as := [vI 53]) (rest := []) e5 (sh_367) rfl rfl rfl ⟨rfl, rfl⟩ rfl rfl rfl rfl rfl ?_
      exact F
theorem vc_MD_openCopies_134 {q : Nat × (Nat → Int32)} {S S' : ms} {r : Option Value} (x1 x3 x4 x5 : Int)
    (F : ∃ (z3 : Int) (S1 : ms), EV q 333 0 [some (.ref 367)] [] S (some (vI z3)) S1 ∧ ((¬ w32 z3 = 0) → ((¬ w32 x4 = 0) → ((¬ w32 x4 = 1) → ((¬ w32 x4 = 2) → EV q 360 223 [some (.ref 367), some (vL x1), none, some (vI x3), some (vI x4), some (vL x5), none, none, none, none] [vI 4, .ref 367] S1 r S') ∧ ((¬ (¬ w32 x4 = 2)) → EV q 360 223 [some (.ref 367), some (vL x1), none, some (vI x3), some (vI x4), some (vL x5), none, none, none, none] [vI 2, .ref 367] S1 r S')) ∧ ((¬ (¬ w32 x4 = 1)) → ∃ (z6 : Int) (S4 : ms), EV q 334 0 [some (.ref 367)] [] S1 (some (vI z6)) S4 ∧ EV q 360 226 [some (.ref 367), some (vL x1), none, some (vI x3), some (vI x4), some (vL x5), none, none, none, none] [vL (lO ((w32 (w32 x3 / 32)) * 256) (w32 z6))] S4 r S')) ∧ ((¬ (¬ w32 x4 = 0)) → EV q 360 150 [some (.ref 367), some (vL x1), none, some (vI x3), some (vI x4), some (vL x5), none, some (vL 0), none, none] [] S1 r S')) ∧ ((¬ (¬ w32 z3 = 0)) → r = none ∧ S' = S1)) : EV q 360 134 [some (.ref 367), some (vL x1), none, some (vI x3), some (vI x4), some (vL x5), none, none, none, none] [] S r S' := by
  unfold EV
  refine ev_bk 1 (S' := (135, [some (.ref 367), some (vL x1), none, some (vI x3), some (vI x4), some (vL x5), none, none, none, none], [.ref 367], hp S, 0, 0)) rfl ?_
  obtain ⟨z3, S1, e2, F⟩ := F
  refine mv_calv (as := []) (rest := []) e2 (sh_367) rfl rfl rfl ⟨rfl, rfl⟩ rfl rfl rfl rfl rfl ?_
  refine mv_if 142 rfl rfl (fun c => ?_) (fun c => ?_)
  · have F := F.1 c
    refine ev_bk 1 (S' := (144, [some (.ref 367), some (vL x1), none, some (vI x3), some (vI x4), some (vL x5), none, none, none, none], [vI x4], hp S1, 0, 0)) rfl ?_
    refine mv_if 189 rfl rfl (fun c => ?_) (fun c => ?_)
    · have F := F.1 c
      refine ev_bk 2 (S' := (192, [some (.ref 367), some (vL x1), none, some (vI x3), some (vI x4), some (vL x5), none, none, none, none], [vI 1, vI x4], hp S1, 0, 0)) rfl ?_
      refine mv_icmp 211 rfl rfl (fun c => ?_) (fun c => ?_)
      · have F := F.1 c
        refine ev_bk 3 (S' := (215, [some (.ref 367), some (vL x1), none, some (vI x3), some (vI x4), some (vL x5), none, none, none, none], [vI 2, vI x4, .ref 367], hp S1, 0, 0)) rfl ?_
        refine mv_icmp 222 rfl rfl (fun c => ?_) (fun c => ?_)
        · have F := F.1 c
          refine ev_bk 1 (S' := (223, [some (.ref 367), some (vL x1), none, some (vI x3), some (vI x4), some (vL x5), none, none, none, none], [vI 4, .ref 367], hp S1, 0, 0)) rfl ?_
          exact F
        · have F := F.2 c
          refine ev_bk 1 (S' := (219, [some (.ref 367), some (vL x1), none, some (vI x3), some (vI x4), some (vL x5), none, none, none, none], [vI 2, .ref 367], hp S1, 0, 0)) rfl ?_
          refine mv_goto 223 rfl rfl ?_
          exact F
      · have F := F.2 c
        refine ev_bk 2 (S' := (197, [some (.ref 367), some (vL x1), none, some (vI x3), some (vI x4), some (vL x5), none, none, none, none], [vI 5, vI x3], hp S1, 0, 0)) rfl ?_
        refine mv_ishr 32 rfl rfl ?_
        refine mv_i2l rfl ?_
        refine ev_bk 1 (S' := (201, [some (.ref 367), some (vL x1), none, some (vI x3), some (vI x4), some (vL x5), none, none, none, none], [vI 8, vL (w32 (w32 x3 / 32))], hp S1, 0, 0)) rfl ?_
        refine mv_lshl 256 rfl rfl ?_
        refine ev_bk 1 (S' := (203, [some (.ref 367), some (vL x1), none, some (vI x3), some (vI x4), some (vL x5), none, none, none, none], [.ref 367, vL ((w32 (w32 x3 / 32)) * 256)], hp S1, 0, 0)) rfl ?_
        obtain ⟨z6, S4, e5, F⟩ := F
        refine mv_calv (as := []) (rest := [vL ((w32 (w32 x3 / 32)) * 256)]) e5 (sh_367) rfl rfl rfl ⟨rfl, rfl⟩ rfl rfl rfl rfl rfl ?_
        refine mv_i2l rfl ?_
        refine mv_lor rfl ?_
        refine mv_goto 226 rfl rfl ?_
        exact F
    · have F := F.2 c
      refine ev_bk 2 (S' := (150, [some (.ref 367), some (vL x1), none, some (vI x3), some (vI x4), some (vL x5), none, some (vL 0), none, none], [], hp S1, 0, 0)) rfl ?_
      exact F
  · have F := F.2 c
    obtain ⟨rfl, rfl⟩ := F
    exact ev_ret rfl rfl
theorem vc_MD_openCopies_150 {q : Nat × (Nat → Int32)} {S S' : ms} {r : Option Value} (x1 x3 x4 x5 x7 : Int)
    (F : ((w64 x5 ≤ w64 x7) → EV q 360 186 [some (.ref 367), some (vL x1), none, some (vI x3), some (vI x4), some (vL x5), none, some (vL x7), none, none] [] S r S') ∧ ((¬ w64 x5 ≤ w64 x7) → ∃ (z3 : Int) (S1 : ms), EV q 333 0 [some (.ref 367)] [] S (some (vI z3)) S1 ∧ ((w32 z3 = 0) → EV q 360 186 [some (.ref 367), some (vL x1), none, some (vI x3), some (vI x4), some (vL x5), none, some (vL x7), none, none] [] S1 r S') ∧ ((¬ w32 z3 = 0) → ∃ (z6 : Int) (S4 : ms), EV q 334 0 [some (.ref 367)] [] S1 (some (vI z6)) S4 ∧ ∃ (S7 : ms), EV q 336 0 [some (.ref 367), some (vI z6)] [] S4 none S7 ∧ EV q 360 150 [some (.ref 367), some (vL x1), none, some (vI x3), some (vI x4), some (vL x5), none, some (vL (x7 + 1)), none, none] [] S7 r S'))) : EV q 360 150 [some (.ref 367), some (vL x1), none, some (vI x3), some (vI x4), some (vL x5), none, some (vL x7), none, none] [] S r S' := by
  unfold EV
  refine ev_bk 2 (S' := (154, [some (.ref 367), some (vL x1), none, some (vI x3), some (vI x4), some (vL x5), none, some (vL x7), none, none], [vL x5, vL x7], hp S, 0, 0)) rfl ?_
  refine mv_lif 186 rfl rfl rfl (fun c => ?_) (fun c => ?_)
  · have F := F.1 c
    exact F
  · have F := F.2 c
    refine ev_bk 1 (S' := (159, [some (.ref 367), some (vL x1), none, some (vI x3), some (vI x4), some (vL x5), none, some (vL x7), none, none], [.ref 367], hp S, 0, 0)) rfl ?_
    obtain ⟨z3, S1, e2, F⟩ := F
    refine mv_calv (as := []) (rest := []) e2 (sh_367) rfl rfl rfl ⟨rfl, rfl⟩ rfl rfl rfl rfl rfl ?_
    refine mv_if 186 rfl rfl (fun c => ?_) (fun c => ?_)
    · have F := F.1 c
      exact F
    · have F := F.2 c
      refine ev_bk 1 (S' := (166, [some (.ref 367), some (vL x1), none, some (vI x3), some (vI x4), some (vL x5), none, some (vL x7), none, none], [.ref 367], hp S1, 0, 0)) rfl ?_
      obtain ⟨z6, S4, e5, F⟩ := F
      refine mv_calv (as := []) (rest := []) e5 (sh_367) rfl rfl rfl ⟨rfl, rfl⟩ rfl rfl rfl rfl rfl ?_
      refine ev_bk 3 (S' := (174, [some (.ref 367), some (vL x1), none, some (vI x3), some (vI x4), some (vL x5), none, some (vL x7), none, some (vI z6)], [vI z6, .ref 367], hp S4, 0, 0)) rfl ?_
      obtain ⟨S7, e8, F⟩ := F
      refine mv_calv (as := [vI z6]) (rest := []) e8 (sh_367) rfl rfl rfl ⟨rfl, rfl⟩ rfl rfl rfl rfl rfl ?_
      refine ev_bk 2 (S' := (180, [some (.ref 367), some (vL x1), none, some (vI x3), some (vI x4), some (vL x5), none, some (vL x7), none, some (vI z6)], [vL 1, vL x7], hp S7, 0, 0)) rfl ?_
      refine mv_ladd rfl ?_
      refine ev_bk 1 (S' := (183, [some (.ref 367), some (vL x1), none, some (vI x3), some (vI x4), some (vL x5), none, some (vL (x7 + 1)), none, some (vI z6)], [], hp S7, 0, 0)) rfl ?_
      refine mv_goto 150 rfl rfl ?_
      exact ev_wk (le_s (le_s (le_s (le_s (le_s (le_s (le_s (le_s (le_s (le_n le_0)))))))))) F
theorem vc_MD_openCopies_186 {q : Nat × (Nat → Int32)} {S S' : ms} {r : Option Value} (x1 x3 x4 x5 x7 : Int)
    (F : EV q 360 26 [some (.ref 367), some (vL x1), none, none, none, none, none, none, none, none] [] S r S') : EV q 360 186 [some (.ref 367), some (vL x1), none, some (vI x3), some (vI x4), some (vL x5), none, some (vL x7), none, none] [] S r S' := by
  unfold EV
  refine mv_goto 26 rfl rfl ?_
  exact ev_wk (le_s (le_s (le_s (le_n (le_n (le_n (le_s (le_n (le_s (le_s le_0)))))))))) F
theorem vc_MD_openCopies_223 {q : Nat × (Nat → Int32)} {S S' : ms} {r : Option Value} (x1 x3 x4 x5 y0 : Int)
    (F : ∃ (z3 : Int) (S1 : ms), EV q 345 0 [some (.ref 367), some (vI y0), none, none, none] [] S (some (vL z3)) S1 ∧ EV q 360 226 [some (.ref 367), some (vL x1), none, some (vI x3), some (vI x4), some (vL x5), none, none, none, none] [vL z3] S1 r S') : EV q 360 223 [some (.ref 367), some (vL x1), none, some (vI x3), some (vI x4), some (vL x5), none, none, none, none] [vI y0, .ref 367] S r S' := by
  unfold EV
  obtain ⟨z3, S1, e2, F⟩ := F
  refine mv_calv (as := [vI y0]) (rest := []) e2 (sh_367) rfl rfl rfl ⟨rfl, rfl⟩ rfl rfl rfl rfl rfl ?_
  exact F
theorem vc_MD_openCopies_226 {q : Nat × (Nat → Int32)} {S S' : ms} {r : Option Value} (x1 x3 x4 x5 y0 : Int)
    (F : ∃ (z3 : Int) (S1 : ms), EV q 333 0 [some (.ref 367)] [] S (some (vI z3)) S1 ∧ ((w32 z3 = 0) → EV q 360 259 [some (.ref 367), some (vL x1), none, some (vI x3), some (vI x4), some (vL x5), none, some (vL y0), none, none] [] S1 r S') ∧ ((¬ w32 z3 = 0) → ((w64 y0 = w64 0) → EV q 360 253 [some (.ref 367), some (vL x1), none, some (vI x3), some (vI x4), some (vL x5), none, some (vL y0), none, none] [] S1 r S') ∧ ((¬ w64 y0 = w64 0) → ((w64 y0 ≤ w64 (w32 (S1.1 367 22))) → EV q 360 259 [some (.ref 367), some (vL x1), none, some (vI x3), some (vI x4), some (vL x5), none, some (vL y0), none, none] [] S1 r S') ∧ ((¬ w64 y0 ≤ w64 (w32 (S1.1 367 22))) → EV q 360 253 [some (.ref 367), some (vL x1), none, some (vI x3), some (vI x4), some (vL x5), none, some (vL y0), none, none] [] S1 r S')))) : EV q 360 226 [some (.ref 367), some (vL x1), none, some (vI x3), some (vI x4), some (vL x5), none, none, none, none] [vL y0] S r S' := by
  unfold EV
  refine ev_bk 2 (S' := (229, [some (.ref 367), some (vL x1), none, some (vI x3), some (vI x4), some (vL x5), none, some (vL y0), none, none], [.ref 367], hp S, 0, 0)) rfl ?_
  obtain ⟨z3, S1, e2, F⟩ := F
  refine mv_calv (as := []) (rest := []) e2 (sh_367) rfl rfl rfl ⟨rfl, rfl⟩ rfl rfl rfl rfl rfl ?_
  refine mv_if 259 rfl rfl (fun c => ?_) (fun c => ?_)
  · have F := F.1 c
    exact F
  · have F := F.2 c
    refine ev_bk 2 (S' := (238, [some (.ref 367), some (vL x1), none, some (vI x3), some (vI x4), some (vL x5), none, some (vL y0), none, none], [vL 0, vL y0], hp S1, 0, 0)) rfl ?_
    refine mv_lif 253 rfl rfl rfl (fun c => ?_) (fun c => ?_)
    · have F := F.1 c
      exact F
    · have F := F.2 c
      refine ev_bk 2 (S' := (245, [some (.ref 367), some (vL x1), none, some (vI x3), some (vI x4), some (vL x5), none, some (vL y0), none, none], [.ref 367, vL y0], hp S1, 0, 0)) rfl ?_
      refine mv_gfI rfl rfl (sh_367) (by decide) rfl ?_
      refine mv_i2l rfl ?_
      refine mv_lif 259 rfl rfl rfl (fun c => ?_) (fun c => ?_)
      · have F := F.1 c
        exact F
      · have F := F.2 c
        exact F
theorem vc_MD_openCopies_253 {q : Nat × (Nat → Int32)} {S S' : ms} {r : Option Value} (x1 x3 x4 x5 x7 : Int)
    (F : ∃ (S1 : ms), EV q 337 0 [some (.ref 367), some (vI 52)] [] S none S1 ∧ EV q 360 259 [some (.ref 367), some (vL x1), none, some (vI x3), some (vI x4), some (vL x5), none, some (vL x7), none, none] [] S1 r S') : EV q 360 253 [some (.ref 367), some (vL x1), none, some (vI x3), some (vI x4), some (vL x5), none, some (vL x7), none, none] [] S r S' := by
  unfold EV
  refine ev_bk 2 (S' := (256, [some (.ref 367), some (vL x1), none, some (vI x3), some (vI x4), some (vL x5), none, some (vL x7), none, none], [vI 52, .ref 367], hp S, 0, 0)) rfl ?_
  obtain ⟨S1, e2, F⟩ := F
  refine mv_calv (as := [vI 52]) (rest := []) e2 (sh_367) rfl rfl rfl ⟨rfl, rfl⟩ rfl rfl rfl rfl rfl ?_
  exact F
theorem vc_MD_openCopies_259 {q : Nat × (Nat → Int32)} {S S' : ms} {r : Option Value} (x1 x3 x4 x5 x7 : Int)
    (F : ∃ (S1 : ms), EV q 350 0 [some (.ref 367), some (vL x7), none, some (vL x5), none, none, none] [] S none S1 ∧ EV q 360 26 [some (.ref 367), some (vL x1), none, none, none, none, none, none, none, none] [] S1 r S') : EV q 360 259 [some (.ref 367), some (vL x1), none, some (vI x3), some (vI x4), some (vL x5), none, some (vL x7), none, none] [] S r S' := by
  unfold EV
  refine ev_bk 3 (S' := (264, [some (.ref 367), some (vL x1), none, some (vI x3), some (vI x4), some (vL x5), none, some (vL x7), none, none], [vL x5, vL x7, .ref 367], hp S, 0, 0)) rfl ?_
  obtain ⟨S1, e2, F⟩ := F
  refine mv_calv (as := [vL x7, vL x5]) (rest := []) e2 (sh_367) rfl rfl rfl ⟨rfl, rfl⟩ rfl rfl rfl rfl rfl ?_
  refine mv_goto 26 rfl rfl ?_
  exact ev_wk (le_s (le_s (le_s (le_n (le_n (le_n (le_s (le_n (le_s (le_s le_0)))))))))) F
theorem vc_MD_openCopies_270 {q : Nat × (Nat → Int32)} {S S' : ms} {r : Option Value} (x1 : Int)
    (F : ∃ (z3 : Int) (S1 : ms), EV q 333 0 [some (.ref 367)] [] S (some (vI z3)) S1 ∧ ((w32 z3 = 0) → r = none ∧ S' = S1) ∧ ((¬ w32 z3 = 0) → ((w64 x1 ≤ w64 (w32 (S1.1 367 22))) → r = none ∧ S' = S1) ∧ ((¬ w64 x1 ≤ w64 (w32 (S1.1 367 22))) → ∃ (S4 : ms), EV q 335 0 [some (.ref 367), some (vI 54), some (vI (S1.1 367 15))] [] S1 none S4 ∧ r = none ∧ S' = S4))) : EV q 360 270 [some (.ref 367), some (vL x1), none, none, none, none, none, none, none, none] [] S r S' := by
  unfold EV
  refine ev_bk 1 (S' := (271, [some (.ref 367), some (vL x1), none, none, none, none, none, none, none, none], [.ref 367], hp S, 0, 0)) rfl ?_
  obtain ⟨z3, S1, e2, F⟩ := F
  refine mv_calv (as := []) (rest := []) e2 (sh_367) rfl rfl rfl ⟨rfl, rfl⟩ rfl rfl rfl rfl rfl ?_
  refine mv_if 297 rfl rfl (fun c => ?_) (fun c => ?_)
  · have F := F.1 c
    obtain ⟨rfl, rfl⟩ := F
    exact ev_ret rfl rfl
  · have F := F.2 c
    refine ev_bk 1 (S' := (278, [some (.ref 367), some (vL x1), none, none, none, none, none, none, none, none], [.ref 367], hp S1, 0, 0)) rfl ?_
    refine mv_gfI rfl rfl (sh_367) (by decide) rfl ?_
    refine mv_i2l rfl ?_
    refine ev_bk 1 (S' := (283, [some (.ref 367), some (vL x1), none, none, none, none, none, none, none, none], [vL x1, vL (w32 (S1.1 367 22))], hp S1, 0, 0)) rfl ?_
    refine mv_lif 297 rfl rfl rfl (fun c => ?_) (fun c => ?_)
    · have F := F.1 c
      obtain ⟨rfl, rfl⟩ := F
      exact ev_ret rfl rfl
    · have F := F.2 c
      refine ev_bk 3 (S' := (291, [some (.ref 367), some (vL x1), none, none, none, none, none, none, none, none], [.ref 367, vI 54, .ref 367], hp S1, 0, 0)) rfl ?_
      refine mv_gfI rfl rfl (sh_367) (by decide) rfl ?_
      obtain ⟨S4, e5, F⟩ := F
      refine mv_calv (as := [vI 54, vI (S1.1 367 15)]) (rest := []) e5 (sh_367) rfl rfl rfl ⟨rfl, rfl⟩ rfl rfl rfl rfl rfl ?_
      obtain ⟨rfl, rfl⟩ := F
      exact ev_ret rfl rfl
theorem vc_MD_readSevens {q : Nat × (Nat → Int32)} {S S' : ms} {r : Option Value}
    (F : EV q 361 4 [some (.ref 367), some (vL 0), none, some (vI 0), none] [] S r S') : EV q 361 0 [some (.ref 367), none, none, none, none] [] S r S' := by
  unfold EV
  refine ev_bk 4 (S' := (4, [some (.ref 367), some (vL 0), none, some (vI 0), none], [], hp S, 0, 0)) rfl ?_
  exact F
theorem vc_MD_readSevens_4 {q : Nat × (Nat → Int32)} {S S' : ms} {r : Option Value} (x1 x3 : Int)
    (F : ((5 ≤ w32 x3) → r = some (vL x1) ∧ S' = S) ∧ ((¬ 5 ≤ w32 x3) → ∃ (z3 : Int) (S1 : ms), EV q 334 0 [some (.ref 367)] [] S (some (vI z3)) S1 ∧ ∃ (z6 : Int) (S4 : ms), EV q 333 0 [some (.ref 367)] [] S1 (some (vI z6)) S4 ∧ ((w32 z6 = 0) → EV q 361 40 [some (.ref 367), some (vL x1), none, some (vI x3), some (vI z3)] [] S4 r S') ∧ ((¬ w32 z6 = 0) → ((¬ w32 x3 = 4) → EV q 361 40 [some (.ref 367), some (vL x1), none, some (vI x3), some (vI z3)] [] S4 r S') ∧ ((¬ (¬ w32 x3 = 4)) → ((w32 z3 ≤ 15) → EV q 361 40 [some (.ref 367), some (vL x1), none, some (vI x3), some (vI z3)] [] S4 r S') ∧ ((¬ w32 z3 ≤ 15) → ∃ (S7 : ms), EV q 337 0 [some (.ref 367), some (vI 51)] [] S4 none S7 ∧ EV q 361 40 [some (.ref 367), some (vL x1), none, some (vI x3), some (vI z3)] [] S7 r S'))))) : EV q 361 4 [some (.ref 367), some (vL x1), none, some (vI x3), none] [] S r S' := by
  unfold EV
  refine ev_bk 2 (S' := (6, [some (.ref 367), some (vL x1), none, some (vI x3), none], [vI 5, vI x3], hp S, 0, 0)) rfl ?_
  refine mv_icmp 70 rfl rfl (fun c => ?_) (fun c => ?_)
  · have F := F.1 c
    refine ev_bk 1 (S' := (71, [some (.ref 367), some (vL x1), none, some (vI x3), none], [vL x1], hp S, 0, 0)) rfl ?_
    obtain ⟨rfl, rfl⟩ := F
    exact ev_ret rfl rfl
  · have F := F.2 c
    refine ev_bk 1 (S' := (10, [some (.ref 367), some (vL x1), none, some (vI x3), none], [.ref 367], hp S, 0, 0)) rfl ?_
    obtain ⟨z3, S1, e2, F⟩ := F
    refine mv_calv (as := []) (rest := []) e2 (sh_367) rfl rfl rfl ⟨rfl, rfl⟩ rfl rfl rfl rfl rfl ?_
    refine ev_bk 2 (S' := (16, [some (.ref 367), some (vL x1), none, some (vI x3), some (vI z3)], [.ref 367], hp S1, 0, 0)) rfl ?_
    obtain ⟨z6, S4, e5, F⟩ := F
    refine mv_calv (as := []) (rest := []) e5 (sh_367) rfl rfl rfl ⟨rfl, rfl⟩ rfl rfl rfl rfl rfl ?_
    refine mv_if 40 rfl rfl (fun c => ?_) (fun c => ?_)
    · have F := F.1 c
      exact F
    · have F := F.2 c
      refine ev_bk 2 (S' := (24, [some (.ref 367), some (vL x1), none, some (vI x3), some (vI z3)], [vI 4, vI x3], hp S4, 0, 0)) rfl ?_
      refine mv_icmp 40 rfl rfl (fun c => ?_) (fun c => ?_)
      · have F := F.1 c
        exact F
      · have F := F.2 c
        refine ev_bk 2 (S' := (31, [some (.ref 367), some (vL x1), none, some (vI x3), some (vI z3)], [vI 15, vI z3], hp S4, 0, 0)) rfl ?_
        refine mv_icmp 40 rfl rfl (fun c => ?_) (fun c => ?_)
        · have F := F.1 c
          exact F
        · have F := F.2 c
          refine ev_bk 2 (S' := (37, [some (.ref 367), some (vL x1), none, some (vI x3), some (vI z3)], [vI 51, .ref 367], hp S4, 0, 0)) rfl ?_
          obtain ⟨S7, e8, F⟩ := F
          refine mv_calv (as := [vI 51]) (rest := []) e8 (sh_367) rfl rfl rfl ⟨rfl, rfl⟩ rfl rfl rfl rfl rfl ?_
          exact F
theorem vc_MD_readSevens_40 {q : Nat × (Nat → Int32)} {S S' : ms} {r : Option Value} (x1 x3 x4 : Int)
    (F : ((128 ≤ w32 x4) → EV q 361 4 [some (.ref 367), some (vL (lO x1 ((w32 (x4 % 128)) * ((2 : Int) ^ ((7 * x3) % 64).toNat)))), none, some (vI (x3 + 1)), none] [] S r S') ∧ ((¬ 128 ≤ w32 x4) → r = some (vL (lO x1 ((w32 (x4 % 128)) * ((2 : Int) ^ ((7 * x3) % 64).toNat)))) ∧ S' = S)) : EV q 361 40 [some (.ref 367), some (vL x1), none, some (vI x3), some (vI x4)] [] S r S' := by
  unfold EV
  refine ev_bk 3 (S' := (45, [some (.ref 367), some (vL x1), none, some (vI x3), some (vI x4)], [vI 127, vI x4, vL x1], hp S, 0, 0)) rfl ?_
  refine mv_iandm 128 7 (by decide) rfl rfl rfl ?_
  refine mv_i2l rfl ?_
  refine ev_bk 2 (S' := (50, [some (.ref 367), some (vL x1), none, some (vI x3), some (vI x4)], [vI x3, vI 7, vL (w32 (x4 % 128)), vL x1], hp S, 0, 0)) rfl ?_
  refine mv_imul rfl ?_
  refine mv_lshl ((2 : Int) ^ ((7 * x3) % 64).toNat) rfl rfl ?_
  refine mv_lor rfl ?_
  refine ev_bk 3 (S' := (59, [some (.ref 367), some (vL (lO x1 ((w32 (x4 % 128)) * ((2 : Int) ^ ((7 * x3) % 64).toNat)))), none, some (vI x3), some (vI x4)], [vI 128, vI x4], hp S, 0, 0)) rfl ?_
  refine mv_icmp 64 rfl rfl (fun c => ?_) (fun c => ?_)
  · have F := F.1 c
    refine mv_inc (lv' := [some (.ref 367), some (vL (lO x1 ((w32 (x4 % 128)) * ((2 : Int) ^ ((7 * x3) % 64).toNat)))), none, some (vI (x3 + 1)), some (vI x4)]) 3 1 rfl rfl rfl rfl ?_
    refine mv_goto 4 rfl rfl ?_
    exact ev_wk (le_s (le_s (le_s (le_s (le_n le_0))))) F
  · have F := F.2 c
    refine ev_bk 1 (S' := (63, [some (.ref 367), some (vL (lO x1 ((w32 (x4 % 128)) * ((2 : Int) ^ ((7 * x3) % 64).toNat)))), none, some (vI x3), some (vI x4)], [vL (lO x1 ((w32 (x4 % 128)) * ((2 : Int) ^ ((7 * x3) % 64).toNat)))], hp S, 0, 0)) rfl ?_
    obtain ⟨rfl, rfl⟩ := F
    exact ev_ret rfl rfl
theorem vc_MD_openSorted {q : Nat × (Nat → Int32)} {S S' : ms} {r : Option Value}
    (F : ∃ (S1 : ms), EV q 354 0 [some (.ref 367), some (vI 66), some (vI 80), none] [] S none S1 ∧ ∃ (S3 : ms), EV q 354 0 [some (.ref 367), some (vI 90), some (vI 80), none] [] S1 none S3 ∧ ∃ (S5 : ms), EV q 354 0 [some (.ref 367), some (vI 104), some (vI 80), none] [] S3 none S5 ∧ ∃ (z9 : Int) (S7 : ms), EV q 334 0 [some (.ref 367)] [] S5 (some (vI z9)) S7 ∧ ∃ (z12 : Int) (S10 : ms), EV q 333 0 [some (.ref 367)] [] S7 (some (vI z12)) S10 ∧ ((w32 z12 = 0) → EV q 362 53 [some (.ref 367), some (vI z9), none, none, none, none, none, none] [] S10 r S') ∧ ((¬ w32 z12 = 0) → ∃ (z15 : Int) (S13 : ms), EV q 257 0 [some (vI z9), some (vI 49), some (vI 57)] [] S10 (some (vI z15)) S13 ∧ ((¬ w32 z15 = 0) → EV q 362 53 [some (.ref 367), some (vI z9), none, none, none, none, none, none] [] S13 r S') ∧ ((¬ (¬ w32 z15 = 0)) → ∃ (S16 : ms), EV q 337 0 [some (.ref 367), some (vI 80)] [] S13 none S16 ∧ EV q 362 53 [some (.ref 367), some (vI z9), none, none, none, none, none, none] [] S16 r S'))) : EV q 362 0 [some (.ref 367), none, none, none, none, none, none, none] [] S r S' := by
  unfold EV
  refine ev_bk 3 (S' := (5, [some (.ref 367), none, none, none, none, none, none, none], [vI 80, vI 66, .ref 367], hp S, 0, 0)) rfl ?_
  obtain ⟨S1, e2, F⟩ := F
  refine mv_calv (as := [vI 66, vI 80]) (rest := []) e2 (sh_367) rfl rfl rfl ⟨rfl, rfl⟩ rfl rfl rfl rfl rfl ?_
  refine ev_bk 3 (S' := (13, [some (.ref 367), none, none, none, none, none, none, none], [vI 80, vI 90, .ref 367], hp S1, 0, 0)) rfl ?_
  obtain ⟨S3, e4, F⟩ := F
  refine mv_calv (as := [vI 90, vI 80]) (rest := []) e4 (sh_367) rfl rfl rfl ⟨rfl, rfl⟩ rfl rfl rfl rfl rfl ?_
  refine ev_bk 3 (S' := (21, [some (.ref 367), none, none, none, none, none, none, none], [vI 80, vI 104, .ref 367], hp S3, 0, 0)) rfl ?_
  obtain ⟨S5, e6, F⟩ := F
  refine mv_calv (as := [vI 104, vI 80]) (rest := []) e6 (sh_367) rfl rfl rfl ⟨rfl, rfl⟩ rfl rfl rfl rfl rfl ?_
  refine ev_bk 1 (S' := (25, [some (.ref 367), none, none, none, none, none, none, none], [.ref 367], hp S5, 0, 0)) rfl ?_
  obtain ⟨z9, S7, e8, F⟩ := F
  refine mv_calv (as := []) (rest := []) e8 (sh_367) rfl rfl rfl ⟨rfl, rfl⟩ rfl rfl rfl rfl rfl ?_
  refine ev_bk 2 (S' := (30, [some (.ref 367), some (vI z9), none, none, none, none, none, none], [.ref 367], hp S7, 0, 0)) rfl ?_
  obtain ⟨z12, S10, e11, F⟩ := F
  refine mv_calv (as := []) (rest := []) e11 (sh_367) rfl rfl rfl ⟨rfl, rfl⟩ rfl rfl rfl rfl rfl ?_
  refine mv_if 53 rfl rfl (fun c => ?_) (fun c => ?_)
  · have F := F.1 c
    exact F
  · have F := F.2 c
    refine ev_bk 3 (S' := (41, [some (.ref 367), some (vI z9), none, none, none, none, none, none], [vI 57, vI 49, vI z9], hp S10, 0, 0)) rfl ?_
    obtain ⟨z15, S13, e14, F⟩ := F
    refine mv_cals (as := [vI z9, vI 49, vI 57]) (rest := []) e14 rfl rfl rfl ⟨rfl, rfl, rfl⟩ rfl rfl rfl rfl ?_
    refine mv_if 53 rfl rfl (fun c => ?_) (fun c => ?_)
    · have F := F.1 c
      exact F
    · have F := F.2 c
      refine ev_bk 2 (S' := (50, [some (.ref 367), some (vI z9), none, none, none, none, none, none], [vI 80, .ref 367], hp S13, 0, 0)) rfl ?_
      obtain ⟨S16, e17, F⟩ := F
      refine mv_calv (as := [vI 80]) (rest := []) e17 (sh_367) rfl rfl rfl ⟨rfl, rfl⟩ rfl rfl rfl rfl rfl ?_
      exact F
theorem vc_MD_openSorted_53 {q : Nat × (Nat → Int32)} {S S' : ms} {r : Option Value} (x1 : Int)
    (F : ∀ S1 : ms, S1 = wI S 367 18 1 → EV q 362 62 [some (.ref 367), some (vI x1), some (vI 0), some (vI 1), none, none, none, none] [] S1 r S') : EV q 362 53 [some (.ref 367), some (vI x1), none, none, none, none, none, none] [] S r S' := by
  unfold EV
  refine ev_bk 2 (S' := (55, [some (.ref 367), some (vI x1), none, none, none, none, none, none], [vI 1, .ref 367], hp S, 0, 0)) rfl ?_
  refine mv_pfI rfl rfl (sh_367) (by decide) rfl rfl ?_
  have F := F _ rfl
  refine ev_bk 4 (S' := (62, [some (.ref 367), some (vI x1), some (vI 0), some (vI 1), none, none, none, none], [], hp (wI S 367 18 1), 0, 0)) rfl ?_
  exact F
theorem vc_MD_openSorted_62 {q : Nat × (Nat → Int32)} {S S' : ms} {r : Option Value} (x1 x2 x3 : Int)
    (F : ((w32 x3 = 0) → EV q 362 187 [some (.ref 367), some (vI x1), some (vI x2), some (vI x3), none, none, none, none] [] S r S') ∧ ((¬ w32 x3 = 0) → ∃ (z3 : Int) (S1 : ms), EV q 333 0 [some (.ref 367)] [] S (some (vI z3)) S1 ∧ ((w32 z3 = 0) → EV q 362 187 [some (.ref 367), some (vI x1), some (vI x2), some (vI x3), none, none, none, none] [] S1 r S') ∧ ((¬ w32 z3 = 0) → ∃ (z6 : Int) (S4 : ms), EV q 339 0 [some (.ref 367), some (vI 48), none, none, none, none, none] [] S1 (some (vL z6)) S4 ∧ ∃ (z9 : Int) (S7 : ms), EV q 333 0 [some (.ref 367)] [] S4 (some (vI z9)) S7 ∧ ((¬ w32 z9 = 0) → ((¬ w64 z6 = w64 25779555029136) → ((w64 z6 = w64 54156738319193) → ∃ (z12 : Int) (S10 : ms), EV q 339 0 [some (.ref 367), some (vI 32), none, none, none, none, none] [] S7 (some (vL z12)) S10 ∧ ∃ (S13 : ms), EV q 363 0 [some (.ref 367), none, none, none, none, none, none, none, none, none, none, none] [] S10 none S13 ∧ ∃ (z17 : Int) (S15 : ms), EV q 333 0 [some (.ref 367)] [] S13 (some (vI z17)) S15 ∧ ((w32 z17 = 0) → EV q 362 175 [some (.ref 367), some (vI x1), some (vI x2), some (vI x3), some (vL z6), none, some (vI z12), some (vI (S10.1 367 22))] [] S15 r S') ∧ ((¬ w32 z17 = 0) → ∃ (z20 : Int) (S18 : ms), EV q 265 0 [some (.ref 367), some (.ref 375), some (vI (S10.1 367 22)), some (vI ((S15.1 367 22) - (S10.1 367 22))), none, none] [] S15 (some (vI z20)) S18 ∧ ((w32 z20 = w32 z12) → EV q 362 175 [some (.ref 367), some (vI x1), some (vI x2), some (vI x3), some (vL z6), none, some (vI z12), some (vI (S10.1 367 22))] [] S18 r S') ∧ ((¬ w32 z20 = w32 z12) → ∃ (S21 : ms), EV q 337 0 [some (.ref 367), some (vI 90)] [] S18 none S21 ∧ EV q 362 175 [some (.ref 367), some (vI x1), some (vI x2), some (vI x3), some (vL z6), none, some (vI z12), some (vI (S10.1 367 22))] [] S21 r S'))) ∧ ((¬ w64 z6 = w64 54156738319193) → ∃ (S23 : ms), EV q 337 0 [some (.ref 367), some (vI 81)] [] S7 none S23 ∧ EV q 362 184 [some (.ref 367), some (vI x1), some (vI x2), some (vI x3), some (vL z6), none, none, none] [] S23 r S')) ∧ ((¬ (¬ w64 z6 = w64 25779555029136)) → EV q 362 184 [some (.ref 367), some (vI x1), some (vI x2), some (vI 0), some (vL z6), none, none, none] [] S7 r S')) ∧ ((¬ (¬ w32 z9 = 0)) → r = none ∧ S' = S7)))) : EV q 362 62 [some (.ref 367), some (vI x1), some (vI x2), some (vI x3), none, none, none, none] [] S r S' := by
  unfold EV
  refine ev_bk 1 (S' := (63, [some (.ref 367), some (vI x1), some (vI x2), some (vI x3), none, none, none, none], [vI x3], hp S, 0, 0)) rfl ?_
  refine mv_if 187 rfl rfl (fun c => ?_) (fun c => ?_)
  · have F := F.1 c
    exact F
  · have F := F.2 c
    refine ev_bk 1 (S' := (67, [some (.ref 367), some (vI x1), some (vI x2), some (vI x3), none, none, none, none], [.ref 367], hp S, 0, 0)) rfl ?_
    obtain ⟨z3, S1, e2, F⟩ := F
    refine mv_calv (as := []) (rest := []) e2 (sh_367) rfl rfl rfl ⟨rfl, rfl⟩ rfl rfl rfl rfl rfl ?_
    refine mv_if 187 rfl rfl (fun c => ?_) (fun c => ?_)
    · have F := F.1 c
      exact F
    · have F := F.2 c
      refine ev_bk 2 (S' := (76, [some (.ref 367), some (vI x1), some (vI x2), some (vI x3), none, none, none, none], [vI 48, .ref 367], hp S1, 0, 0)) rfl ?_
      obtain ⟨z6, S4, e5, F⟩ := F
      refine mv_calv (as := [vI 48]) (rest := []) e5 (sh_367) rfl rfl rfl ⟨rfl, rfl⟩ rfl rfl rfl rfl rfl ?_
      refine ev_bk 2 (S' := (82, [some (.ref 367), some (vI x1), some (vI x2), some (vI x3), some (vL z6), none, none, none], [.ref 367], hp S4, 0, 0)) rfl ?_
      obtain ⟨z9, S7, e8, F⟩ := F
      refine mv_calv (as := []) (rest := []) e8 (sh_367) rfl rfl rfl ⟨rfl, rfl⟩ rfl rfl rfl rfl rfl ?_
      refine mv_if 89 rfl rfl (fun c => ?_) (fun c => ?_)
      · have F := F.1 c
        refine ev_bk 2 (S' := (94, [some (.ref 367), some (vI x1), some (vI x2), some (vI x3), some (vL z6), none, none, none], [vL 25779555029136, vL z6], hp S7, 0, 0)) rfl ?_
        refine mv_lif 103 rfl rfl rfl (fun c => ?_) (fun c => ?_)
        · have F := F.1 c
          refine ev_bk 2 (S' := (108, [some (.ref 367), some (vI x1), some (vI x2), some (vI x3), some (vL z6), none, none, none], [vL 54156738319193, vL z6], hp S7, 0, 0)) rfl ?_
          refine mv_lif 121 rfl rfl rfl (fun c => ?_) (fun c => ?_)
          · have F := F.1 c
            refine ev_bk 2 (S' := (124, [some (.ref 367), some (vI x1), some (vI x2), some (vI x3), some (vL z6), none, none, none], [vI 32, .ref 367], hp S7, 0, 0)) rfl ?_
            obtain ⟨z12, S10, e11, F⟩ := F
            refine mv_calv (as := [vI 32]) (rest := []) e11 (sh_367) rfl rfl rfl ⟨rfl, rfl⟩ rfl rfl rfl rfl rfl ?_
            refine mv_l2i rfl ?_
            refine ev_bk 2 (S' := (131, [some (.ref 367), some (vI x1), some (vI x2), some (vI x3), some (vL z6), none, some (vI z12), none], [.ref 367], hp S10, 0, 0)) rfl ?_
            refine mv_gfI rfl rfl (sh_367) (by decide) rfl ?_
            refine ev_bk 2 (S' := (137, [some (.ref 367), some (vI x1), some (vI x2), some (vI x3), some (vL z6), none, some (vI z12), some (vI (S10.1 367 22))], [.ref 367], hp S10, 0, 0)) rfl ?_
            obtain ⟨S13, e14, F⟩ := F
            refine mv_calv (as := []) (rest := []) e14 (sh_367) rfl rfl rfl ⟨rfl, rfl⟩ rfl rfl rfl rfl rfl ?_
            refine ev_bk 1 (S' := (141, [some (.ref 367), some (vI x1), some (vI x2), some (vI x3), some (vL z6), none, some (vI z12), some (vI (S10.1 367 22))], [.ref 367], hp S13, 0, 0)) rfl ?_
            obtain ⟨z17, S15, e16, F⟩ := F
            refine mv_calv (as := []) (rest := []) e16 (sh_367) rfl rfl rfl ⟨rfl, rfl⟩ rfl rfl rfl rfl rfl ?_
            refine mv_if 175 rfl rfl (fun c => ?_) (fun c => ?_)
            · have F := F.1 c
              exact F
            · have F := F.2 c
              refine ev_bk 2 (S' := (149, [some (.ref 367), some (vI x1), some (vI x2), some (vI x3), some (vL z6), none, some (vI z12), some (vI (S10.1 367 22))], [.ref 367, .ref 367], hp S15, 0, 0)) rfl ?_
              refine mv_gfR rfl rfl (sh_367) (by decide) rfl ?_
              refine ev_bk 2 (S' := (155, [some (.ref 367), some (vI x1), some (vI x2), some (vI x3), some (vL z6), none, some (vI z12), some (vI (S10.1 367 22))], [.ref 367, vI (S10.1 367 22), .ref 375, .ref 367], hp S15, 0, 0)) rfl ?_
              refine mv_gfI rfl rfl (sh_367) (by decide) rfl ?_
              refine ev_bk 1 (S' := (160, [some (.ref 367), some (vI x1), some (vI x2), some (vI x3), some (vL z6), none, some (vI z12), some (vI (S10.1 367 22))], [vI (S10.1 367 22), vI (S15.1 367 22), vI (S10.1 367 22), .ref 375, .ref 367], hp S15, 0, 0)) rfl ?_
              refine mv_isub rfl ?_
              obtain ⟨z20, S18, e19, F⟩ := F
              refine mv_calv (as := [.ref 375, vI (S10.1 367 22), vI ((S15.1 367 22) - (S10.1 367 22))]) (rest := []) e19 (sh_367) rfl rfl rfl ⟨rfl, rfl⟩ rfl rfl rfl rfl rfl ?_
              refine ev_bk 1 (S' := (166, [some (.ref 367), some (vI x1), some (vI x2), some (vI x3), some (vL z6), none, some (vI z12), some (vI (S10.1 367 22))], [vI z12, vI z20], hp S18, 0, 0)) rfl ?_
              refine mv_icmp 175 rfl rfl (fun c => ?_) (fun c => ?_)
              · have F := F.1 c
                exact F
              · have F := F.2 c
                refine ev_bk 2 (S' := (172, [some (.ref 367), some (vI x1), some (vI x2), some (vI x3), some (vL z6), none, some (vI z12), some (vI (S10.1 367 22))], [vI 90, .ref 367], hp S18, 0, 0)) rfl ?_
                obtain ⟨S21, e22, F⟩ := F
                refine mv_calv (as := [vI 90]) (rest := []) e22 (sh_367) rfl rfl rfl ⟨rfl, rfl⟩ rfl rfl rfl rfl rfl ?_
                exact F
          · have F := F.2 c
            refine ev_bk 2 (S' := (115, [some (.ref 367), some (vI x1), some (vI x2), some (vI x3), some (vL z6), none, none, none], [vI 81, .ref 367], hp S7, 0, 0)) rfl ?_
            obtain ⟨S23, e24, F⟩ := F
            refine mv_calv (as := [vI 81]) (rest := []) e24 (sh_367) rfl rfl rfl ⟨rfl, rfl⟩ rfl rfl rfl rfl rfl ?_
            refine mv_goto 184 rfl rfl ?_
            exact F
        · have F := F.2 c
          refine ev_bk 2 (S' := (100, [some (.ref 367), some (vI x1), some (vI x2), some (vI 0), some (vL z6), none, none, none], [], hp S7, 0, 0)) rfl ?_
          refine mv_goto 184 rfl rfl ?_
          exact F
      · have F := F.2 c
        obtain ⟨rfl, rfl⟩ := F
        exact ev_ret rfl rfl
theorem vc_MD_openSorted_175 {q : Nat × (Nat → Int32)} {S S' : ms} {r : Option Value} (x1 x2 x3 x4 x6 x7 : Int)
    (F : ∃ (z3 : Int) (S1 : ms), EV q 269 0 [some (vI x2), some (vI 1)] [] S (some (vI z3)) S1 ∧ EV q 362 184 [some (.ref 367), some (vI x1), some (vI (bX z3 x6)), some (vI x3), some (vL x4), none, none, none] [] S1 r S') : EV q 362 175 [some (.ref 367), some (vI x1), some (vI x2), some (vI x3), some (vL x4), none, some (vI x6), some (vI x7)] [] S r S' := by
  unfold EV
  refine ev_bk 2 (S' := (177, [some (.ref 367), some (vI x1), some (vI x2), some (vI x3), some (vL x4), none, some (vI x6), some (vI x7)], [vI 1, vI x2], hp S, 0, 0)) rfl ?_
  obtain ⟨z3, S1, e2, F⟩ := F
  refine mv_cals (as := [vI x2, vI 1]) (rest := []) e2 rfl rfl rfl ⟨rfl, rfl, rfl⟩ rfl rfl rfl rfl ?_
  refine ev_bk 1 (S' := (182, [some (.ref 367), some (vI x1), some (vI x2), some (vI x3), some (vL x4), none, some (vI x6), some (vI x7)], [vI x6, vI z3], hp S1, 0, 0)) rfl ?_
  refine mv_ixor rfl ?_
  refine ev_bk 1 (S' := (184, [some (.ref 367), some (vI x1), some (vI (bX z3 x6)), some (vI x3), some (vL x4), none, some (vI x6), some (vI x7)], [], hp S1, 0, 0)) rfl ?_
  exact ev_wk (le_s (le_s (le_s (le_s (le_s (le_s (le_n (le_n le_0)))))))) F
theorem vc_MD_openSorted_184 {q : Nat × (Nat → Int32)} {S S' : ms} {r : Option Value} (x1 x2 x3 x4 : Int)
    (F : EV q 362 62 [some (.ref 367), some (vI x1), some (vI x2), some (vI x3), none, none, none, none] [] S r S') : EV q 362 184 [some (.ref 367), some (vI x1), some (vI x2), some (vI x3), some (vL x4), none, none, none] [] S r S' := by
  unfold EV
  refine mv_goto 62 rfl rfl ?_
  exact ev_wk (le_s (le_s (le_s (le_s (le_n (le_s (le_s (le_s le_0)))))))) F
theorem vc_MD_openSorted_187 {q : Nat × (Nat → Int32)} {S S' : ms} {r : Option Value} (x1 x2 x3 : Int)
    (F : ∃ (z3 : Int) (S1 : ms), EV q 339 0 [some (.ref 367), some (vI 32), none, none, none, none, none] [] S (some (vL z3)) S1 ∧ ∃ (z6 : Int) (S4 : ms), EV q 333 0 [some (.ref 367)] [] S1 (some (vI z6)) S4 ∧ ((w32 z6 = 0) → EV q 362 215 [some (.ref 367), some (vI x1), some (vI x2), some (vI x3), some (vI z3), none, none, none] [] S4 r S') ∧ ((¬ w32 z6 = 0) → ((w32 z3 = w32 x2) → EV q 362 215 [some (.ref 367), some (vI x1), some (vI x2), some (vI x3), some (vI z3), none, none, none] [] S4 r S') ∧ ((¬ w32 z3 = w32 x2) → ∃ (S7 : ms), EV q 337 0 [some (.ref 367), some (vI 91)] [] S4 none S7 ∧ EV q 362 215 [some (.ref 367), some (vI x1), some (vI x2), some (vI x3), some (vI z3), none, none, none] [] S7 r S'))) : EV q 362 187 [some (.ref 367), some (vI x1), some (vI x2), some (vI x3), none, none, none, none] [] S r S' := by
  unfold EV
  refine ev_bk 2 (S' := (190, [some (.ref 367), some (vI x1), some (vI x2), some (vI x3), none, none, none, none], [vI 32, .ref 367], hp S, 0, 0)) rfl ?_
  obtain ⟨z3, S1, e2, F⟩ := F
  refine mv_calv (as := [vI 32]) (rest := []) e2 (sh_367) rfl rfl rfl ⟨rfl, rfl⟩ rfl rfl rfl rfl rfl ?_
  refine mv_l2i rfl ?_
  refine ev_bk 2 (S' := (197, [some (.ref 367), some (vI x1), some (vI x2), some (vI x3), some (vI z3), none, none, none], [.ref 367], hp S1, 0, 0)) rfl ?_
  obtain ⟨z6, S4, e5, F⟩ := F
  refine mv_calv (as := []) (rest := []) e5 (sh_367) rfl rfl rfl ⟨rfl, rfl⟩ rfl rfl rfl rfl rfl ?_
  refine mv_if 215 rfl rfl (fun c => ?_) (fun c => ?_)
  · have F := F.1 c
    exact F
  · have F := F.2 c
    refine ev_bk 2 (S' := (206, [some (.ref 367), some (vI x1), some (vI x2), some (vI x3), some (vI z3), none, none, none], [vI x2, vI z3], hp S4, 0, 0)) rfl ?_
    refine mv_icmp 215 rfl rfl (fun c => ?_) (fun c => ?_)
    · have F := F.1 c
      exact F
    · have F := F.2 c
      refine ev_bk 2 (S' := (212, [some (.ref 367), some (vI x1), some (vI x2), some (vI x3), some (vI z3), none, none, none], [vI 91, .ref 367], hp S4, 0, 0)) rfl ?_
      obtain ⟨S7, e8, F⟩ := F
      refine mv_calv (as := [vI 91]) (rest := []) e8 (sh_367) rfl rfl rfl ⟨rfl, rfl⟩ rfl rfl rfl rfl rfl ?_
      exact F
theorem vc_MD_openSorted_215 {q : Nat × (Nat → Int32)} {S S' : ms} {r : Option Value} (x1 x2 x3 x4 : Int)
    (F : ∃ (S1 : ms), EV q 341 0 [some (.ref 367)] [] S none S1 ∧ r = none ∧ S' = S1) : EV q 362 215 [some (.ref 367), some (vI x1), some (vI x2), some (vI x3), some (vI x4), none, none, none] [] S r S' := by
  unfold EV
  refine ev_bk 1 (S' := (216, [some (.ref 367), some (vI x1), some (vI x2), some (vI x3), some (vI x4), none, none, none], [.ref 367], hp S, 0, 0)) rfl ?_
  obtain ⟨S1, e2, F⟩ := F
  refine mv_calv (as := []) (rest := []) e2 (sh_367) rfl rfl rfl ⟨rfl, rfl⟩ rfl rfl rfl rfl rfl ?_
  obtain ⟨rfl, rfl⟩ := F
  exact ev_ret rfl rfl
theorem vc_MD_sortedBlock {q : Nat × (Nat → Int32)} {S S' : ms} {r : Option Value}
    (F : ∃ (z3 : Int) (S1 : ms), EV q 340 0 [some (.ref 367), none] [] S (some (vI z3)) S1 ∧ ∃ (z6 : Int) (S4 : ms), EV q 333 0 [some (.ref 367)] [] S1 (some (vI z6)) S4 ∧ ((w32 z6 = 0) → EV q 363 23 [some (.ref 367), some (vI z3), none, none, none, none, none, none, none, none, none, none] [] S4 r S') ∧ ((¬ w32 z6 = 0) → ((¬ w32 z3 = 1) → EV q 363 23 [some (.ref 367), some (vI z3), none, none, none, none, none, none, none, none, none, none] [] S4 r S') ∧ ((¬ (¬ w32 z3 = 1)) → ∃ (S7 : ms), EV q 337 0 [some (.ref 367), some (vI 82)] [] S4 none S7 ∧ EV q 363 23 [some (.ref 367), some (vI z3), none, none, none, none, none, none, none, none, none, none] [] S7 r S'))) : EV q 363 0 [some (.ref 367), none, none, none, none, none, none, none, none, none, none, none] [] S r S' := by
  unfold EV
  refine ev_bk 1 (S' := (1, [some (.ref 367), none, none, none, none, none, none, none, none, none, none, none], [.ref 367], hp S, 0, 0)) rfl ?_
  obtain ⟨z3, S1, e2, F⟩ := F
  refine mv_calv (as := []) (rest := []) e2 (sh_367) rfl rfl rfl ⟨rfl, rfl⟩ rfl rfl rfl rfl rfl ?_
  refine ev_bk 2 (S' := (6, [some (.ref 367), some (vI z3), none, none, none, none, none, none, none, none, none, none], [.ref 367], hp S1, 0, 0)) rfl ?_
  obtain ⟨z6, S4, e5, F⟩ := F
  refine mv_calv (as := []) (rest := []) e5 (sh_367) rfl rfl rfl ⟨rfl, rfl⟩ rfl rfl rfl rfl rfl ?_
  refine mv_if 23 rfl rfl (fun c => ?_) (fun c => ?_)
  · have F := F.1 c
    exact F
  · have F := F.2 c
    refine ev_bk 2 (S' := (14, [some (.ref 367), some (vI z3), none, none, none, none, none, none, none, none, none, none], [vI 1, vI z3], hp S4, 0, 0)) rfl ?_
    refine mv_icmp 23 rfl rfl (fun c => ?_) (fun c => ?_)
    · have F := F.1 c
      exact F
    · have F := F.2 c
      refine ev_bk 2 (S' := (20, [some (.ref 367), some (vI z3), none, none, none, none, none, none, none, none, none, none], [vI 82, .ref 367], hp S4, 0, 0)) rfl ?_
      obtain ⟨S7, e8, F⟩ := F
      refine mv_calv (as := [vI 82]) (rest := []) e8 (sh_367) rfl rfl rfl ⟨rfl, rfl⟩ rfl rfl rfl rfl rfl ?_
      exact F
theorem vc_MD_sortedBlock_23 {q : Nat × (Nat → Int32)} {S S' : ms} {r : Option Value} (x1 : Int)
    (F : ∃ (z3 : Int) (S1 : ms), EV q 339 0 [some (.ref 367), some (vI 24), none, none, none, none, none] [] S (some (vL z3)) S1 ∧ ∃ (z6 : Int) (S4 : ms), EV q 339 0 [some (.ref 367), some (vI 16), none, none, none, none, none] [] S1 (some (vL z6)) S4 ∧ EV q 363 45 [some (.ref 367), some (vI x1), some (vL z3), none, some (vI z6), some (vI 0), some (vI 0), none, none, none, none, none] [] S4 r S') : EV q 363 23 [some (.ref 367), some (vI x1), none, none, none, none, none, none, none, none, none, none] [] S r S' := by
  unfold EV
  refine ev_bk 2 (S' := (26, [some (.ref 367), some (vI x1), none, none, none, none, none, none, none, none, none, none], [vI 24, .ref 367], hp S, 0, 0)) rfl ?_
  obtain ⟨z3, S1, e2, F⟩ := F
  refine mv_calv (as := [vI 24]) (rest := []) e2 (sh_367) rfl rfl rfl ⟨rfl, rfl⟩ rfl rfl rfl rfl rfl ?_
  refine ev_bk 3 (S' := (33, [some (.ref 367), some (vI x1), some (vL z3), none, none, none, none, none, none, none, none, none], [vI 16, .ref 367], hp S1, 0, 0)) rfl ?_
  obtain ⟨z6, S4, e5, F⟩ := F
  refine mv_calv (as := [vI 16]) (rest := []) e5 (sh_367) rfl rfl rfl ⟨rfl, rfl⟩ rfl rfl rfl rfl rfl ?_
  refine mv_l2i rfl ?_
  refine ev_bk 5 (S' := (45, [some (.ref 367), some (vI x1), some (vL z3), none, some (vI z6), some (vI 0), some (vI 0), none, none, none, none, none], [], hp S4, 0, 0)) rfl ?_
  exact F
theorem vc_MD_sortedBlock_45 {q : Nat × (Nat → Int32)} {S S' : ms} {r : Option Value} (x1 x2 x4 x5 x6 : Int)
    (F : ((16 ≤ w32 x6) → EV q 363 146 [some (.ref 367), some (vI x1), some (vL x2), none, some (vI x4), some (vI x5), some (vI x6), none, none, none, none, none] [] S r S') ∧ ((¬ 16 ≤ w32 x6) → ∃ (z3 : Int) (S1 : ms), EV q 333 0 [some (.ref 367)] [] S (some (vI z3)) S1 ∧ ((w32 z3 = 0) → EV q 363 146 [some (.ref 367), some (vI x1), some (vL x2), none, some (vI x4), some (vI x5), some (vI x6), none, none, none, none, none] [] S1 r S') ∧ ((¬ w32 z3 = 0) → ((¬ w32 ((w32 x4 / ((2 : Int) ^ ((15 - x6) % 32).toNat)) % 2) = 0) → ∃ (z6 : Int) (S4 : ms), EV q 339 0 [some (.ref 367), some (vI 16), none, none, none, none, none] [] S1 (some (vL z6)) S4 ∧ EV q 363 87 [some (.ref 367), some (vI x1), some (vL x2), none, some (vI x4), some (vI x5), some (vI x6), some (vI z6), some (vI 0), none, none, none] [] S4 r S') ∧ ((¬ (¬ w32 ((w32 x4 / ((2 : Int) ^ ((15 - x6) % 32).toNat)) % 2) = 0)) → EV q 363 140 [some (.ref 367), some (vI x1), some (vL x2), none, some (vI x4), some (vI x5), some (vI x6), none, none, none, none, none] [] S1 r S')))) : EV q 363 45 [some (.ref 367), some (vI x1), some (vL x2), none, some (vI x4), some (vI x5), some (vI x6), none, none, none, none, none] [] S r S' := by
  unfold EV
  refine ev_bk 2 (S' := (49, [some (.ref 367), some (vI x1), some (vL x2), none, some (vI x4), some (vI x5), some (vI x6), none, none, none, none, none], [vI 16, vI x6], hp S, 0, 0)) rfl ?_
  refine mv_icmp 146 rfl rfl (fun c => ?_) (fun c => ?_)
  · have F := F.1 c
    exact F
  · have F := F.2 c
    refine ev_bk 1 (S' := (53, [some (.ref 367), some (vI x1), some (vL x2), none, some (vI x4), some (vI x5), some (vI x6), none, none, none, none, none], [.ref 367], hp S, 0, 0)) rfl ?_
    obtain ⟨z3, S1, e2, F⟩ := F
    refine mv_calv (as := []) (rest := []) e2 (sh_367) rfl rfl rfl ⟨rfl, rfl⟩ rfl rfl rfl rfl rfl ?_
    refine mv_if 146 rfl rfl (fun c => ?_) (fun c => ?_)
    · have F := F.1 c
      exact F
    · have F := F.2 c
      refine ev_bk 3 (S' := (65, [some (.ref 367), some (vI x1), some (vL x2), none, some (vI x4), some (vI x5), some (vI x6), none, none, none, none, none], [vI x6, vI 15, vI x4], hp S1, 0, 0)) rfl ?_
      refine mv_isub rfl ?_
      refine mv_ishr ((2 : Int) ^ ((15 - x6) % 32).toNat) rfl rfl ?_
      refine ev_bk 1 (S' := (68, [some (.ref 367), some (vI x1), some (vL x2), none, some (vI x4), some (vI x5), some (vI x6), none, none, none, none, none], [vI 1, vI (w32 x4 / ((2 : Int) ^ ((15 - x6) % 32).toNat))], hp S1, 0, 0)) rfl ?_
      refine mv_iandm 2 1 (by decide) rfl rfl rfl ?_
      refine mv_if 75 rfl rfl (fun c => ?_) (fun c => ?_)
      · have F := F.1 c
        refine ev_bk 2 (S' := (78, [some (.ref 367), some (vI x1), some (vL x2), none, some (vI x4), some (vI x5), some (vI x6), none, none, none, none, none], [vI 16, .ref 367], hp S1, 0, 0)) rfl ?_
        obtain ⟨z6, S4, e5, F⟩ := F
        refine mv_calv (as := [vI 16]) (rest := []) e5 (sh_367) rfl rfl rfl ⟨rfl, rfl⟩ rfl rfl rfl rfl rfl ?_
        refine mv_l2i rfl ?_
        refine ev_bk 3 (S' := (87, [some (.ref 367), some (vI x1), some (vL x2), none, some (vI x4), some (vI x5), some (vI x6), some (vI z6), some (vI 0), none, none, none], [], hp S4, 0, 0)) rfl ?_
        exact F
      · have F := F.2 c
        refine mv_goto 140 rfl rfl ?_
        exact F
theorem vc_MD_sortedBlock_87 {q : Nat × (Nat → Int32)} {S S' : ms} {r : Option Value} (x1 x2 x4 x5 x6 x7 x8 : Int)
    (F : ((16 ≤ w32 x8) → EV q 363 140 [some (.ref 367), some (vI x1), some (vL x2), none, some (vI x4), some (vI x5), some (vI x6), none, none, none, none, none] [] S r S') ∧ ((¬ 16 ≤ w32 x8) → ∃ (z3 : Int) (S1 : ms), EV q 333 0 [some (.ref 367)] [] S (some (vI z3)) S1 ∧ ((w32 z3 = 0) → EV q 363 140 [some (.ref 367), some (vI x1), some (vL x2), none, some (vI x4), some (vI x5), some (vI x6), none, none, none, none, none] [] S1 r S') ∧ ((¬ w32 z3 = 0) → ((¬ w32 ((w32 x7 / ((2 : Int) ^ ((15 - x8) % 32).toNat)) % 2) = 1) → EV q 363 134 [some (.ref 367), some (vI x1), some (vL x2), none, some (vI x4), some (vI x5), some (vI x6), some (vI x7), some (vI x8), none, none, none] [] S1 r S') ∧ ((¬ (¬ w32 ((w32 x7 / ((2 : Int) ^ ((15 - x8) % 32).toNat)) % 2) = 1)) → (0 ≤ w32 x5 ∧ w32 x5 < (256 : Nat)) ∧ ∀ S5 : ms, S5 = wI S1 409 (w32 x5) (b8 (b8 ((16 * x6) + x8))) → EV q 363 134 [some (.ref 367), some (vI x1), some (vL x2), none, some (vI x4), some (vI (x5 + 1)), some (vI x6), some (vI x7), some (vI x8), none, none, none] [] S5 r S')))) : EV q 363 87 [some (.ref 367), some (vI x1), some (vL x2), none, some (vI x4), some (vI x5), some (vI x6), some (vI x7), some (vI x8), none, none, none] [] S r S' := by
  unfold EV
  refine ev_bk 2 (S' := (91, [some (.ref 367), some (vI x1), some (vL x2), none, some (vI x4), some (vI x5), some (vI x6), some (vI x7), some (vI x8), none, none, none], [vI 16, vI x8], hp S, 0, 0)) rfl ?_
  refine mv_icmp 140 rfl rfl (fun c => ?_) (fun c => ?_)
  · have F := F.1 c
    exact ev_wk (le_s (le_s (le_s (le_s (le_s (le_s (le_s (le_n (le_n (le_s (le_s (le_s le_0)))))))))))) F
  · have F := F.2 c
    refine ev_bk 1 (S' := (95, [some (.ref 367), some (vI x1), some (vL x2), none, some (vI x4), some (vI x5), some (vI x6), some (vI x7), some (vI x8), none, none, none], [.ref 367], hp S, 0, 0)) rfl ?_
    obtain ⟨z3, S1, e2, F⟩ := F
    refine mv_calv (as := []) (rest := []) e2 (sh_367) rfl rfl rfl ⟨rfl, rfl⟩ rfl rfl rfl rfl rfl ?_
    refine mv_if 140 rfl rfl (fun c => ?_) (fun c => ?_)
    · have F := F.1 c
      exact ev_wk (le_s (le_s (le_s (le_s (le_s (le_s (le_s (le_n (le_n (le_s (le_s (le_s le_0)))))))))))) F
    · have F := F.2 c
      refine ev_bk 3 (S' := (107, [some (.ref 367), some (vI x1), some (vL x2), none, some (vI x4), some (vI x5), some (vI x6), some (vI x7), some (vI x8), none, none, none], [vI x8, vI 15, vI x7], hp S1, 0, 0)) rfl ?_
      refine mv_isub rfl ?_
      refine mv_ishr ((2 : Int) ^ ((15 - x8) % 32).toNat) rfl rfl ?_
      refine ev_bk 1 (S' := (110, [some (.ref 367), some (vI x1), some (vL x2), none, some (vI x4), some (vI x5), some (vI x6), some (vI x7), some (vI x8), none, none, none], [vI 1, vI (w32 x7 / ((2 : Int) ^ ((15 - x8) % 32).toNat))], hp S1, 0, 0)) rfl ?_
      refine mv_iandm 2 1 (by decide) rfl rfl rfl ?_
      refine ev_bk 1 (S' := (112, [some (.ref 367), some (vI x1), some (vL x2), none, some (vI x4), some (vI x5), some (vI x6), some (vI x7), some (vI x8), none, none, none], [vI 1, vI ((w32 x7 / ((2 : Int) ^ ((15 - x8) % 32).toNat)) % 2)], hp S1, 0, 0)) rfl ?_
      refine mv_icmp 134 rfl rfl (fun c => ?_) (fun c => ?_)
      · have F := F.1 c
        exact F
      · have F := F.2 c
        refine ev_bk 1 (S' := (116, [some (.ref 367), some (vI x1), some (vL x2), none, some (vI x4), some (vI x5), some (vI x6), some (vI x7), some (vI x8), none, none, none], [.ref 367], hp S1, 0, 0)) rfl ?_
        refine mv_gfR rfl rfl (sh_367) (by decide) rfl ?_
        refine ev_bk 3 (S' := (125, [some (.ref 367), some (vI x1), some (vL x2), none, some (vI x4), some (vI x5), some (vI x6), some (vI x7), some (vI x8), none, none, none], [vI x6, vI 16, vI x5, .ref 409], hp S1, 0, 0)) rfl ?_
        refine mv_imul rfl ?_
        refine ev_bk 1 (S' := (128, [some (.ref 367), some (vI x1), some (vL x2), none, some (vI x4), some (vI x5), some (vI x6), some (vI x7), some (vI x8), none, none, none], [vI x8, vI (16 * x6), vI x5, .ref 409], hp S1, 0, 0)) rfl ?_
        refine mv_iadd rfl ?_
        refine mv_i2b rfl ?_
        obtain ⟨b4, F⟩ := F
        refine mv_bas rfl (sh_409) b4 ?_
        have F := F _ rfl
        refine mv_inc (lv' := [some (.ref 367), some (vI x1), some (vL x2), none, some (vI x4), some (vI (x5 + 1)), some (vI x6), some (vI x7), some (vI x8), none, none, none]) 5 1 rfl rfl rfl rfl ?_
        exact F
theorem vc_MD_sortedBlock_134 {q : Nat × (Nat → Int32)} {S S' : ms} {r : Option Value} (x1 x2 x4 x5 x6 x7 x8 : Int)
    (F : EV q 363 87 [some (.ref 367), some (vI x1), some (vL x2), none, some (vI x4), some (vI x5), some (vI x6), some (vI x7), some (vI (x8 + 1)), none, none, none] [] S r S') : EV q 363 134 [some (.ref 367), some (vI x1), some (vL x2), none, some (vI x4), some (vI x5), some (vI x6), some (vI x7), some (vI x8), none, none, none] [] S r S' := by
  unfold EV
  refine mv_inc (lv' := [some (.ref 367), some (vI x1), some (vL x2), none, some (vI x4), some (vI x5), some (vI x6), some (vI x7), some (vI (x8 + 1)), none, none, none]) 8 1 rfl rfl rfl rfl ?_
  refine mv_goto 87 rfl rfl ?_
  exact F
theorem vc_MD_sortedBlock_140 {q : Nat × (Nat → Int32)} {S S' : ms} {r : Option Value} (x1 x2 x4 x5 x6 : Int)
    (F : EV q 363 45 [some (.ref 367), some (vI x1), some (vL x2), none, some (vI x4), some (vI x5), some (vI (x6 + 1)), none, none, none, none, none] [] S r S') : EV q 363 140 [some (.ref 367), some (vI x1), some (vL x2), none, some (vI x4), some (vI x5), some (vI x6), none, none, none, none, none] [] S r S' := by
  unfold EV
  refine mv_inc (lv' := [some (.ref 367), some (vI x1), some (vL x2), none, some (vI x4), some (vI x5), some (vI (x6 + 1)), none, none, none, none, none]) 6 1 rfl rfl rfl rfl ?_
  refine mv_goto 45 rfl rfl ?_
  exact F
theorem vc_MD_sortedBlock_146 {q : Nat × (Nat → Int32)} {S S' : ms} {r : Option Value} (x1 x2 x4 x5 x6 : Int)
    (F : ∃ (z3 : Int) (S1 : ms), EV q 333 0 [some (.ref 367)] [] S (some (vI z3)) S1 ∧ ((w32 z3 = 0) → EV q 363 164 [some (.ref 367), some (vI x1), some (vL x2), none, some (vI x4), some (vI x5), some (vI x6), none, none, none, none, none] [] S1 r S') ∧ ((¬ w32 z3 = 0) → ((¬ w32 x5 = 0) → EV q 363 164 [some (.ref 367), some (vI x1), some (vL x2), none, some (vI x4), some (vI x5), some (vI x6), none, none, none, none, none] [] S1 r S') ∧ ((¬ (¬ w32 x5 = 0)) → ∃ (S4 : ms), EV q 337 0 [some (.ref 367), some (vI 84)] [] S1 none S4 ∧ EV q 363 164 [some (.ref 367), some (vI x1), some (vL x2), none, some (vI x4), some (vI x5), some (vI x6), none, none, none, none, none] [] S4 r S'))) : EV q 363 146 [some (.ref 367), some (vI x1), some (vL x2), none, some (vI x4), some (vI x5), some (vI x6), none, none, none, none, none] [] S r S' := by
  unfold EV
  refine ev_bk 1 (S' := (147, [some (.ref 367), some (vI x1), some (vL x2), none, some (vI x4), some (vI x5), some (vI x6), none, none, none, none, none], [.ref 367], hp S, 0, 0)) rfl ?_
  obtain ⟨z3, S1, e2, F⟩ := F
  refine mv_calv (as := []) (rest := []) e2 (sh_367) rfl rfl rfl ⟨rfl, rfl⟩ rfl rfl rfl rfl rfl ?_
  refine mv_if 164 rfl rfl (fun c => ?_) (fun c => ?_)
  · have F := F.1 c
    exact F
  · have F := F.2 c
    refine ev_bk 1 (S' := (155, [some (.ref 367), some (vI x1), some (vL x2), none, some (vI x4), some (vI x5), some (vI x6), none, none, none, none, none], [vI x5], hp S1, 0, 0)) rfl ?_
    refine mv_if 164 rfl rfl (fun c => ?_) (fun c => ?_)
    · have F := F.1 c
      exact F
    · have F := F.2 c
      refine ev_bk 2 (S' := (161, [some (.ref 367), some (vI x1), some (vL x2), none, some (vI x4), some (vI x5), some (vI x6), none, none, none, none, none], [vI 84, .ref 367], hp S1, 0, 0)) rfl ?_
      obtain ⟨S4, e5, F⟩ := F
      refine mv_calv (as := [vI 84]) (rest := []) e5 (sh_367) rfl rfl rfl ⟨rfl, rfl⟩ rfl rfl rfl rfl rfl ?_
      exact F
theorem vc_MD_sortedBlock_164 {q : Nat × (Nat → Int32)} {S S' : ms} {r : Option Value} (x1 x2 x4 x5 x6 : Int)
    (F : ∃ (z3 : Int) (S1 : ms), EV q 339 0 [some (.ref 367), some (vI 3), none, none, none, none, none] [] S (some (vL z3)) S1 ∧ ∃ (z6 : Int) (S4 : ms), EV q 333 0 [some (.ref 367)] [] S1 (some (vI z6)) S4 ∧ ((w32 z6 = 0) → EV q 363 196 [some (.ref 367), some (vI x1), some (vL x2), none, some (vI x4), some (vI x5), some (vI z3), none, none, none, none, none] [] S4 r S') ∧ ((¬ w32 z6 = 0) → ∃ (z9 : Int) (S7 : ms), EV q 257 0 [some (vI z3), some (vI 2), some (vI 6)] [] S4 (some (vI z9)) S7 ∧ ((¬ w32 z9 = 0) → EV q 363 196 [some (.ref 367), some (vI x1), some (vL x2), none, some (vI x4), some (vI x5), some (vI z3), none, none, none, none, none] [] S7 r S') ∧ ((¬ (¬ w32 z9 = 0)) → ∃ (S10 : ms), EV q 337 0 [some (.ref 367), some (vI 85)] [] S7 none S10 ∧ EV q 363 196 [some (.ref 367), some (vI x1), some (vL x2), none, some (vI x4), some (vI x5), some (vI z3), none, none, none, none, none] [] S10 r S'))) : EV q 363 164 [some (.ref 367), some (vI x1), some (vL x2), none, some (vI x4), some (vI x5), some (vI x6), none, none, none, none, none] [] S r S' := by
  unfold EV
  refine ev_bk 2 (S' := (166, [some (.ref 367), some (vI x1), some (vL x2), none, some (vI x4), some (vI x5), some (vI x6), none, none, none, none, none], [vI 3, .ref 367], hp S, 0, 0)) rfl ?_
  obtain ⟨z3, S1, e2, F⟩ := F
  refine mv_calv (as := [vI 3]) (rest := []) e2 (sh_367) rfl rfl rfl ⟨rfl, rfl⟩ rfl rfl rfl rfl rfl ?_
  refine mv_l2i rfl ?_
  refine ev_bk 2 (S' := (173, [some (.ref 367), some (vI x1), some (vL x2), none, some (vI x4), some (vI x5), some (vI z3), none, none, none, none, none], [.ref 367], hp S1, 0, 0)) rfl ?_
  obtain ⟨z6, S4, e5, F⟩ := F
  refine mv_calv (as := []) (rest := []) e5 (sh_367) rfl rfl rfl ⟨rfl, rfl⟩ rfl rfl rfl rfl rfl ?_
  refine mv_if 196 rfl rfl (fun c => ?_) (fun c => ?_)
  · have F := F.1 c
    exact F
  · have F := F.2 c
    refine ev_bk 3 (S' := (184, [some (.ref 367), some (vI x1), some (vL x2), none, some (vI x4), some (vI x5), some (vI z3), none, none, none, none, none], [vI 6, vI 2, vI z3], hp S4, 0, 0)) rfl ?_
    obtain ⟨z9, S7, e8, F⟩ := F
    refine mv_cals (as := [vI z3, vI 2, vI 6]) (rest := []) e8 rfl rfl rfl ⟨rfl, rfl, rfl⟩ rfl rfl rfl rfl ?_
    refine mv_if 196 rfl rfl (fun c => ?_) (fun c => ?_)
    · have F := F.1 c
      exact F
    · have F := F.2 c
      refine ev_bk 2 (S' := (193, [some (.ref 367), some (vI x1), some (vL x2), none, some (vI x4), some (vI x5), some (vI z3), none, none, none, none, none], [vI 85, .ref 367], hp S7, 0, 0)) rfl ?_
      obtain ⟨S10, e11, F⟩ := F
      refine mv_calv (as := [vI 85]) (rest := []) e11 (sh_367) rfl rfl rfl ⟨rfl, rfl⟩ rfl rfl rfl rfl rfl ?_
      exact F
theorem vc_MD_sortedBlock_196 {q : Nat × (Nat → Int32)} {S S' : ms} {r : Option Value} (x1 x2 x4 x5 x6 : Int)
    (F : ∃ (z3 : Int) (S1 : ms), EV q 339 0 [some (.ref 367), some (vI 15), none, none, none, none, none] [] S (some (vL z3)) S1 ∧ ∃ (z6 : Int) (S4 : ms), EV q 333 0 [some (.ref 367)] [] S1 (some (vI z6)) S4 ∧ ((w32 z6 = 0) → EV q 363 223 [some (.ref 367), some (vI x1), some (vL x2), none, some (vI x4), some (vI x5), some (vI x6), some (vI z3), none, none, none, none] [] S4 r S') ∧ ((¬ w32 z6 = 0) → ((¬ w32 z3 = 0) → EV q 363 223 [some (.ref 367), some (vI x1), some (vL x2), none, some (vI x4), some (vI x5), some (vI x6), some (vI z3), none, none, none, none] [] S4 r S') ∧ ((¬ (¬ w32 z3 = 0)) → ∃ (S7 : ms), EV q 337 0 [some (.ref 367), some (vI 85)] [] S4 none S7 ∧ EV q 363 223 [some (.ref 367), some (vI x1), some (vL x2), none, some (vI x4), some (vI x5), some (vI x6), some (vI z3), none, none, none, none] [] S7 r S'))) : EV q 363 196 [some (.ref 367), some (vI x1), some (vL x2), none, some (vI x4), some (vI x5), some (vI x6), none, none, none, none, none] [] S r S' := by
  unfold EV
  refine ev_bk 2 (S' := (199, [some (.ref 367), some (vI x1), some (vL x2), none, some (vI x4), some (vI x5), some (vI x6), none, none, none, none, none], [vI 15, .ref 367], hp S, 0, 0)) rfl ?_
  obtain ⟨z3, S1, e2, F⟩ := F
  refine mv_calv (as := [vI 15]) (rest := []) e2 (sh_367) rfl rfl rfl ⟨rfl, rfl⟩ rfl rfl rfl rfl rfl ?_
  refine mv_l2i rfl ?_
  refine ev_bk 2 (S' := (206, [some (.ref 367), some (vI x1), some (vL x2), none, some (vI x4), some (vI x5), some (vI x6), some (vI z3), none, none, none, none], [.ref 367], hp S1, 0, 0)) rfl ?_
  obtain ⟨z6, S4, e5, F⟩ := F
  refine mv_calv (as := []) (rest := []) e5 (sh_367) rfl rfl rfl ⟨rfl, rfl⟩ rfl rfl rfl rfl rfl ?_
  refine mv_if 223 rfl rfl (fun c => ?_) (fun c => ?_)
  · have F := F.1 c
    exact F
  · have F := F.2 c
    refine ev_bk 1 (S' := (214, [some (.ref 367), some (vI x1), some (vL x2), none, some (vI x4), some (vI x5), some (vI x6), some (vI z3), none, none, none, none], [vI z3], hp S4, 0, 0)) rfl ?_
    refine mv_if 223 rfl rfl (fun c => ?_) (fun c => ?_)
    · have F := F.1 c
      exact F
    · have F := F.2 c
      refine ev_bk 2 (S' := (220, [some (.ref 367), some (vI x1), some (vL x2), none, some (vI x4), some (vI x5), some (vI x6), some (vI z3), none, none, none, none], [vI 85, .ref 367], hp S4, 0, 0)) rfl ?_
      obtain ⟨S7, e8, F⟩ := F
      refine mv_calv (as := [vI 85]) (rest := []) e8 (sh_367) rfl rfl rfl ⟨rfl, rfl⟩ rfl rfl rfl rfl rfl ?_
      exact F
theorem vc_MD_sortedBlock_223 {q : Nat × (Nat → Int32)} {S S' : ms} {r : Option Value} (x1 x2 x4 x5 x6 x7 : Int)
    (F : EV q 363 226 [some (.ref 367), some (vI x1), some (vL x2), none, some (vI x4), some (vI x5), some (vI x6), some (vI x7), some (vI 0), none, none, none] [] S r S') : EV q 363 223 [some (.ref 367), some (vI x1), some (vL x2), none, some (vI x4), some (vI x5), some (vI x6), some (vI x7), none, none, none, none] [] S r S' := by
  unfold EV
  refine ev_bk 2 (S' := (226, [some (.ref 367), some (vI x1), some (vL x2), none, some (vI x4), some (vI x5), some (vI x6), some (vI x7), some (vI 0), none, none, none], [], hp S, 0, 0)) rfl ?_
  exact F
theorem vc_MD_sortedBlock_226 {q : Nat × (Nat → Int32)} {S S' : ms} {r : Option Value} (x1 x2 x4 x5 x6 x7 x8 : Int)
    (F : ((6 ≤ w32 x8) → EV q 363 252 [some (.ref 367), some (vI x1), some (vL x2), none, some (vI x4), some (vI x5), some (vI x6), some (vI x7), some (vI 0), none, none, none] [] S r S') ∧ ((¬ 6 ≤ w32 x8) → (0 ≤ w32 x8 ∧ w32 x8 < (256 : Nat)) ∧ ∀ S2 : ms, S2 = wI S 410 (w32 x8) (b8 (b8 x8)) → EV q 363 226 [some (.ref 367), some (vI x1), some (vL x2), none, some (vI x4), some (vI x5), some (vI x6), some (vI x7), some (vI (x8 + 1)), none, none, none] [] S2 r S')) : EV q 363 226 [some (.ref 367), some (vI x1), some (vL x2), none, some (vI x4), some (vI x5), some (vI x6), some (vI x7), some (vI x8), none, none, none] [] S r S' := by
  unfold EV
  refine ev_bk 2 (S' := (230, [some (.ref 367), some (vI x1), some (vL x2), none, some (vI x4), some (vI x5), some (vI x6), some (vI x7), some (vI x8), none, none, none], [vI 6, vI x8], hp S, 0, 0)) rfl ?_
  refine mv_icmp 249 rfl rfl (fun c => ?_) (fun c => ?_)
  · have F := F.1 c
    refine ev_bk 2 (S' := (252, [some (.ref 367), some (vI x1), some (vL x2), none, some (vI x4), some (vI x5), some (vI x6), some (vI x7), some (vI 0), none, none, none], [], hp S, 0, 0)) rfl ?_
    exact F
  · have F := F.2 c
    refine ev_bk 1 (S' := (234, [some (.ref 367), some (vI x1), some (vL x2), none, some (vI x4), some (vI x5), some (vI x6), some (vI x7), some (vI x8), none, none, none], [.ref 367], hp S, 0, 0)) rfl ?_
    refine mv_gfR rfl rfl (sh_367) (by decide) rfl ?_
    refine ev_bk 2 (S' := (241, [some (.ref 367), some (vI x1), some (vL x2), none, some (vI x4), some (vI x5), some (vI x6), some (vI x7), some (vI x8), none, none, none], [vI x8, vI x8, .ref 410], hp S, 0, 0)) rfl ?_
    refine mv_i2b rfl ?_
    obtain ⟨b1, F⟩ := F
    refine mv_bas rfl (sh_410) b1 ?_
    have F := F _ rfl
    refine mv_inc (lv' := [some (.ref 367), some (vI x1), some (vL x2), none, some (vI x4), some (vI x5), some (vI x6), some (vI x7), some (vI (x8 + 1)), none, none, none]) 8 1 rfl rfl rfl rfl ?_
    refine mv_goto 226 rfl rfl ?_
    exact F
theorem vc_MD_sortedBlock_252 {q : Nat × (Nat → Int32)} {S S' : ms} {r : Option Value} (x1 x2 x4 x5 x6 x7 x8 : Int)
    (F : ((w32 x7 ≤ w32 x8) → EV q 363 335 [some (.ref 367), some (vI x1), some (vL x2), none, some (vI x4), some (vI x5), some (vI x6), some (vI x7), some (vI x8), none, none, none] [] S r S') ∧ ((¬ w32 x7 ≤ w32 x8) → ∃ (z3 : Int) (S1 : ms), EV q 333 0 [some (.ref 367)] [] S (some (vI z3)) S1 ∧ ((w32 z3 = 0) → EV q 363 335 [some (.ref 367), some (vI x1), some (vL x2), none, some (vI x4), some (vI x5), some (vI x6), some (vI x7), some (vI x8), none, none, none] [] S1 r S') ∧ ((¬ w32 z3 = 0) → EV q 363 269 [some (.ref 367), some (vI x1), some (vL x2), none, some (vI x4), some (vI x5), some (vI x6), some (vI x7), some (vI x8), some (vI 0), none, none] [] S1 r S'))) : EV q 363 252 [some (.ref 367), some (vI x1), some (vL x2), none, some (vI x4), some (vI x5), some (vI x6), some (vI x7), some (vI x8), none, none, none] [] S r S' := by
  unfold EV
  refine ev_bk 2 (S' := (256, [some (.ref 367), some (vI x1), some (vL x2), none, some (vI x4), some (vI x5), some (vI x6), some (vI x7), some (vI x8), none, none, none], [vI x7, vI x8], hp S, 0, 0)) rfl ?_
  refine mv_icmp 335 rfl rfl (fun c => ?_) (fun c => ?_)
  · have F := F.1 c
    exact F
  · have F := F.2 c
    refine ev_bk 1 (S' := (260, [some (.ref 367), some (vI x1), some (vL x2), none, some (vI x4), some (vI x5), some (vI x6), some (vI x7), some (vI x8), none, none, none], [.ref 367], hp S, 0, 0)) rfl ?_
    obtain ⟨z3, S1, e2, F⟩ := F
    refine mv_calv (as := []) (rest := []) e2 (sh_367) rfl rfl rfl ⟨rfl, rfl⟩ rfl rfl rfl rfl rfl ?_
    refine mv_if 335 rfl rfl (fun c => ?_) (fun c => ?_)
    · have F := F.1 c
      exact F
    · have F := F.2 c
      refine ev_bk 2 (S' := (269, [some (.ref 367), some (vI x1), some (vL x2), none, some (vI x4), some (vI x5), some (vI x6), some (vI x7), some (vI x8), some (vI 0), none, none], [], hp S1, 0, 0)) rfl ?_
      exact F
theorem vc_MD_sortedBlock_269 {q : Nat × (Nat → Int32)} {S S' : ms} {r : Option Value} (x1 x2 x4 x5 x6 x7 x8 x9 : Int)
    (F : ∃ (z3 : Int) (S1 : ms), EV q 333 0 [some (.ref 367)] [] S (some (vI z3)) S1 ∧ ((w32 z3 = 0) → EV q 363 303 [some (.ref 367), some (vI x1), some (vL x2), none, some (vI x4), some (vI x5), some (vI x6), some (vI x7), some (vI x8), some (vI x9), none, none] [] S1 r S') ∧ ((¬ w32 z3 = 0) → ∃ (z6 : Int) (S4 : ms), EV q 340 0 [some (.ref 367), none] [] S1 (some (vI z6)) S4 ∧ ((¬ w32 z6 = 1) → EV q 363 303 [some (.ref 367), some (vI x1), some (vL x2), none, some (vI x4), some (vI x5), some (vI x6), some (vI x7), some (vI x8), some (vI x9), none, none] [] S4 r S') ∧ ((¬ (¬ w32 z6 = 1)) → ((¬ w32 (x9 + 1) = w32 x6) → EV q 363 269 [some (.ref 367), some (vI x1), some (vL x2), none, some (vI x4), some (vI x5), some (vI x6), some (vI x7), some (vI x8), some (vI (x9 + 1)), none, none] [] S4 r S') ∧ ((¬ (¬ w32 (x9 + 1) = w32 x6)) → ∃ (S7 : ms), EV q 337 0 [some (.ref 367), some (vI 86)] [] S4 none S7 ∧ EV q 363 269 [some (.ref 367), some (vI x1), some (vL x2), none, some (vI x4), some (vI x5), some (vI x6), some (vI x7), some (vI x8), some (vI (x9 + 1)), none, none] [] S7 r S')))) : EV q 363 269 [some (.ref 367), some (vI x1), some (vL x2), none, some (vI x4), some (vI x5), some (vI x6), some (vI x7), some (vI x8), some (vI x9), none, none] [] S r S' := by
  unfold EV
  refine ev_bk 1 (S' := (270, [some (.ref 367), some (vI x1), some (vL x2), none, some (vI x4), some (vI x5), some (vI x6), some (vI x7), some (vI x8), some (vI x9), none, none], [.ref 367], hp S, 0, 0)) rfl ?_
  obtain ⟨z3, S1, e2, F⟩ := F
  refine mv_calv (as := []) (rest := []) e2 (sh_367) rfl rfl rfl ⟨rfl, rfl⟩ rfl rfl rfl rfl rfl ?_
  refine mv_if 303 rfl rfl (fun c => ?_) (fun c => ?_)
  · have F := F.1 c
    exact F
  · have F := F.2 c
    refine ev_bk 1 (S' := (277, [some (.ref 367), some (vI x1), some (vL x2), none, some (vI x4), some (vI x5), some (vI x6), some (vI x7), some (vI x8), some (vI x9), none, none], [.ref 367], hp S1, 0, 0)) rfl ?_
    obtain ⟨z6, S4, e5, F⟩ := F
    refine mv_calv (as := []) (rest := []) e5 (sh_367) rfl rfl rfl ⟨rfl, rfl⟩ rfl rfl rfl rfl rfl ?_
    refine ev_bk 1 (S' := (281, [some (.ref 367), some (vI x1), some (vL x2), none, some (vI x4), some (vI x5), some (vI x6), some (vI x7), some (vI x8), some (vI x9), none, none], [vI 1, vI z6], hp S4, 0, 0)) rfl ?_
    refine mv_icmp 303 rfl rfl (fun c => ?_) (fun c => ?_)
    · have F := F.1 c
      exact F
    · have F := F.2 c
      refine mv_inc (lv' := [some (.ref 367), some (vI x1), some (vL x2), none, some (vI x4), some (vI x5), some (vI x6), some (vI x7), some (vI x8), some (vI (x9 + 1)), none, none]) 9 1 rfl rfl rfl rfl ?_
      refine ev_bk 2 (S' := (291, [some (.ref 367), some (vI x1), some (vL x2), none, some (vI x4), some (vI x5), some (vI x6), some (vI x7), some (vI x8), some (vI (x9 + 1)), none, none], [vI x6, vI (x9 + 1)], hp S4, 0, 0)) rfl ?_
      refine mv_icmp 269 rfl rfl (fun c => ?_) (fun c => ?_)
      · have F := F.1 c
        exact F
      · have F := F.2 c
        refine ev_bk 2 (S' := (297, [some (.ref 367), some (vI x1), some (vL x2), none, some (vI x4), some (vI x5), some (vI x6), some (vI x7), some (vI x8), some (vI (x9 + 1)), none, none], [vI 86, .ref 367], hp S4, 0, 0)) rfl ?_
        obtain ⟨S7, e8, F⟩ := F
        refine mv_calv (as := [vI 86]) (rest := []) e8 (sh_367) rfl rfl rfl ⟨rfl, rfl⟩ rfl rfl rfl rfl rfl ?_
        refine mv_goto 269 rfl rfl ?_
        exact F
theorem vc_MD_sortedBlock_303 {q : Nat × (Nat → Int32)} {S S' : ms} {r : Option Value} (x1 x2 x4 x5 x6 x7 x8 x9 : Int)
    (F : ∃ (z3 : Int) (S1 : ms), EV q 333 0 [some (.ref 367)] [] S (some (vI z3)) S1 ∧ ((w32 z3 = 0) → EV q 363 329 [some (.ref 367), some (vI x1), some (vL x2), none, some (vI x4), some (vI x5), some (vI x6), some (vI x7), some (vI x8), some (vI x9), none, none] [] S1 r S') ∧ ((¬ w32 z3 = 0) → ∃ (S4 : ms), EV q 324 0 [some (.ref 367), some (vI x9), none, none] [] S1 none S4 ∧ (0 ≤ w32 0 ∧ w32 0 < (256 : Nat)) ∧ (0 ≤ w32 x8 ∧ w32 x8 < (32768 : Nat)) ∧ ∀ S8 : ms, S8 = wI S4 415 (w32 x8) (b8 (S4.1 410 (w32 0))) → EV q 363 329 [some (.ref 367), some (vI x1), some (vL x2), none, some (vI x4), some (vI x5), some (vI x6), some (vI x7), some (vI x8), some (vI x9), none, none] [] S8 r S')) : EV q 363 303 [some (.ref 367), some (vI x1), some (vL x2), none, some (vI x4), some (vI x5), some (vI x6), some (vI x7), some (vI x8), some (vI x9), none, none] [] S r S' := by
  unfold EV
  refine ev_bk 1 (S' := (304, [some (.ref 367), some (vI x1), some (vL x2), none, some (vI x4), some (vI x5), some (vI x6), some (vI x7), some (vI x8), some (vI x9), none, none], [.ref 367], hp S, 0, 0)) rfl ?_
  obtain ⟨z3, S1, e2, F⟩ := F
  refine mv_calv (as := []) (rest := []) e2 (sh_367) rfl rfl rfl ⟨rfl, rfl⟩ rfl rfl rfl rfl rfl ?_
  refine mv_if 329 rfl rfl (fun c => ?_) (fun c => ?_)
  · have F := F.1 c
    exact F
  · have F := F.2 c
    refine ev_bk 2 (S' := (313, [some (.ref 367), some (vI x1), some (vL x2), none, some (vI x4), some (vI x5), some (vI x6), some (vI x7), some (vI x8), some (vI x9), none, none], [vI x9, .ref 367], hp S1, 0, 0)) rfl ?_
    obtain ⟨S4, e5, F⟩ := F
    refine mv_calv (as := [vI x9]) (rest := []) e5 (sh_367) rfl rfl rfl ⟨rfl, rfl⟩ rfl rfl rfl rfl rfl ?_
    refine ev_bk 1 (S' := (317, [some (.ref 367), some (vI x1), some (vL x2), none, some (vI x4), some (vI x5), some (vI x6), some (vI x7), some (vI x8), some (vI x9), none, none], [.ref 367], hp S4, 0, 0)) rfl ?_
    refine mv_gfR rfl rfl (sh_367) (by decide) rfl ?_
    refine ev_bk 2 (S' := (323, [some (.ref 367), some (vI x1), some (vL x2), none, some (vI x4), some (vI x5), some (vI x6), some (vI x7), some (vI x8), some (vI x9), none, none], [.ref 367, vI x8, .ref 415], hp S4, 0, 0)) rfl ?_
    refine mv_gfR rfl rfl (sh_367) (by decide) rfl ?_
    refine ev_bk 1 (S' := (327, [some (.ref 367), some (vI x1), some (vL x2), none, some (vI x4), some (vI x5), some (vI x6), some (vI x7), some (vI x8), some (vI x9), none, none], [vI 0, .ref 410, vI x8, .ref 415], hp S4, 0, 0)) rfl ?_
    obtain ⟨b6, F⟩ := F
    refine mv_bal rfl (sh_410) b6 ?_
    obtain ⟨b7, F⟩ := F
    refine mv_bas rfl (sh_415) b7 ?_
    have F := F _ rfl
    exact F
theorem vc_MD_sortedBlock_329 {q : Nat × (Nat → Int32)} {S S' : ms} {r : Option Value} (x1 x2 x4 x5 x6 x7 x8 x9 : Int)
    (F : EV q 363 252 [some (.ref 367), some (vI x1), some (vL x2), none, some (vI x4), some (vI x5), some (vI x6), some (vI x7), some (vI (x8 + 1)), none, none, none] [] S r S') : EV q 363 329 [some (.ref 367), some (vI x1), some (vL x2), none, some (vI x4), some (vI x5), some (vI x6), some (vI x7), some (vI x8), some (vI x9), none, none] [] S r S' := by
  unfold EV
  refine mv_inc (lv' := [some (.ref 367), some (vI x1), some (vL x2), none, some (vI x4), some (vI x5), some (vI x6), some (vI x7), some (vI (x8 + 1)), some (vI x9), none, none]) 8 1 rfl rfl rfl rfl ?_
  refine mv_goto 252 rfl rfl ?_
  exact ev_wk (le_s (le_s (le_s (le_s (le_s (le_s (le_s (le_s (le_s (le_n (le_s (le_s le_0)))))))))))) F
theorem vc_MD_sortedBlock_335 {q : Nat × (Nat → Int32)} {S S' : ms} {r : Option Value} (x1 x2 x4 x5 x6 x7 x8 : Int)
    (F : EV q 363 344 [some (.ref 367), some (vI x1), some (vL x2), none, some (vI x4), some (vI x5), some (vI x6), some (vI x7), some (vI (x5 + 2)), some (vI 0), none, none] [] S r S') : EV q 363 335 [some (.ref 367), some (vI x1), some (vL x2), none, some (vI x4), some (vI x5), some (vI x6), some (vI x7), some (vI x8), none, none, none] [] S r S' := by
  unfold EV
  refine ev_bk 2 (S' := (338, [some (.ref 367), some (vI x1), some (vL x2), none, some (vI x4), some (vI x5), some (vI x6), some (vI x7), some (vI x8), none, none, none], [vI 2, vI x5], hp S, 0, 0)) rfl ?_
  refine mv_iadd rfl ?_
  refine ev_bk 3 (S' := (344, [some (.ref 367), some (vI x1), some (vL x2), none, some (vI x4), some (vI x5), some (vI x6), some (vI x7), some (vI (x5 + 2)), some (vI 0), none, none], [], hp S, 0, 0)) rfl ?_
  exact F
theorem vc_MD_sortedBlock_344 {q : Nat × (Nat → Int32)} {S S' : ms} {r : Option Value} (x1 x2 x4 x5 x6 x7 x8 x9 : Int)
    (F : ((w32 x6 ≤ w32 x9) → EV q 363 508 [some (.ref 367), some (vI x1), some (vL x2), none, some (vI x4), some (vI x5), some (vI x6), some (vI x7), some (vI x8), some (vI x9), none, none] [] S r S') ∧ ((¬ w32 x6 ≤ w32 x9) → ∃ (z3 : Int) (S1 : ms), EV q 333 0 [some (.ref 367)] [] S (some (vI z3)) S1 ∧ ((w32 z3 = 0) → EV q 363 508 [some (.ref 367), some (vI x1), some (vL x2), none, some (vI x4), some (vI x5), some (vI x6), some (vI x7), some (vI x8), some (vI x9), none, none] [] S1 r S') ∧ ((¬ w32 z3 = 0) → ∃ (z6 : Int) (S4 : ms), EV q 339 0 [some (.ref 367), some (vI 5), none, none, none, none, none] [] S1 (some (vL z6)) S4 ∧ EV q 363 369 [some (.ref 367), some (vI x1), some (vL x2), none, some (vI x4), some (vI x5), some (vI x6), some (vI x7), some (vI x8), some (vI x9), some (vI z6), some (vI 0)] [] S4 r S'))) : EV q 363 344 [some (.ref 367), some (vI x1), some (vL x2), none, some (vI x4), some (vI x5), some (vI x6), some (vI x7), some (vI x8), some (vI x9), none, none] [] S r S' := by
  unfold EV
  refine ev_bk 2 (S' := (348, [some (.ref 367), some (vI x1), some (vL x2), none, some (vI x4), some (vI x5), some (vI x6), some (vI x7), some (vI x8), some (vI x9), none, none], [vI x6, vI x9], hp S, 0, 0)) rfl ?_
  refine mv_icmp 508 rfl rfl (fun c => ?_) (fun c => ?_)
  · have F := F.1 c
    exact F
  · have F := F.2 c
    refine ev_bk 1 (S' := (352, [some (.ref 367), some (vI x1), some (vL x2), none, some (vI x4), some (vI x5), some (vI x6), some (vI x7), some (vI x8), some (vI x9), none, none], [.ref 367], hp S, 0, 0)) rfl ?_
    obtain ⟨z3, S1, e2, F⟩ := F
    refine mv_calv (as := []) (rest := []) e2 (sh_367) rfl rfl rfl ⟨rfl, rfl⟩ rfl rfl rfl rfl rfl ?_
    refine mv_if 508 rfl rfl (fun c => ?_) (fun c => ?_)
    · have F := F.1 c
      exact F
    · have F := F.2 c
      refine ev_bk 2 (S' := (360, [some (.ref 367), some (vI x1), some (vL x2), none, some (vI x4), some (vI x5), some (vI x6), some (vI x7), some (vI x8), some (vI x9), none, none], [vI 5, .ref 367], hp S1, 0, 0)) rfl ?_
      obtain ⟨z6, S4, e5, F⟩ := F
      refine mv_calv (as := [vI 5]) (rest := []) e5 (sh_367) rfl rfl rfl ⟨rfl, rfl⟩ rfl rfl rfl rfl rfl ?_
      refine mv_l2i rfl ?_
      refine ev_bk 3 (S' := (369, [some (.ref 367), some (vI x1), some (vL x2), none, some (vI x4), some (vI x5), some (vI x6), some (vI x7), some (vI x8), some (vI x9), some (vI z6), some (vI 0)], [], hp S4, 0, 0)) rfl ?_
      exact F
theorem vc_MD_sortedBlock_369 {q : Nat × (Nat → Int32)} {S S' : ms} {r : Option Value} (x1 x2 x4 x5 x6 x7 x8 x9 x10 x11 : Int)
    (F : ((w32 x8 ≤ w32 x11) → EV q 363 464 [some (.ref 367), some (vI x1), some (vL x2), none, some (vI x4), some (vI x5), some (vI x6), some (vI x7), some (vI x8), some (vI x9), some (vI x10), some (vI x11)] [] S r S') ∧ ((¬ w32 x8 ≤ w32 x11) → ∃ (z3 : Int) (S1 : ms), EV q 333 0 [some (.ref 367)] [] S (some (vI z3)) S1 ∧ ((w32 z3 = 0) → EV q 363 464 [some (.ref 367), some (vI x1), some (vL x2), none, some (vI x4), some (vI x5), some (vI x6), some (vI x7), some (vI x8), some (vI x9), some (vI x10), some (vI x11)] [] S1 r S') ∧ ((¬ w32 z3 = 0) → EV q 363 383 [some (.ref 367), some (vI x1), some (vL x2), none, some (vI x4), some (vI x5), some (vI x6), some (vI x7), some (vI x8), some (vI x9), some (vI x10), some (vI x11)] [] S1 r S'))) : EV q 363 369 [some (.ref 367), some (vI x1), some (vL x2), none, some (vI x4), some (vI x5), some (vI x6), some (vI x7), some (vI x8), some (vI x9), some (vI x10), some (vI x11)] [] S r S' := by
  unfold EV
  refine ev_bk 2 (S' := (373, [some (.ref 367), some (vI x1), some (vL x2), none, some (vI x4), some (vI x5), some (vI x6), some (vI x7), some (vI x8), some (vI x9), some (vI x10), some (vI x11)], [vI x8, vI x11], hp S, 0, 0)) rfl ?_
  refine mv_icmp 464 rfl rfl (fun c => ?_) (fun c => ?_)
  · have F := F.1 c
    exact F
  · have F := F.2 c
    refine ev_bk 1 (S' := (377, [some (.ref 367), some (vI x1), some (vL x2), none, some (vI x4), some (vI x5), some (vI x6), some (vI x7), some (vI x8), some (vI x9), some (vI x10), some (vI x11)], [.ref 367], hp S, 0, 0)) rfl ?_
    obtain ⟨z3, S1, e2, F⟩ := F
    refine mv_calv (as := []) (rest := []) e2 (sh_367) rfl rfl rfl ⟨rfl, rfl⟩ rfl rfl rfl rfl rfl ?_
    refine mv_if 464 rfl rfl (fun c => ?_) (fun c => ?_)
    · have F := F.1 c
      exact F
    · have F := F.2 c
      exact F
theorem vc_MD_sortedBlock_383 {q : Nat × (Nat → Int32)} {S S' : ms} {r : Option Value} (x1 x2 x4 x5 x6 x7 x8 x9 x10 x11 : Int)
    (F : ∃ (z3 : Int) (S1 : ms), EV q 333 0 [some (.ref 367)] [] S (some (vI z3)) S1 ∧ ((w32 z3 = 0) → EV q 363 418 [some (.ref 367), some (vI x1), some (vL x2), none, some (vI x4), some (vI x5), some (vI x6), some (vI x7), some (vI x8), some (vI x9), some (vI x10), some (vI x11)] [] S1 r S') ∧ ((¬ w32 z3 = 0) → ∃ (z6 : Int) (S4 : ms), EV q 340 0 [some (.ref 367), none] [] S1 (some (vI z6)) S4 ∧ ((¬ w32 z6 = 1) → EV q 363 418 [some (.ref 367), some (vI x1), some (vL x2), none, some (vI x4), some (vI x5), some (vI x6), some (vI x7), some (vI x8), some (vI x9), some (vI x10), some (vI x11)] [] S4 r S') ∧ ((¬ (¬ w32 z6 = 1)) → ∃ (z9 : Int) (S7 : ms), EV q 340 0 [some (.ref 367), none] [] S4 (some (vI z9)) S7 ∧ ((¬ w32 z9 = 0) → EV q 363 412 [some (.ref 367), some (vI x1), some (vL x2), none, some (vI x4), some (vI x5), some (vI x6), some (vI x7), some (vI x8), some (vI x9), some (vI x10), some (vI x11)] [vI ((-1)), vI x10] S7 r S') ∧ ((¬ (¬ w32 z9 = 0)) → EV q 363 412 [some (.ref 367), some (vI x1), some (vL x2), none, some (vI x4), some (vI x5), some (vI x6), some (vI x7), some (vI x8), some (vI x9), some (vI x10), some (vI x11)] [vI 1, vI x10] S7 r S')))) : EV q 363 383 [some (.ref 367), some (vI x1), some (vL x2), none, some (vI x4), some (vI x5), some (vI x6), some (vI x7), some (vI x8), some (vI x9), some (vI x10), some (vI x11)] [] S r S' := by
  unfold EV
  refine ev_bk 1 (S' := (384, [some (.ref 367), some (vI x1), some (vL x2), none, some (vI x4), some (vI x5), some (vI x6), some (vI x7), some (vI x8), some (vI x9), some (vI x10), some (vI x11)], [.ref 367], hp S, 0, 0)) rfl ?_
  obtain ⟨z3, S1, e2, F⟩ := F
  refine mv_calv (as := []) (rest := []) e2 (sh_367) rfl rfl rfl ⟨rfl, rfl⟩ rfl rfl rfl rfl rfl ?_
  refine mv_if 418 rfl rfl (fun c => ?_) (fun c => ?_)
  · have F := F.1 c
    exact F
  · have F := F.2 c
    refine ev_bk 1 (S' := (391, [some (.ref 367), some (vI x1), some (vL x2), none, some (vI x4), some (vI x5), some (vI x6), some (vI x7), some (vI x8), some (vI x9), some (vI x10), some (vI x11)], [.ref 367], hp S1, 0, 0)) rfl ?_
    obtain ⟨z6, S4, e5, F⟩ := F
    refine mv_calv (as := []) (rest := []) e5 (sh_367) rfl rfl rfl ⟨rfl, rfl⟩ rfl rfl rfl rfl rfl ?_
    refine ev_bk 1 (S' := (395, [some (.ref 367), some (vI x1), some (vL x2), none, some (vI x4), some (vI x5), some (vI x6), some (vI x7), some (vI x8), some (vI x9), some (vI x10), some (vI x11)], [vI 1, vI z6], hp S4, 0, 0)) rfl ?_
    refine mv_icmp 418 rfl rfl (fun c => ?_) (fun c => ?_)
    · have F := F.1 c
      exact F
    · have F := F.2 c
      refine ev_bk 2 (S' := (401, [some (.ref 367), some (vI x1), some (vL x2), none, some (vI x4), some (vI x5), some (vI x6), some (vI x7), some (vI x8), some (vI x9), some (vI x10), some (vI x11)], [.ref 367, vI x10], hp S4, 0, 0)) rfl ?_
      obtain ⟨z9, S7, e8, F⟩ := F
      refine mv_calv (as := []) (rest := [vI x10]) e8 (sh_367) rfl rfl rfl ⟨rfl, rfl⟩ rfl rfl rfl rfl rfl ?_
      refine mv_if 411 rfl rfl (fun c => ?_) (fun c => ?_)
      · have F := F.1 c
        refine ev_bk 1 (S' := (412, [some (.ref 367), some (vI x1), some (vL x2), none, some (vI x4), some (vI x5), some (vI x6), some (vI x7), some (vI x8), some (vI x9), some (vI x10), some (vI x11)], [vI ((-1)), vI x10], hp S7, 0, 0)) rfl ?_
        exact F
      · have F := F.2 c
        refine ev_bk 1 (S' := (408, [some (.ref 367), some (vI x1), some (vL x2), none, some (vI x4), some (vI x5), some (vI x6), some (vI x7), some (vI x8), some (vI x9), some (vI x10), some (vI x11)], [vI 1, vI x10], hp S7, 0, 0)) rfl ?_
        refine mv_goto 412 rfl rfl ?_
        exact F
theorem vc_MD_sortedBlock_412 {q : Nat × (Nat → Int32)} {S S' : ms} {r : Option Value} (x1 x2 x4 x5 x6 x7 x8 x9 x10 x11 y0 y1 : Int)
    (F : EV q 363 383 [some (.ref 367), some (vI x1), some (vL x2), none, some (vI x4), some (vI x5), some (vI x6), some (vI x7), some (vI x8), some (vI x9), some (vI (y1 + y0)), some (vI x11)] [] S r S') : EV q 363 412 [some (.ref 367), some (vI x1), some (vL x2), none, some (vI x4), some (vI x5), some (vI x6), some (vI x7), some (vI x8), some (vI x9), some (vI x10), some (vI x11)] [vI y0, vI y1] S r S' := by
  unfold EV
  refine mv_iadd rfl ?_
  refine ev_bk 1 (S' := (415, [some (.ref 367), some (vI x1), some (vL x2), none, some (vI x4), some (vI x5), some (vI x6), some (vI x7), some (vI x8), some (vI x9), some (vI (y1 + y0)), some (vI x11)], [], hp S, 0, 0)) rfl ?_
  refine mv_goto 383 rfl rfl ?_
  exact F
theorem vc_MD_sortedBlock_418 {q : Nat × (Nat → Int32)} {S S' : ms} {r : Option Value} (x1 x2 x4 x5 x6 x7 x8 x9 x10 x11 : Int)
    (F : ∃ (z3 : Int) (S1 : ms), EV q 333 0 [some (.ref 367)] [] S (some (vI z3)) S1 ∧ ((w32 z3 = 0) → EV q 363 442 [some (.ref 367), some (vI x1), some (vL x2), none, some (vI x4), some (vI x5), some (vI x6), some (vI x7), some (vI x8), some (vI x9), some (vI x10), some (vI x11)] [] S1 r S') ∧ ((¬ w32 z3 = 0) → ∃ (z6 : Int) (S4 : ms), EV q 257 0 [some (vI x10), some (vI 1), some (vI 20)] [] S1 (some (vI z6)) S4 ∧ ((¬ w32 z6 = 0) → EV q 363 442 [some (.ref 367), some (vI x1), some (vL x2), none, some (vI x4), some (vI x5), some (vI x6), some (vI x7), some (vI x8), some (vI x9), some (vI x10), some (vI x11)] [] S4 r S') ∧ ((¬ (¬ w32 z6 = 0)) → ∃ (S7 : ms), EV q 337 0 [some (.ref 367), some (vI 87)] [] S4 none S7 ∧ EV q 363 442 [some (.ref 367), some (vI x1), some (vL x2), none, some (vI x4), some (vI x5), some (vI x6), some (vI x7), some (vI x8), some (vI x9), some (vI x10), some (vI x11)] [] S7 r S'))) : EV q 363 418 [some (.ref 367), some (vI x1), some (vL x2), none, some (vI x4), some (vI x5), some (vI x6), some (vI x7), some (vI x8), some (vI x9), some (vI x10), some (vI x11)] [] S r S' := by
  unfold EV
  refine ev_bk 1 (S' := (419, [some (.ref 367), some (vI x1), some (vL x2), none, some (vI x4), some (vI x5), some (vI x6), some (vI x7), some (vI x8), some (vI x9), some (vI x10), some (vI x11)], [.ref 367], hp S, 0, 0)) rfl ?_
  obtain ⟨z3, S1, e2, F⟩ := F
  refine mv_calv (as := []) (rest := []) e2 (sh_367) rfl rfl rfl ⟨rfl, rfl⟩ rfl rfl rfl rfl rfl ?_
  refine mv_if 442 rfl rfl (fun c => ?_) (fun c => ?_)
  · have F := F.1 c
    exact F
  · have F := F.2 c
    refine ev_bk 3 (S' := (430, [some (.ref 367), some (vI x1), some (vL x2), none, some (vI x4), some (vI x5), some (vI x6), some (vI x7), some (vI x8), some (vI x9), some (vI x10), some (vI x11)], [vI 20, vI 1, vI x10], hp S1, 0, 0)) rfl ?_
    obtain ⟨z6, S4, e5, F⟩ := F
    refine mv_cals (as := [vI x10, vI 1, vI 20]) (rest := []) e5 rfl rfl rfl ⟨rfl, rfl, rfl⟩ rfl rfl rfl rfl ?_
    refine mv_if 442 rfl rfl (fun c => ?_) (fun c => ?_)
    · have F := F.1 c
      exact F
    · have F := F.2 c
      refine ev_bk 2 (S' := (439, [some (.ref 367), some (vI x1), some (vL x2), none, some (vI x4), some (vI x5), some (vI x6), some (vI x7), some (vI x8), some (vI x9), some (vI x10), some (vI x11)], [vI 87, .ref 367], hp S4, 0, 0)) rfl ?_
      obtain ⟨S7, e8, F⟩ := F
      refine mv_calv (as := [vI 87]) (rest := []) e8 (sh_367) rfl rfl rfl ⟨rfl, rfl⟩ rfl rfl rfl rfl rfl ?_
      exact F
theorem vc_MD_sortedBlock_442 {q : Nat × (Nat → Int32)} {S S' : ms} {r : Option Value} (x1 x2 x4 x5 x6 x7 x8 x9 x10 x11 : Int)
    (F : (0 ≤ w32 ((260 * x9) + x11) ∧ w32 ((260 * x9) + x11) < (1560 : Nat)) ∧ ∀ S2 : ms, S2 = wI S 413 (w32 ((260 * x9) + x11)) x10 → EV q 363 369 [some (.ref 367), some (vI x1), some (vL x2), none, some (vI x4), some (vI x5), some (vI x6), some (vI x7), some (vI x8), some (vI x9), some (vI x10), some (vI (x11 + 1))] [] S2 r S') : EV q 363 442 [some (.ref 367), some (vI x1), some (vL x2), none, some (vI x4), some (vI x5), some (vI x6), some (vI x7), some (vI x8), some (vI x9), some (vI x10), some (vI x11)] [] S r S' := by
  unfold EV
  refine ev_bk 1 (S' := (443, [some (.ref 367), some (vI x1), some (vL x2), none, some (vI x4), some (vI x5), some (vI x6), some (vI x7), some (vI x8), some (vI x9), some (vI x10), some (vI x11)], [.ref 367], hp S, 0, 0)) rfl ?_
  refine mv_gfR rfl rfl (sh_367) (by decide) rfl ?_
  refine ev_bk 2 (S' := (451, [some (.ref 367), some (vI x1), some (vL x2), none, some (vI x4), some (vI x5), some (vI x6), some (vI x7), some (vI x8), some (vI x9), some (vI x10), some (vI x11)], [vI x9, vI 260, .ref 413], hp S, 0, 0)) rfl ?_
  refine mv_imul rfl ?_
  refine ev_bk 1 (S' := (454, [some (.ref 367), some (vI x1), some (vL x2), none, some (vI x4), some (vI x5), some (vI x6), some (vI x7), some (vI x8), some (vI x9), some (vI x10), some (vI x11)], [vI x11, vI (260 * x9), .ref 413], hp S, 0, 0)) rfl ?_
  refine mv_iadd rfl ?_
  refine ev_bk 1 (S' := (457, [some (.ref 367), some (vI x1), some (vL x2), none, some (vI x4), some (vI x5), some (vI x6), some (vI x7), some (vI x8), some (vI x9), some (vI x10), some (vI x11)], [vI x10, vI ((260 * x9) + x11), .ref 413], hp S, 0, 0)) rfl ?_
  obtain ⟨b1, F⟩ := F
  refine mv_ias rfl (sh_413) b1 ?_
  have F := F _ rfl
  refine mv_inc (lv' := [some (.ref 367), some (vI x1), some (vL x2), none, some (vI x4), some (vI x5), some (vI x6), some (vI x7), some (vI x8), some (vI x9), some (vI x10), some (vI (x11 + 1))]) 11 1 rfl rfl rfl rfl ?_
  refine mv_goto 369 rfl rfl ?_
  exact F
theorem vc_MD_sortedBlock_464 {q : Nat × (Nat → Int32)} {S S' : ms} {r : Option Value} (x1 x2 x4 x5 x6 x7 x8 x9 x10 x11 : Int)
    (F : ∃ (z3 : Int) (S1 : ms), EV q 333 0 [some (.ref 367)] [] S (some (vI z3)) S1 ∧ ((w32 z3 = 0) → EV q 363 502 [some (.ref 367), some (vI x1), some (vL x2), none, some (vI x4), some (vI x5), some (vI x6), some (vI x7), some (vI x8), some (vI x9), some (vI x10), some (vI x11)] [] S1 r S') ∧ ((¬ w32 z3 = 0) → ∃ (z6 : Int) (S4 : ms), EV q 301 0 [some (.ref 413), some (vI (260 * x9)), some (vI x8), some (.ref 414), none, none, none, none] [] S1 (some (vI z6)) S4 ∧ ((w32 z6 ≤ 1048576) → EV q 363 502 [some (.ref 367), some (vI x1), some (vL x2), none, some (vI x4), some (vI x5), some (vI x6), some (vI x7), some (vI x8), some (vI x9), some (vI x10), some (vI x11)] [] S4 r S') ∧ ((¬ w32 z6 ≤ 1048576) → ∃ (S7 : ms), EV q 337 0 [some (.ref 367), some (vI 87)] [] S4 none S7 ∧ EV q 363 502 [some (.ref 367), some (vI x1), some (vL x2), none, some (vI x4), some (vI x5), some (vI x6), some (vI x7), some (vI x8), some (vI x9), some (vI x10), some (vI x11)] [] S7 r S'))) : EV q 363 464 [some (.ref 367), some (vI x1), some (vL x2), none, some (vI x4), some (vI x5), some (vI x6), some (vI x7), some (vI x8), some (vI x9), some (vI x10), some (vI x11)] [] S r S' := by
  unfold EV
  refine ev_bk 1 (S' := (465, [some (.ref 367), some (vI x1), some (vL x2), none, some (vI x4), some (vI x5), some (vI x6), some (vI x7), some (vI x8), some (vI x9), some (vI x10), some (vI x11)], [.ref 367], hp S, 0, 0)) rfl ?_
  obtain ⟨z3, S1, e2, F⟩ := F
  refine mv_calv (as := []) (rest := []) e2 (sh_367) rfl rfl rfl ⟨rfl, rfl⟩ rfl rfl rfl rfl rfl ?_
  refine mv_if 502 rfl rfl (fun c => ?_) (fun c => ?_)
  · have F := F.1 c
    exact F
  · have F := F.2 c
    refine ev_bk 1 (S' := (472, [some (.ref 367), some (vI x1), some (vL x2), none, some (vI x4), some (vI x5), some (vI x6), some (vI x7), some (vI x8), some (vI x9), some (vI x10), some (vI x11)], [.ref 367], hp S1, 0, 0)) rfl ?_
    refine mv_gfR rfl rfl (sh_367) (by decide) rfl ?_
    refine ev_bk 2 (S' := (480, [some (.ref 367), some (vI x1), some (vL x2), none, some (vI x4), some (vI x5), some (vI x6), some (vI x7), some (vI x8), some (vI x9), some (vI x10), some (vI x11)], [vI x9, vI 260, .ref 413], hp S1, 0, 0)) rfl ?_
    refine mv_imul rfl ?_
    refine ev_bk 2 (S' := (484, [some (.ref 367), some (vI x1), some (vL x2), none, some (vI x4), some (vI x5), some (vI x6), some (vI x7), some (vI x8), some (vI x9), some (vI x10), some (vI x11)], [.ref 367, vI x8, vI (260 * x9), .ref 413], hp S1, 0, 0)) rfl ?_
    refine mv_gfR rfl rfl (sh_367) (by decide) rfl ?_
    obtain ⟨z6, S4, e5, F⟩ := F
    refine mv_cals (as := [.ref 413, vI (260 * x9), vI x8, .ref 414]) (rest := []) e5 rfl rfl rfl ⟨rfl, rfl, rfl⟩ rfl rfl rfl rfl ?_
    refine ev_bk 1 (S' := (493, [some (.ref 367), some (vI x1), some (vL x2), none, some (vI x4), some (vI x5), some (vI x6), some (vI x7), some (vI x8), some (vI x9), some (vI x10), some (vI x11)], [vI 1048576, vI z6], hp S4, 0, 0)) rfl ?_
    refine mv_icmp 502 rfl rfl (fun c => ?_) (fun c => ?_)
    · have F := F.1 c
      exact F
    · have F := F.2 c
      refine ev_bk 2 (S' := (499, [some (.ref 367), some (vI x1), some (vL x2), none, some (vI x4), some (vI x5), some (vI x6), some (vI x7), some (vI x8), some (vI x9), some (vI x10), some (vI x11)], [vI 87, .ref 367], hp S4, 0, 0)) rfl ?_
      obtain ⟨S7, e8, F⟩ := F
      refine mv_calv (as := [vI 87]) (rest := []) e8 (sh_367) rfl rfl rfl ⟨rfl, rfl⟩ rfl rfl rfl rfl rfl ?_
      exact F
theorem vc_MD_sortedBlock_502 {q : Nat × (Nat → Int32)} {S S' : ms} {r : Option Value} (x1 x2 x4 x5 x6 x7 x8 x9 x10 x11 : Int)
    (F : EV q 363 344 [some (.ref 367), some (vI x1), some (vL x2), none, some (vI x4), some (vI x5), some (vI x6), some (vI x7), some (vI x8), some (vI (x9 + 1)), none, none] [] S r S') : EV q 363 502 [some (.ref 367), some (vI x1), some (vL x2), none, some (vI x4), some (vI x5), some (vI x6), some (vI x7), some (vI x8), some (vI x9), some (vI x10), some (vI x11)] [] S r S' := by
  unfold EV
  refine mv_inc (lv' := [some (.ref 367), some (vI x1), some (vL x2), none, some (vI x4), some (vI x5), some (vI x6), some (vI x7), some (vI x8), some (vI (x9 + 1)), some (vI x10), some (vI x11)]) 9 1 rfl rfl rfl rfl ?_
  refine mv_goto 344 rfl rfl ?_
  exact ev_wk (le_s (le_s (le_s (le_s (le_s (le_s (le_s (le_s (le_s (le_s (le_n (le_n le_0)))))))))))) F
theorem vc_MD_sortedBlock_508 {q : Nat × (Nat → Int32)} {S S' : ms} {r : Option Value} (x1 x2 x4 x5 x6 x7 x8 x9 : Int)
    (F : ∃ (S1 : ms), EV q 364 0 [some (.ref 367), some (vI x5), some (vI x8), some (vI x7), none, none, none, none, none, none, none, none, none] [] S none S1 ∧ ∃ (z5 : Int) (S3 : ms), EV q 333 0 [some (.ref 367)] [] S1 (some (vI z5)) S3 ∧ ((w32 z5 = 0) → EV q 363 541 [some (.ref 367), some (vI x1), some (vL x2), none, some (vI x4), some (vI x5), some (vI x6), some (vI x7), some (vI x8), some (vI x9), none, none] [] S3 r S') ∧ ((¬ w32 z5 = 0) → ((w64 x2 < w64 (w32 (S3.1 367 66))) → EV q 363 541 [some (.ref 367), some (vI x1), some (vL x2), none, some (vI x4), some (vI x5), some (vI x6), some (vI x7), some (vI x8), some (vI x9), none, none] [] S3 r S') ∧ ((¬ w64 x2 < w64 (w32 (S3.1 367 66))) → ∃ (S6 : ms), EV q 337 0 [some (.ref 367), some (vI 83)] [] S3 none S6 ∧ EV q 363 541 [some (.ref 367), some (vI x1), some (vL x2), none, some (vI x4), some (vI x5), some (vI x6), some (vI x7), some (vI x8), some (vI x9), none, none] [] S6 r S'))) : EV q 363 508 [some (.ref 367), some (vI x1), some (vL x2), none, some (vI x4), some (vI x5), some (vI x6), some (vI x7), some (vI x8), some (vI x9), none, none] [] S r S' := by
  unfold EV
  refine ev_bk 4 (S' := (515, [some (.ref 367), some (vI x1), some (vL x2), none, some (vI x4), some (vI x5), some (vI x6), some (vI x7), some (vI x8), some (vI x9), none, none], [vI x7, vI x8, vI x5, .ref 367], hp S, 0, 0)) rfl ?_
  obtain ⟨S1, e2, F⟩ := F
  refine mv_calv (as := [vI x5, vI x8, vI x7]) (rest := []) e2 (sh_367) rfl rfl rfl ⟨rfl, rfl⟩ rfl rfl rfl rfl rfl ?_
  refine ev_bk 1 (S' := (519, [some (.ref 367), some (vI x1), some (vL x2), none, some (vI x4), some (vI x5), some (vI x6), some (vI x7), some (vI x8), some (vI x9), none, none], [.ref 367], hp S1, 0, 0)) rfl ?_
  obtain ⟨z5, S3, e4, F⟩ := F
  refine mv_calv (as := []) (rest := []) e4 (sh_367) rfl rfl rfl ⟨rfl, rfl⟩ rfl rfl rfl rfl rfl ?_
  refine mv_if 541 rfl rfl (fun c => ?_) (fun c => ?_)
  · have F := F.1 c
    exact F
  · have F := F.2 c
    refine ev_bk 2 (S' := (527, [some (.ref 367), some (vI x1), some (vL x2), none, some (vI x4), some (vI x5), some (vI x6), some (vI x7), some (vI x8), some (vI x9), none, none], [.ref 367, vL x2], hp S3, 0, 0)) rfl ?_
    refine mv_gfI rfl rfl (sh_367) (by decide) rfl ?_
    refine mv_i2l rfl ?_
    refine mv_lif 541 rfl rfl rfl (fun c => ?_) (fun c => ?_)
    · have F := F.1 c
      exact F
    · have F := F.2 c
      refine ev_bk 2 (S' := (538, [some (.ref 367), some (vI x1), some (vL x2), none, some (vI x4), some (vI x5), some (vI x6), some (vI x7), some (vI x8), some (vI x9), none, none], [vI 83, .ref 367], hp S3, 0, 0)) rfl ?_
      obtain ⟨S6, e7, F⟩ := F
      refine mv_calv (as := [vI 83]) (rest := []) e7 (sh_367) rfl rfl rfl ⟨rfl, rfl⟩ rfl rfl rfl rfl rfl ?_
      exact F
theorem vc_MD_sortedBlock_541 {q : Nat × (Nat → Int32)} {S S' : ms} {r : Option Value} (x1 x2 x4 x5 x6 x7 x8 x9 : Int)
    (F : ∃ (z3 : Int) (S1 : ms), EV q 333 0 [some (.ref 367)] [] S (some (vI z3)) S1 ∧ ((w32 z3 = 0) → r = none ∧ S' = S1) ∧ ((¬ w32 z3 = 0) → ∃ (S4 : ms), EV q 366 0 [some (.ref 367), some (vI x2), none, none, none, none, none, none, none] [] S1 none S4 ∧ r = none ∧ S' = S4)) : EV q 363 541 [some (.ref 367), some (vI x1), some (vL x2), none, some (vI x4), some (vI x5), some (vI x6), some (vI x7), some (vI x8), some (vI x9), none, none] [] S r S' := by
  unfold EV
  refine ev_bk 1 (S' := (542, [some (.ref 367), some (vI x1), some (vL x2), none, some (vI x4), some (vI x5), some (vI x6), some (vI x7), some (vI x8), some (vI x9), none, none], [.ref 367], hp S, 0, 0)) rfl ?_
  obtain ⟨z3, S1, e2, F⟩ := F
  refine mv_calv (as := []) (rest := []) e2 (sh_367) rfl rfl rfl ⟨rfl, rfl⟩ rfl rfl rfl rfl rfl ?_
  refine mv_if 554 rfl rfl (fun c => ?_) (fun c => ?_)
  · have F := F.1 c
    obtain ⟨rfl, rfl⟩ := F
    exact ev_ret rfl rfl
  · have F := F.2 c
    refine ev_bk 2 (S' := (550, [some (.ref 367), some (vI x1), some (vL x2), none, some (vI x4), some (vI x5), some (vI x6), some (vI x7), some (vI x8), some (vI x9), none, none], [vL x2, .ref 367], hp S1, 0, 0)) rfl ?_
    refine mv_l2i rfl ?_
    obtain ⟨S4, e5, F⟩ := F
    refine mv_calv (as := [vI x2]) (rest := []) e5 (sh_367) rfl rfl rfl ⟨rfl, rfl⟩ rfl rfl rfl rfl rfl ?_
    obtain ⟨rfl, rfl⟩ := F
    exact ev_ret rfl rfl
theorem vc_MD_readSymbols {q : Nat × (Nat → Int32)} {S S' : ms} {r : Option Value} (x1 x2 x3 : Int)
    (F : ∀ S1 : ms, S1 = wI S 367 66 0 → EV q 364 8 [some (.ref 367), some (vI x1), some (vI x2), some (vI x3), some (vI 0), none, none, none, none, none, none, none, none] [] S1 r S') : EV q 364 0 [some (.ref 367), some (vI x1), some (vI x2), some (vI x3), none, none, none, none, none, none, none, none, none] [] S r S' := by
  unfold EV
  refine ev_bk 2 (S' := (2, [some (.ref 367), some (vI x1), some (vI x2), some (vI x3), none, none, none, none, none, none, none, none, none], [vI 0, .ref 367], hp S, 0, 0)) rfl ?_
  refine mv_pfI rfl rfl (sh_367) (by decide) rfl rfl ?_
  have F := F _ rfl
  refine ev_bk 2 (S' := (8, [some (.ref 367), some (vI x1), some (vI x2), some (vI x3), some (vI 0), none, none, none, none, none, none, none, none], [], hp (wI S 367 66 0), 0, 0)) rfl ?_
  exact F
theorem vc_MD_readSymbols_8 {q : Nat × (Nat → Int32)} {S S' : ms} {r : Option Value} (x1 x2 x3 x4 : Int)
    (F : ((w32 x1 ≤ w32 x4) → EV q 364 46 [some (.ref 367), some (vI x1), some (vI x2), some (vI x3), some (vL 0), none, some (vL 1), none, some (vI 0), some (vI 1), none, none, none] [] S r S') ∧ ((¬ w32 x1 ≤ w32 x4) → (0 ≤ w32 x4 ∧ w32 x4 < (256 : Nat)) ∧ (0 ≤ w32 x4 ∧ w32 x4 < (256 : Nat)) ∧ ∀ S3 : ms, S3 = wI S 410 (w32 x4) (b8 (S.1 409 (w32 x4))) → EV q 364 8 [some (.ref 367), some (vI x1), some (vI x2), some (vI x3), some (vI (x4 + 1)), none, none, none, none, none, none, none, none] [] S3 r S')) : EV q 364 8 [some (.ref 367), some (vI x1), some (vI x2), some (vI x3), some (vI x4), none, none, none, none, none, none, none, none] [] S r S' := by
  unfold EV
  refine ev_bk 2 (S' := (11, [some (.ref 367), some (vI x1), some (vI x2), some (vI x3), some (vI x4), none, none, none, none, none, none, none, none], [vI x1, vI x4], hp S, 0, 0)) rfl ?_
  refine mv_icmp 34 rfl rfl (fun c => ?_) (fun c => ?_)
  · have F := F.1 c
    refine ev_bk 8 (S' := (46, [some (.ref 367), some (vI x1), some (vI x2), some (vI x3), some (vL 0), none, some (vL 1), none, some (vI 0), some (vI 1), none, none, none], [], hp S, 0, 0)) rfl ?_
    exact F
  · have F := F.2 c
    refine ev_bk 1 (S' := (15, [some (.ref 367), some (vI x1), some (vI x2), some (vI x3), some (vI x4), none, none, none, none, none, none, none, none], [.ref 367], hp S, 0, 0)) rfl ?_
    refine mv_gfR rfl rfl (sh_367) (by decide) rfl ?_
    refine ev_bk 2 (S' := (21, [some (.ref 367), some (vI x1), some (vI x2), some (vI x3), some (vI x4), none, none, none, none, none, none, none, none], [.ref 367, vI x4, .ref 410], hp S, 0, 0)) rfl ?_
    refine mv_gfR rfl rfl (sh_367) (by decide) rfl ?_
    refine ev_bk 1 (S' := (26, [some (.ref 367), some (vI x1), some (vI x2), some (vI x3), some (vI x4), none, none, none, none, none, none, none, none], [vI x4, .ref 409, vI x4, .ref 410], hp S, 0, 0)) rfl ?_
    obtain ⟨b1, F⟩ := F
    refine mv_bal rfl (sh_409) b1 ?_
    obtain ⟨b2, F⟩ := F
    refine mv_bas rfl (sh_410) b2 ?_
    have F := F _ rfl
    refine mv_inc (lv' := [some (.ref 367), some (vI x1), some (vI x2), some (vI x3), some (vI (x4 + 1)), none, none, none, none, none, none, none, none]) 4 1 rfl rfl rfl rfl ?_
    refine mv_goto 8 rfl rfl ?_
    exact F
theorem vc_MD_readSymbols_46 {q : Nat × (Nat → Int32)} {S S' : ms} {r : Option Value} (x1 x2 x3 x4 x6 x8 x9 : Int)
    (F : ((w32 x9 = 0) → r = none ∧ S' = S) ∧ ((¬ w32 x9 = 0) → ∃ (z3 : Int) (S1 : ms), EV q 333 0 [some (.ref 367)] [] S (some (vI z3)) S1 ∧ ((w32 z3 = 0) → r = none ∧ S' = S1) ∧ ((¬ w32 z3 = 0) → ((w32 (Int.tdiv (w32 x8) (w32 50)) < w32 x3) → (0 ≤ w32 (Int.tdiv (w32 x8) (w32 50)) ∧ w32 (Int.tdiv (w32 x8) (w32 50)) < (32768 : Nat)) ∧ ∃ (z7 : Int) (S5 : ms), EV q 365 0 [some (.ref 367), some (vI (S1.1 415 (w32 (Int.tdiv (w32 x8) (w32 50))))), some (vI x2), none, none, none, none] [] S1 (some (vI z7)) S5 ∧ ((0 ≤ w32 z7) → ((2 ≤ w32 z7) → ((w64 x4 ≤ w64 0) → EV q 364 174 [some (.ref 367), some (vI x1), some (vI x2), some (vI x3), some (vL x4), none, some (vL x6), none, some (vI (x8 + 1)), some (vI x9), some (vI z7), none, none] [] S5 r S') ∧ ((¬ w64 x4 ≤ w64 0) → ((w64 ((w32 (S5.1 367 66)) + x4) ≤ w64 15000) → EV q 364 174 [some (.ref 367), some (vI x1), some (vI x2), some (vI x3), some (vL x4), none, some (vL x6), none, some (vI (x8 + 1)), some (vI x9), some (vI z7), none, none] [] S5 r S') ∧ ((¬ w64 ((w32 (S5.1 367 66)) + x4) ≤ w64 15000) → ∃ (S8 : ms), EV q 337 0 [some (.ref 367), some (vI 13)] [] S5 none S8 ∧ r = none ∧ S' = S8))) ∧ ((¬ 2 ≤ w32 z7) → ((w64 (x4 + ((w32 (z7 + 1)) * x6)) ≤ w64 15000) → EV q 364 46 [some (.ref 367), some (vI x1), some (vI x2), some (vI x3), some (vL (x4 + ((w32 (z7 + 1)) * x6))), none, some (vL (x6 * 2)), none, some (vI (x8 + 1)), some (vI x9), none, none, none] [] S5 r S') ∧ ((¬ w64 (x4 + ((w32 (z7 + 1)) * x6)) ≤ w64 15000) → ∃ (S10 : ms), EV q 337 0 [some (.ref 367), some (vI 13)] [] S5 none S10 ∧ EV q 364 46 [some (.ref 367), some (vI x1), some (vI x2), some (vI x3), some (vL (x4 + ((w32 (z7 + 1)) * x6))), none, some (vL (x6 * 2)), none, some (vI (x8 + 1)), some (vI x9), none, none, none] [] S10 r S'))) ∧ ((¬ 0 ≤ w32 z7) → r = none ∧ S' = S5)) ∧ ((¬ w32 (Int.tdiv (w32 x8) (w32 50)) < w32 x3) → ∃ (S12 : ms), EV q 337 0 [some (.ref 367), some (vI 89)] [] S1 none S12 ∧ r = none ∧ S' = S12)))) : EV q 364 46 [some (.ref 367), some (vI x1), some (vI x2), some (vI x3), some (vL x4), none, some (vL x6), none, some (vI x8), some (vI x9), none, none, none] [] S r S' := by
  unfold EV
  refine ev_bk 1 (S' := (48, [some (.ref 367), some (vI x1), some (vI x2), some (vI x3), some (vL x4), none, some (vL x6), none, some (vI x8), some (vI x9), none, none, none], [vI x9], hp S, 0, 0)) rfl ?_
  refine mv_if 294 rfl rfl (fun c => ?_) (fun c => ?_)
  · have F := F.1 c
    obtain ⟨rfl, rfl⟩ := F
    exact ev_ret rfl rfl
  · have F := F.2 c
    refine ev_bk 1 (S' := (52, [some (.ref 367), some (vI x1), some (vI x2), some (vI x3), some (vL x4), none, some (vL x6), none, some (vI x8), some (vI x9), none, none, none], [.ref 367], hp S, 0, 0)) rfl ?_
    obtain ⟨z3, S1, e2, F⟩ := F
    refine mv_calv (as := []) (rest := []) e2 (sh_367) rfl rfl rfl ⟨rfl, rfl⟩ rfl rfl rfl rfl rfl ?_
    refine mv_if 294 rfl rfl (fun c => ?_) (fun c => ?_)
    · have F := F.1 c
      obtain ⟨rfl, rfl⟩ := F
      exact ev_ret rfl rfl
    · have F := F.2 c
      refine ev_bk 2 (S' := (62, [some (.ref 367), some (vI x1), some (vI x2), some (vI x3), some (vL x4), none, some (vL x6), none, some (vI x8), some (vI x9), none, none, none], [vI 50, vI x8], hp S1, 0, 0)) rfl ?_
      refine mv_idiv (by decide) rfl ?_
      refine ev_bk 1 (S' := (64, [some (.ref 367), some (vI x1), some (vI x2), some (vI x3), some (vL x4), none, some (vL x6), none, some (vI x8), some (vI x9), none, none, none], [vI x3, vI (Int.tdiv (w32 x8) (w32 50))], hp S1, 0, 0)) rfl ?_
      refine mv_icmp 74 rfl rfl (fun c => ?_) (fun c => ?_)
      · have F := F.1 c
        refine ev_bk 2 (S' := (76, [some (.ref 367), some (vI x1), some (vI x2), some (vI x3), some (vL x4), none, some (vL x6), none, some (vI x8), some (vI x9), none, none, none], [.ref 367, .ref 367], hp S1, 0, 0)) rfl ?_
        refine mv_gfR rfl rfl (sh_367) (by decide) rfl ?_
        refine ev_bk 2 (S' := (83, [some (.ref 367), some (vI x1), some (vI x2), some (vI x3), some (vL x4), none, some (vL x6), none, some (vI x8), some (vI x9), none, none, none], [vI 50, vI x8, .ref 415, .ref 367], hp S1, 0, 0)) rfl ?_
        refine mv_idiv (by decide) rfl ?_
        obtain ⟨b4, F⟩ := F
        refine mv_bal rfl (sh_415) b4 ?_
        refine ev_bk 1 (S' := (86, [some (.ref 367), some (vI x1), some (vI x2), some (vI x3), some (vL x4), none, some (vL x6), none, some (vI x8), some (vI x9), none, none, none], [vI x2, vI (S1.1 415 (w32 (Int.tdiv (w32 x8) (w32 50)))), .ref 367], hp S1, 0, 0)) rfl ?_
        obtain ⟨z7, S5, e6, F⟩ := F
        refine mv_calv (as := [vI (S1.1 415 (w32 (Int.tdiv (w32 x8) (w32 50)))), vI x2]) (rest := []) e6 (sh_367) rfl rfl rfl ⟨rfl, rfl⟩ rfl rfl rfl rfl rfl ?_
        refine ev_bk 1 (S' := (91, [some (.ref 367), some (vI x1), some (vI x2), some (vI x3), some (vL x4), none, some (vL x6), none, some (vI x8), some (vI x9), some (vI z7), none, none], [], hp S5, 0, 0)) rfl ?_
        refine mv_inc (lv' := [some (.ref 367), some (vI x1), some (vI x2), some (vI x3), some (vL x4), none, some (vL x6), none, some (vI (x8 + 1)), some (vI x9), some (vI z7), none, none]) 8 1 rfl rfl rfl rfl ?_
        refine ev_bk 1 (S' := (96, [some (.ref 367), some (vI x1), some (vI x2), some (vI x3), some (vL x4), none, some (vL x6), none, some (vI (x8 + 1)), some (vI x9), some (vI z7), none, none], [vI z7], hp S5, 0, 0)) rfl ?_
        refine mv_if 100 rfl rfl (fun c => ?_) (fun c => ?_)
        · have F := F.1 c
          refine ev_bk 2 (S' := (103, [some (.ref 367), some (vI x1), some (vI x2), some (vI x3), some (vL x4), none, some (vL x6), none, some (vI (x8 + 1)), some (vI x9), some (vI z7), none, none], [vI 2, vI z7], hp S5, 0, 0)) rfl ?_
          refine mv_icmp 145 rfl rfl (fun c => ?_) (fun c => ?_)
          · have F := F.1 c
            refine ev_bk 2 (S' := (148, [some (.ref 367), some (vI x1), some (vI x2), some (vI x3), some (vL x4), none, some (vL x6), none, some (vI (x8 + 1)), some (vI x9), some (vI z7), none, none], [vL 0, vL x4], hp S5, 0, 0)) rfl ?_
            refine mv_lif 174 rfl rfl rfl (fun c => ?_) (fun c => ?_)
            · have F := F.1 c
              exact F
            · have F := F.2 c
              refine ev_bk 1 (S' := (153, [some (.ref 367), some (vI x1), some (vI x2), some (vI x3), some (vL x4), none, some (vL x6), none, some (vI (x8 + 1)), some (vI x9), some (vI z7), none, none], [.ref 367], hp S5, 0, 0)) rfl ?_
              refine mv_gfI rfl rfl (sh_367) (by decide) rfl ?_
              refine mv_i2l rfl ?_
              refine ev_bk 1 (S' := (159, [some (.ref 367), some (vI x1), some (vI x2), some (vI x3), some (vL x4), none, some (vL x6), none, some (vI (x8 + 1)), some (vI x9), some (vI z7), none, none], [vL x4, vL (w32 (S5.1 367 66))], hp S5, 0, 0)) rfl ?_
              refine mv_ladd rfl ?_
              refine ev_bk 1 (S' := (163, [some (.ref 367), some (vI x1), some (vI x2), some (vI x3), some (vL x4), none, some (vL x6), none, some (vI (x8 + 1)), some (vI x9), some (vI z7), none, none], [vL 15000, vL ((w32 (S5.1 367 66)) + x4)], hp S5, 0, 0)) rfl ?_
              refine mv_lif 174 rfl rfl rfl (fun c => ?_) (fun c => ?_)
              · have F := F.1 c
                exact F
              · have F := F.2 c
                refine ev_bk 2 (S' := (170, [some (.ref 367), some (vI x1), some (vI x2), some (vI x3), some (vL x4), none, some (vL x6), none, some (vI (x8 + 1)), some (vI x9), some (vI z7), none, none], [vI 13, .ref 367], hp S5, 0, 0)) rfl ?_
                obtain ⟨S8, e9, F⟩ := F
                refine mv_calv (as := [vI 13]) (rest := []) e9 (sh_367) rfl rfl rfl ⟨rfl, rfl⟩ rfl rfl rfl rfl rfl ?_
                obtain ⟨rfl, rfl⟩ := F
                exact ev_ret rfl rfl
          · have F := F.2 c
            refine ev_bk 3 (S' := (111, [some (.ref 367), some (vI x1), some (vI x2), some (vI x3), some (vL x4), none, some (vL x6), none, some (vI (x8 + 1)), some (vI x9), some (vI z7), none, none], [vI 1, vI z7, vL x4], hp S5, 0, 0)) rfl ?_
            refine mv_iadd rfl ?_
            refine mv_i2l rfl ?_
            refine ev_bk 1 (S' := (115, [some (.ref 367), some (vI x1), some (vI x2), some (vI x3), some (vL x4), none, some (vL x6), none, some (vI (x8 + 1)), some (vI x9), some (vI z7), none, none], [vL x6, vL (w32 (z7 + 1)), vL x4], hp S5, 0, 0)) rfl ?_
            refine mv_lmul rfl ?_
            refine mv_ladd rfl ?_
            refine ev_bk 3 (S' := (124, [some (.ref 367), some (vI x1), some (vI x2), some (vI x3), some (vL (x4 + ((w32 (z7 + 1)) * x6))), none, some (vL x6), none, some (vI (x8 + 1)), some (vI x9), some (vI z7), none, none], [vL 2, vL x6], hp S5, 0, 0)) rfl ?_
            refine mv_lmul rfl ?_
            refine ev_bk 3 (S' := (132, [some (.ref 367), some (vI x1), some (vI x2), some (vI x3), some (vL (x4 + ((w32 (z7 + 1)) * x6))), none, some (vL (x6 * 2)), none, some (vI (x8 + 1)), some (vI x9), some (vI z7), none, none], [vL 15000, vL (x4 + ((w32 (z7 + 1)) * x6))], hp S5, 0, 0)) rfl ?_
            refine mv_lif 46 rfl rfl rfl (fun c => ?_) (fun c => ?_)
            · have F := F.1 c
              exact ev_wk (le_s (le_s (le_s (le_s (le_s (le_s (le_s (le_s (le_s (le_s (le_n (le_s (le_s le_0))))))))))))) F
            · have F := F.2 c
              refine ev_bk 2 (S' := (139, [some (.ref 367), some (vI x1), some (vI x2), some (vI x3), some (vL (x4 + ((w32 (z7 + 1)) * x6))), none, some (vL (x6 * 2)), none, some (vI (x8 + 1)), some (vI x9), some (vI z7), none, none], [vI 13, .ref 367], hp S5, 0, 0)) rfl ?_
              obtain ⟨S10, e11, F⟩ := F
              refine mv_calv (as := [vI 13]) (rest := []) e11 (sh_367) rfl rfl rfl ⟨rfl, rfl⟩ rfl rfl rfl rfl rfl ?_
              refine mv_goto 46 rfl rfl ?_
              exact ev_wk (le_s (le_s (le_s (le_s (le_s (le_s (le_s (le_s (le_s (le_s (le_n (le_s (le_s le_0))))))))))))) F
        · have F := F.2 c
          obtain ⟨rfl, rfl⟩ := F
          exact ev_ret rfl rfl
      · have F := F.2 c
        refine ev_bk 2 (S' := (70, [some (.ref 367), some (vI x1), some (vI x2), some (vI x3), some (vL x4), none, some (vL x6), none, some (vI x8), some (vI x9), none, none, none], [vI 89, .ref 367], hp S1, 0, 0)) rfl ?_
        obtain ⟨S12, e13, F⟩ := F
        refine mv_calv (as := [vI 89]) (rest := []) e13 (sh_367) rfl rfl rfl ⟨rfl, rfl⟩ rfl rfl rfl rfl rfl ?_
        obtain ⟨rfl, rfl⟩ := F
        exact ev_ret rfl rfl
theorem vc_MD_readSymbols_174 {q : Nat × (Nat → Int32)} {S S' : ms} {r : Option Value} (x1 x2 x3 x4 x6 x8 x9 x10 : Int)
    (F : EV q 364 177 [some (.ref 367), some (vI x1), some (vI x2), some (vI x3), some (vL x4), none, some (vL x6), none, some (vI x8), some (vI x9), some (vI x10), some (vL 0), none] [] S r S') : EV q 364 174 [some (.ref 367), some (vI x1), some (vI x2), some (vI x3), some (vL x4), none, some (vL x6), none, some (vI x8), some (vI x9), some (vI x10), none, none] [] S r S' := by
  unfold EV
  refine ev_bk 2 (S' := (177, [some (.ref 367), some (vI x1), some (vI x2), some (vI x3), some (vL x4), none, some (vL x6), none, some (vI x8), some (vI x9), some (vI x10), some (vL 0), none], [], hp S, 0, 0)) rfl ?_
  exact F
theorem vc_MD_readSymbols_177 {q : Nat × (Nat → Int32)} {S S' : ms} {r : Option Value} (x1 x2 x3 x4 x6 x8 x9 x10 x11 : Int)
    (F : ((w64 x4 ≤ w64 x11) → ((¬ w32 x10 = w32 (x1 + 1)) → ((¬ w32 (S.1 367 66) = 15000) → ∃ (S1 : ms), EV q 324 0 [some (.ref 367), some (vI (x10 - 1)), none, none] [] S none S1 ∧ (0 ≤ w32 0 ∧ w32 0 < (256 : Nat)) ∧ (0 ≤ w32 (S1.1 367 66) ∧ w32 (S1.1 367 66) < (15200 : Nat)) ∧ ∀ S5 : ms, S5 = wI S1 406 (w32 (S1.1 367 66)) (b8 (S1.1 410 (w32 0))) → ∀ S6 : ms, S6 = wI S5 367 66 (S5.1 367 66 + 1) → EV q 364 291 [some (.ref 367), some (vI x1), some (vI x2), some (vI x3), some (vL 0), none, some (vL 1), none, some (vI x8), some (vI x9), some (vI x10), some (vL x11), none] [] S6 r S') ∧ ((¬ (¬ w32 (S.1 367 66) = 15000)) → ∃ (S7 : ms), EV q 337 0 [some (.ref 367), some (vI 13)] [] S none S7 ∧ EV q 364 291 [some (.ref 367), some (vI x1), some (vI x2), some (vI x3), some (vL 0), none, some (vL 1), none, some (vI x8), some (vI x9), some (vI x10), some (vL x11), none] [] S7 r S')) ∧ ((¬ (¬ w32 x10 = w32 (x1 + 1))) → EV q 364 291 [some (.ref 367), some (vI x1), some (vI x2), some (vI x3), some (vL 0), none, some (vL 1), none, some (vI x8), some (vI 0), some (vI x10), some (vL x11), none] [] S r S')) ∧ ((¬ w64 x4 ≤ w64 x11) → (0 ≤ w32 0 ∧ w32 0 < (256 : Nat)) ∧ (0 ≤ w32 (S.1 367 66) ∧ w32 (S.1 367 66) < (15200 : Nat)) ∧ ∀ S11 : ms, S11 = wI S 406 (w32 (S.1 367 66)) (b8 (S.1 410 (w32 0))) → ∀ S12 : ms, S12 = wI S11 367 66 (S11.1 367 66 + 1) → EV q 364 177 [some (.ref 367), some (vI x1), some (vI x2), some (vI x3), some (vL x4), none, some (vL x6), none, some (vI x8), some (vI x9), some (vI x10), some (vL (x11 + 1)), none] [] S12 r S')) : EV q 364 177 [some (.ref 367), some (vI x1), some (vI x2), some (vI x3), some (vL x4), none, some (vL x6), none, some (vI x8), some (vI x9), some (vI x10), some (vL x11), none] [] S r S' := by
  unfold EV
  refine ev_bk 2 (S' := (181, [some (.ref 367), some (vI x1), some (vI x2), some (vI x3), some (vL x4), none, some (vL x6), none, some (vI x8), some (vI x9), some (vI x10), some (vL x11), none], [vL x4, vL x11], hp S, 0, 0)) rfl ?_
  refine mv_lif 219 rfl rfl rfl (fun c => ?_) (fun c => ?_)
  · have F := F.1 c
    refine ev_bk 7 (S' := (229, [some (.ref 367), some (vI x1), some (vI x2), some (vI x3), some (vL 0), none, some (vL 1), none, some (vI x8), some (vI x9), some (vI x10), some (vL x11), none], [vI 1, vI x1, vI x10], hp S, 0, 0)) rfl ?_
    refine mv_iadd rfl ?_
    refine mv_icmp 239 rfl rfl (fun c => ?_) (fun c => ?_)
    · have F := F.1 c
      refine ev_bk 1 (S' := (240, [some (.ref 367), some (vI x1), some (vI x2), some (vI x3), some (vL 0), none, some (vL 1), none, some (vI x8), some (vI x9), some (vI x10), some (vL x11), none], [.ref 367], hp S, 0, 0)) rfl ?_
      refine mv_gfI rfl rfl (sh_367) (by decide) rfl ?_
      refine ev_bk 1 (S' := (246, [some (.ref 367), some (vI x1), some (vI x2), some (vI x3), some (vL 0), none, some (vL 1), none, some (vI x8), some (vI x9), some (vI x10), some (vL x11), none], [vI 15000, vI (S.1 367 66)], hp S, 0, 0)) rfl ?_
      refine mv_icmp 258 rfl rfl (fun c => ?_) (fun c => ?_)
      · have F := F.1 c
        refine ev_bk 3 (S' := (262, [some (.ref 367), some (vI x1), some (vI x2), some (vI x3), some (vL 0), none, some (vL 1), none, some (vI x8), some (vI x9), some (vI x10), some (vL x11), none], [vI 1, vI x10, .ref 367], hp S, 0, 0)) rfl ?_
        refine mv_isub rfl ?_
        obtain ⟨S1, e2, F⟩ := F
        refine mv_calv (as := [vI (x10 - 1)]) (rest := []) e2 (sh_367) rfl rfl rfl ⟨rfl, rfl⟩ rfl rfl rfl rfl rfl ?_
        refine ev_bk 1 (S' := (267, [some (.ref 367), some (vI x1), some (vI x2), some (vI x3), some (vL 0), none, some (vL 1), none, some (vI x8), some (vI x9), some (vI x10), some (vL x11), none], [.ref 367], hp S1, 0, 0)) rfl ?_
        refine mv_gfR rfl rfl (sh_367) (by decide) rfl ?_
        refine ev_bk 1 (S' := (271, [some (.ref 367), some (vI x1), some (vI x2), some (vI x3), some (vL 0), none, some (vL 1), none, some (vI x8), some (vI x9), some (vI x10), some (vL x11), none], [.ref 367, .ref 406], hp S1, 0, 0)) rfl ?_
        refine mv_gfI rfl rfl (sh_367) (by decide) rfl ?_
        refine ev_bk 1 (S' := (275, [some (.ref 367), some (vI x1), some (vI x2), some (vI x3), some (vL 0), none, some (vL 1), none, some (vI x8), some (vI x9), some (vI x10), some (vL x11), none], [.ref 367, vI (S1.1 367 66), .ref 406], hp S1, 0, 0)) rfl ?_
        refine mv_gfR rfl rfl (sh_367) (by decide) rfl ?_
        refine ev_bk 1 (S' := (279, [some (.ref 367), some (vI x1), some (vI x2), some (vI x3), some (vL 0), none, some (vL 1), none, some (vI x8), some (vI x9), some (vI x10), some (vL x11), none], [vI 0, .ref 410, vI (S1.1 367 66), .ref 406], hp S1, 0, 0)) rfl ?_
        obtain ⟨b3, F⟩ := F
        refine mv_bal rfl (sh_410) b3 ?_
        obtain ⟨b4, F⟩ := F
        refine mv_bas rfl (sh_406) b4 ?_
        have F := F _ rfl
        refine ev_bk 2 (S' := (283, [some (.ref 367), some (vI x1), some (vI x2), some (vI x3), some (vL 0), none, some (vL 1), none, some (vI x8), some (vI x9), some (vI x10), some (vL x11), none], [.ref 367, .ref 367], hp (wI S1 406 (w32 (S1.1 367 66)) (b8 (S1.1 410 (w32 0)))), 0, 0)) rfl ?_
        refine mv_gfI rfl rfl (sh_367) (by decide) rfl ?_
        refine ev_bk 1 (S' := (287, [some (.ref 367), some (vI x1), some (vI x2), some (vI x3), some (vL 0), none, some (vL 1), none, some (vI x8), some (vI x9), some (vI x10), some (vL x11), none], [vI 1, vI ((wI S1 406 (w32 (S1.1 367 66)) (b8 (S1.1 410 (w32 0)))).1 367 66), .ref 367], hp (wI S1 406 (w32 (S1.1 367 66)) (b8 (S1.1 410 (w32 0)))), 0, 0)) rfl ?_
        refine mv_iadd rfl ?_
        refine mv_pfI rfl rfl (sh_367) (by decide) rfl rfl ?_
        have F := F _ rfl
        exact F
      · have F := F.2 c
        refine ev_bk 2 (S' := (252, [some (.ref 367), some (vI x1), some (vI x2), some (vI x3), some (vL 0), none, some (vL 1), none, some (vI x8), some (vI x9), some (vI x10), some (vL x11), none], [vI 13, .ref 367], hp S, 0, 0)) rfl ?_
        obtain ⟨S7, e8, F⟩ := F
        refine mv_calv (as := [vI 13]) (rest := []) e8 (sh_367) rfl rfl rfl ⟨rfl, rfl⟩ rfl rfl rfl rfl rfl ?_
        refine mv_goto 291 rfl rfl ?_
        exact F
    · have F := F.2 c
      refine ev_bk 2 (S' := (236, [some (.ref 367), some (vI x1), some (vI x2), some (vI x3), some (vL 0), none, some (vL 1), none, some (vI x8), some (vI 0), some (vI x10), some (vL x11), none], [], hp S, 0, 0)) rfl ?_
      refine mv_goto 291 rfl rfl ?_
      exact F
  · have F := F.2 c
    refine ev_bk 1 (S' := (186, [some (.ref 367), some (vI x1), some (vI x2), some (vI x3), some (vL x4), none, some (vL x6), none, some (vI x8), some (vI x9), some (vI x10), some (vL x11), none], [.ref 367], hp S, 0, 0)) rfl ?_
    refine mv_gfR rfl rfl (sh_367) (by decide) rfl ?_
    refine ev_bk 1 (S' := (190, [some (.ref 367), some (vI x1), some (vI x2), some (vI x3), some (vL x4), none, some (vL x6), none, some (vI x8), some (vI x9), some (vI x10), some (vL x11), none], [.ref 367, .ref 406], hp S, 0, 0)) rfl ?_
    refine mv_gfI rfl rfl (sh_367) (by decide) rfl ?_
    refine ev_bk 1 (S' := (194, [some (.ref 367), some (vI x1), some (vI x2), some (vI x3), some (vL x4), none, some (vL x6), none, some (vI x8), some (vI x9), some (vI x10), some (vL x11), none], [.ref 367, vI (S.1 367 66), .ref 406], hp S, 0, 0)) rfl ?_
    refine mv_gfR rfl rfl (sh_367) (by decide) rfl ?_
    refine ev_bk 1 (S' := (198, [some (.ref 367), some (vI x1), some (vI x2), some (vI x3), some (vL x4), none, some (vL x6), none, some (vI x8), some (vI x9), some (vI x10), some (vL x11), none], [vI 0, .ref 410, vI (S.1 367 66), .ref 406], hp S, 0, 0)) rfl ?_
    obtain ⟨b9, F⟩ := F
    refine mv_bal rfl (sh_410) b9 ?_
    obtain ⟨b10, F⟩ := F
    refine mv_bas rfl (sh_406) b10 ?_
    have F := F _ rfl
    refine ev_bk 2 (S' := (202, [some (.ref 367), some (vI x1), some (vI x2), some (vI x3), some (vL x4), none, some (vL x6), none, some (vI x8), some (vI x9), some (vI x10), some (vL x11), none], [.ref 367, .ref 367], hp (wI S 406 (w32 (S.1 367 66)) (b8 (S.1 410 (w32 0)))), 0, 0)) rfl ?_
    refine mv_gfI rfl rfl (sh_367) (by decide) rfl ?_
    refine ev_bk 1 (S' := (206, [some (.ref 367), some (vI x1), some (vI x2), some (vI x3), some (vL x4), none, some (vL x6), none, some (vI x8), some (vI x9), some (vI x10), some (vL x11), none], [vI 1, vI ((wI S 406 (w32 (S.1 367 66)) (b8 (S.1 410 (w32 0)))).1 367 66), .ref 367], hp (wI S 406 (w32 (S.1 367 66)) (b8 (S.1 410 (w32 0)))), 0, 0)) rfl ?_
    refine mv_iadd rfl ?_
    refine mv_pfI rfl rfl (sh_367) (by decide) rfl rfl ?_
    have F := F _ rfl
    refine ev_bk 2 (S' := (213, [some (.ref 367), some (vI x1), some (vI x2), some (vI x3), some (vL x4), none, some (vL x6), none, some (vI x8), some (vI x9), some (vI x10), some (vL x11), none], [vL 1, vL x11], hp (wI (wI S 406 (w32 (S.1 367 66)) (b8 (S.1 410 (w32 0)))) 367 66 ((wI S 406 (w32 (S.1 367 66)) (b8 (S.1 410 (w32 0)))).1 367 66 + 1)), 0, 0)) rfl ?_
    refine mv_ladd rfl ?_
    refine ev_bk 1 (S' := (216, [some (.ref 367), some (vI x1), some (vI x2), some (vI x3), some (vL x4), none, some (vL x6), none, some (vI x8), some (vI x9), some (vI x10), some (vL (x11 + 1)), none], [], hp (wI (wI S 406 (w32 (S.1 367 66)) (b8 (S.1 410 (w32 0)))) 367 66 ((wI S 406 (w32 (S.1 367 66)) (b8 (S.1 410 (w32 0)))).1 367 66 + 1)), 0, 0)) rfl ?_
    refine mv_goto 177 rfl rfl ?_
    exact F
theorem vc_MD_readSymbols_291 {q : Nat × (Nat → Int32)} {S S' : ms} {r : Option Value} (x1 x2 x3 x4 x6 x8 x9 x10 x11 : Int)
    (F : EV q 364 46 [some (.ref 367), some (vI x1), some (vI x2), some (vI x3), some (vL x4), none, some (vL x6), none, some (vI x8), some (vI x9), none, none, none] [] S r S') : EV q 364 291 [some (.ref 367), some (vI x1), some (vI x2), some (vI x3), some (vL x4), none, some (vL x6), none, some (vI x8), some (vI x9), some (vI x10), some (vL x11), none] [] S r S' := by
  unfold EV
  refine mv_goto 46 rfl rfl ?_
  exact ev_wk (le_s (le_s (le_s (le_s (le_s (le_s (le_s (le_s (le_s (le_s (le_n (le_n (le_s le_0))))))))))))) F
theorem vc_MD_sortedSymbol {q : Nat × (Nat → Int32)} {S S' : ms} {r : Option Value} (x1 x2 : Int)
    (F : EV q 365 5 [some (.ref 367), some (vI x1), some (vI x2), some (vI 0), some (vI 0), none, none] [] S r S') : EV q 365 0 [some (.ref 367), some (vI x1), some (vI x2), none, none, none, none] [] S r S' := by
  unfold EV
  refine ev_bk 4 (S' := (5, [some (.ref 367), some (vI x1), some (vI x2), some (vI 0), some (vI 0), none, none], [], hp S, 0, 0)) rfl ?_
  exact F
theorem vc_MD_sortedSymbol_5 {q : Nat × (Nat → Int32)} {S S' : ms} {r : Option Value} (x1 x2 x3 x4 : Int)
    (F : ((w32 x2 ≤ w32 x4) → EV q 365 58 [some (.ref 367), some (vI x1), some (vI x2), some (vI x3), some (vI 0), some (vI 1), none] [] S r S') ∧ ((¬ w32 x2 ≤ w32 x4) → (0 ≤ w32 ((260 * x1) + x4) ∧ w32 ((260 * x1) + x4) < (1560 : Nat)) ∧ ((w32 (S.1 413 (w32 ((260 * x1) + x4))) ≤ w32 x3) → EV q 365 45 [some (.ref 367), some (vI x1), some (vI x2), some (vI x3), some (vI x4), none, none] [vI x3] S r S') ∧ ((¬ w32 (S.1 413 (w32 ((260 * x1) + x4))) ≤ w32 x3) → (0 ≤ w32 ((260 * x1) + x4) ∧ w32 ((260 * x1) + x4) < (1560 : Nat)) ∧ EV q 365 45 [some (.ref 367), some (vI x1), some (vI x2), some (vI x3), some (vI x4), none, none] [vI (S.1 413 (w32 ((260 * x1) + x4)))] S r S'))) : EV q 365 5 [some (.ref 367), some (vI x1), some (vI x2), some (vI x3), some (vI x4), none, none] [] S r S' := by
  unfold EV
  refine ev_bk 2 (S' := (8, [some (.ref 367), some (vI x1), some (vI x2), some (vI x3), some (vI x4), none, none], [vI x2, vI x4], hp S, 0, 0)) rfl ?_
  refine mv_icmp 52 rfl rfl (fun c => ?_) (fun c => ?_)
  · have F := F.1 c
    refine ev_bk 4 (S' := (58, [some (.ref 367), some (vI x1), some (vI x2), some (vI x3), some (vI 0), some (vI 1), none], [], hp S, 0, 0)) rfl ?_
    exact F
  · have F := F.2 c
    refine ev_bk 1 (S' := (12, [some (.ref 367), some (vI x1), some (vI x2), some (vI x3), some (vI x4), none, none], [.ref 367], hp S, 0, 0)) rfl ?_
    refine mv_gfR rfl rfl (sh_367) (by decide) rfl ?_
    refine ev_bk 2 (S' := (19, [some (.ref 367), some (vI x1), some (vI x2), some (vI x3), some (vI x4), none, none], [vI x1, vI 260, .ref 413], hp S, 0, 0)) rfl ?_
    refine mv_imul rfl ?_
    refine ev_bk 1 (S' := (22, [some (.ref 367), some (vI x1), some (vI x2), some (vI x3), some (vI x4), none, none], [vI x4, vI (260 * x1), .ref 413], hp S, 0, 0)) rfl ?_
    refine mv_iadd rfl ?_
    obtain ⟨b1, F⟩ := F
    refine mv_ial rfl (sh_413) b1 ?_
    refine ev_bk 1 (S' := (25, [some (.ref 367), some (vI x1), some (vI x2), some (vI x3), some (vI x4), none, none], [vI x3, vI (S.1 413 (w32 ((260 * x1) + x4)))], hp S, 0, 0)) rfl ?_
    refine mv_icmp 44 rfl rfl (fun c => ?_) (fun c => ?_)
    · have F := F.1 c
      refine ev_bk 1 (S' := (45, [some (.ref 367), some (vI x1), some (vI x2), some (vI x3), some (vI x4), none, none], [vI x3], hp S, 0, 0)) rfl ?_
      exact F
    · have F := F.2 c
      refine ev_bk 1 (S' := (29, [some (.ref 367), some (vI x1), some (vI x2), some (vI x3), some (vI x4), none, none], [.ref 367], hp S, 0, 0)) rfl ?_
      refine mv_gfR rfl rfl (sh_367) (by decide) rfl ?_
      refine ev_bk 2 (S' := (36, [some (.ref 367), some (vI x1), some (vI x2), some (vI x3), some (vI x4), none, none], [vI x1, vI 260, .ref 413], hp S, 0, 0)) rfl ?_
      refine mv_imul rfl ?_
      refine ev_bk 1 (S' := (39, [some (.ref 367), some (vI x1), some (vI x2), some (vI x3), some (vI x4), none, none], [vI x4, vI (260 * x1), .ref 413], hp S, 0, 0)) rfl ?_
      refine mv_iadd rfl ?_
      obtain ⟨b2, F⟩ := F
      refine mv_ial rfl (sh_413) b2 ?_
      refine mv_goto 45 rfl rfl ?_
      exact F
theorem vc_MD_sortedSymbol_45 {q : Nat × (Nat → Int32)} {S S' : ms} {r : Option Value} (x1 x2 x3 x4 y0 : Int)
    (F : EV q 365 5 [some (.ref 367), some (vI x1), some (vI x2), some (vI y0), some (vI (x4 + 1)), none, none] [] S r S') : EV q 365 45 [some (.ref 367), some (vI x1), some (vI x2), some (vI x3), some (vI x4), none, none] [vI y0] S r S' := by
  unfold EV
  refine ev_bk 1 (S' := (46, [some (.ref 367), some (vI x1), some (vI x2), some (vI y0), some (vI x4), none, none], [], hp S, 0, 0)) rfl ?_
  refine mv_inc (lv' := [some (.ref 367), some (vI x1), some (vI x2), some (vI y0), some (vI (x4 + 1)), none, none]) 4 1 rfl rfl rfl rfl ?_
  refine mv_goto 5 rfl rfl ?_
  exact F
theorem vc_MD_sortedSymbol_58 {q : Nat × (Nat → Int32)} {S S' : ms} {r : Option Value} (x1 x2 x3 x4 x5 : Int)
    (F : ((w32 x3 < w32 x5) → ∃ (S1 : ms), EV q 337 0 [some (.ref 367), some (vI 88)] [] S none S1 ∧ r = some (vI ((-1))) ∧ S' = S1) ∧ ((¬ w32 x3 < w32 x5) → ∃ (z5 : Int) (S3 : ms), EV q 340 0 [some (.ref 367), none] [] S (some (vI z5)) S3 ∧ ∃ (z8 : Int) (S6 : ms), EV q 333 0 [some (.ref 367)] [] S3 (some (vI z8)) S6 ∧ ((¬ w32 z8 = 0) → EV q 365 87 [some (.ref 367), some (vI x1), some (vI x2), some (vI x3), some (vI (bO (x4 * 2) z5)), some (vI x5), some (vI 0)] [] S6 r S') ∧ ((¬ (¬ w32 z8 = 0)) → r = some (vI ((-1))) ∧ S' = S6))) : EV q 365 58 [some (.ref 367), some (vI x1), some (vI x2), some (vI x3), some (vI x4), some (vI x5), none] [] S r S' := by
  unfold EV
  refine ev_bk 2 (S' := (61, [some (.ref 367), some (vI x1), some (vI x2), some (vI x3), some (vI x4), some (vI x5), none], [vI x3, vI x5], hp S, 0, 0)) rfl ?_
  refine mv_icmp 144 rfl rfl (fun c => ?_) (fun c => ?_)
  · have F := F.1 c
    refine ev_bk 2 (S' := (147, [some (.ref 367), some (vI x1), some (vI x2), some (vI x3), some (vI x4), some (vI x5), none], [vI 88, .ref 367], hp S, 0, 0)) rfl ?_
    obtain ⟨S1, e2, F⟩ := F
    refine mv_calv (as := [vI 88]) (rest := []) e2 (sh_367) rfl rfl rfl ⟨rfl, rfl⟩ rfl rfl rfl rfl rfl ?_
    refine ev_bk 1 (S' := (151, [some (.ref 367), some (vI x1), some (vI x2), some (vI x3), some (vI x4), some (vI x5), none], [vI ((-1))], hp S1, 0, 0)) rfl ?_
    obtain ⟨rfl, rfl⟩ := F
    exact ev_ret rfl rfl
  · have F := F.2 c
    refine ev_bk 2 (S' := (67, [some (.ref 367), some (vI x1), some (vI x2), some (vI x3), some (vI x4), some (vI x5), none], [vI 1, vI x4], hp S, 0, 0)) rfl ?_
    refine mv_ishl 2 rfl rfl ?_
    refine ev_bk 1 (S' := (69, [some (.ref 367), some (vI x1), some (vI x2), some (vI x3), some (vI x4), some (vI x5), none], [.ref 367, vI (x4 * 2)], hp S, 0, 0)) rfl ?_
    obtain ⟨z5, S3, e4, F⟩ := F
    refine mv_calv (as := []) (rest := [vI (x4 * 2)]) e4 (sh_367) rfl rfl rfl ⟨rfl, rfl⟩ rfl rfl rfl rfl rfl ?_
    refine mv_ior rfl ?_
    refine ev_bk 2 (S' := (76, [some (.ref 367), some (vI x1), some (vI x2), some (vI x3), some (vI (bO (x4 * 2) z5)), some (vI x5), none], [.ref 367], hp S3, 0, 0)) rfl ?_
    obtain ⟨z8, S6, e7, F⟩ := F
    refine mv_calv (as := []) (rest := []) e7 (sh_367) rfl rfl rfl ⟨rfl, rfl⟩ rfl rfl rfl rfl rfl ?_
    refine mv_if 84 rfl rfl (fun c => ?_) (fun c => ?_)
    · have F := F.1 c
      refine ev_bk 2 (S' := (87, [some (.ref 367), some (vI x1), some (vI x2), some (vI x3), some (vI (bO (x4 * 2) z5)), some (vI x5), some (vI 0)], [], hp S6, 0, 0)) rfl ?_
      exact F
    · have F := F.2 c
      refine ev_bk 1 (S' := (83, [some (.ref 367), some (vI x1), some (vI x2), some (vI x3), some (vI (bO (x4 * 2) z5)), some (vI x5), none], [vI ((-1))], hp S6, 0, 0)) rfl ?_
      obtain ⟨rfl, rfl⟩ := F
      exact ev_ret rfl rfl
theorem vc_MD_sortedSymbol_87 {q : Nat × (Nat → Int32)} {S S' : ms} {r : Option Value} (x1 x2 x3 x4 x5 x6 : Int)
    (F : ((w32 x2 ≤ w32 x6) → EV q 365 58 [some (.ref 367), some (vI x1), some (vI x2), some (vI x3), some (vI x4), some (vI (x5 + 1)), none] [] S r S') ∧ ((¬ w32 x2 ≤ w32 x6) → (0 ≤ w32 ((260 * x1) + x6) ∧ w32 ((260 * x1) + x6) < (1560 : Nat)) ∧ ((¬ w32 (S.1 413 (w32 ((260 * x1) + x6))) = w32 x5) → EV q 365 132 [some (.ref 367), some (vI x1), some (vI x2), some (vI x3), some (vI x4), some (vI x5), some (vI x6)] [] S r S') ∧ ((¬ (¬ w32 (S.1 413 (w32 ((260 * x1) + x6))) = w32 x5)) → (0 ≤ w32 ((260 * x1) + x6) ∧ w32 ((260 * x1) + x6) < (1560 : Nat)) ∧ ((¬ w32 (S.1 414 (w32 ((260 * x1) + x6))) = w32 x4) → EV q 365 132 [some (.ref 367), some (vI x1), some (vI x2), some (vI x3), some (vI x4), some (vI x5), some (vI x6)] [] S r S') ∧ ((¬ (¬ w32 (S.1 414 (w32 ((260 * x1) + x6))) = w32 x4)) → r = some (vI x6) ∧ S' = S)))) : EV q 365 87 [some (.ref 367), some (vI x1), some (vI x2), some (vI x3), some (vI x4), some (vI x5), some (vI x6)] [] S r S' := by
  unfold EV
  refine ev_bk 2 (S' := (90, [some (.ref 367), some (vI x1), some (vI x2), some (vI x3), some (vI x4), some (vI x5), some (vI x6)], [vI x2, vI x6], hp S, 0, 0)) rfl ?_
  refine mv_icmp 138 rfl rfl (fun c => ?_) (fun c => ?_)
  · have F := F.1 c
    refine mv_inc (lv' := [some (.ref 367), some (vI x1), some (vI x2), some (vI x3), some (vI x4), some (vI (x5 + 1)), some (vI x6)]) 5 1 rfl rfl rfl rfl ?_
    refine mv_goto 58 rfl rfl ?_
    exact ev_wk (le_s (le_s (le_s (le_s (le_s (le_s (le_n le_0))))))) F
  · have F := F.2 c
    refine ev_bk 1 (S' := (94, [some (.ref 367), some (vI x1), some (vI x2), some (vI x3), some (vI x4), some (vI x5), some (vI x6)], [.ref 367], hp S, 0, 0)) rfl ?_
    refine mv_gfR rfl rfl (sh_367) (by decide) rfl ?_
    refine ev_bk 2 (S' := (101, [some (.ref 367), some (vI x1), some (vI x2), some (vI x3), some (vI x4), some (vI x5), some (vI x6)], [vI x1, vI 260, .ref 413], hp S, 0, 0)) rfl ?_
    refine mv_imul rfl ?_
    refine ev_bk 1 (S' := (104, [some (.ref 367), some (vI x1), some (vI x2), some (vI x3), some (vI x4), some (vI x5), some (vI x6)], [vI x6, vI (260 * x1), .ref 413], hp S, 0, 0)) rfl ?_
    refine mv_iadd rfl ?_
    obtain ⟨b1, F⟩ := F
    refine mv_ial rfl (sh_413) b1 ?_
    refine ev_bk 1 (S' := (108, [some (.ref 367), some (vI x1), some (vI x2), some (vI x3), some (vI x4), some (vI x5), some (vI x6)], [vI x5, vI (S.1 413 (w32 ((260 * x1) + x6)))], hp S, 0, 0)) rfl ?_
    refine mv_icmp 132 rfl rfl (fun c => ?_) (fun c => ?_)
    · have F := F.1 c
      exact F
    · have F := F.2 c
      refine ev_bk 1 (S' := (112, [some (.ref 367), some (vI x1), some (vI x2), some (vI x3), some (vI x4), some (vI x5), some (vI x6)], [.ref 367], hp S, 0, 0)) rfl ?_
      refine mv_gfR rfl rfl (sh_367) (by decide) rfl ?_
      refine ev_bk 2 (S' := (119, [some (.ref 367), some (vI x1), some (vI x2), some (vI x3), some (vI x4), some (vI x5), some (vI x6)], [vI x1, vI 260, .ref 414], hp S, 0, 0)) rfl ?_
      refine mv_imul rfl ?_
      refine ev_bk 1 (S' := (122, [some (.ref 367), some (vI x1), some (vI x2), some (vI x3), some (vI x4), some (vI x5), some (vI x6)], [vI x6, vI (260 * x1), .ref 414], hp S, 0, 0)) rfl ?_
      refine mv_iadd rfl ?_
      obtain ⟨b2, F⟩ := F
      refine mv_ial rfl (sh_414) b2 ?_
      refine ev_bk 1 (S' := (126, [some (.ref 367), some (vI x1), some (vI x2), some (vI x3), some (vI x4), some (vI x5), some (vI x6)], [vI x4, vI (S.1 414 (w32 ((260 * x1) + x6)))], hp S, 0, 0)) rfl ?_
      refine mv_icmp 132 rfl rfl (fun c => ?_) (fun c => ?_)
      · have F := F.1 c
        exact F
      · have F := F.2 c
        refine ev_bk 1 (S' := (131, [some (.ref 367), some (vI x1), some (vI x2), some (vI x3), some (vI x4), some (vI x5), some (vI x6)], [vI x6], hp S, 0, 0)) rfl ?_
        obtain ⟨rfl, rfl⟩ := F
        exact ev_ret rfl rfl
theorem vc_MD_sortedSymbol_132 {q : Nat × (Nat → Int32)} {S S' : ms} {r : Option Value} (x1 x2 x3 x4 x5 x6 : Int)
    (F : EV q 365 87 [some (.ref 367), some (vI x1), some (vI x2), some (vI x3), some (vI x4), some (vI x5), some (vI (x6 + 1))] [] S r S') : EV q 365 132 [some (.ref 367), some (vI x1), some (vI x2), some (vI x3), some (vI x4), some (vI x5), some (vI x6)] [] S r S' := by
  unfold EV
  refine mv_inc (lv' := [some (.ref 367), some (vI x1), some (vI x2), some (vI x3), some (vI x4), some (vI x5), some (vI (x6 + 1))]) 6 1 rfl rfl rfl rfl ?_
  refine mv_goto 87 rfl rfl ?_
  exact F
theorem vc_MD_unsort {q : Nat × (Nat → Int32)} {S S' : ms} {r : Option Value} (x1 : Int)
    (F : EV q 366 4 [some (.ref 367), some (vI x1), some (vI 0), some (vI 0), none, none, none, none, none] [] S r S') : EV q 366 0 [some (.ref 367), some (vI x1), none, none, none, none, none, none, none] [] S r S' := by
  unfold EV
  refine ev_bk 4 (S' := (4, [some (.ref 367), some (vI x1), some (vI 0), some (vI 0), none, none, none, none, none], [], hp S, 0, 0)) rfl ?_
  exact F
theorem vc_MD_unsort_4 {q : Nat × (Nat → Int32)} {S S' : ms} {r : Option Value} (x1 x2 x3 : Int)
    (F : ((256 ≤ w32 x3) → EV q 366 72 [some (.ref 367), some (vI x1), some (vI x2), some (vI x1), some (vI 0), some (vI ((-1))), some (vI 0), none, none] [] S r S') ∧ ((¬ 256 ≤ w32 x3) → EV q 366 14 [some (.ref 367), some (vI x1), some (vI x2), some (vI x3), some (vI 0), none, none, none, none] [] S r S')) : EV q 366 4 [some (.ref 367), some (vI x1), some (vI x2), some (vI x3), none, none, none, none, none] [] S r S' := by
  unfold EV
  refine ev_bk 2 (S' := (8, [some (.ref 367), some (vI x1), some (vI x2), some (vI x3), none, none, none, none, none], [vI 256, vI x3], hp S, 0, 0)) rfl ?_
  refine mv_icmp 61 rfl rfl (fun c => ?_) (fun c => ?_)
  · have F := F.1 c
    refine ev_bk 8 (S' := (72, [some (.ref 367), some (vI x1), some (vI x2), some (vI x1), some (vI 0), some (vI ((-1))), some (vI 0), none, none], [], hp S, 0, 0)) rfl ?_
    exact F
  · have F := F.2 c
    refine ev_bk 2 (S' := (14, [some (.ref 367), some (vI x1), some (vI x2), some (vI x3), some (vI 0), none, none, none, none], [], hp S, 0, 0)) rfl ?_
    exact F
theorem vc_MD_unsort_14 {q : Nat × (Nat → Int32)} {S S' : ms} {r : Option Value} (x1 x2 x3 x4 : Int)
    (F : ((w32 (S.1 367 66) ≤ w32 x4) → EV q 366 4 [some (.ref 367), some (vI x1), some (vI x2), some (vI (x3 + 1)), none, none, none, none, none] [] S r S') ∧ ((¬ w32 (S.1 367 66) ≤ w32 x4) → (0 ≤ w32 x4 ∧ w32 x4 < (15200 : Nat)) ∧ ((¬ w32 ((S.1 406 (w32 x4)) % 256) = w32 x3) → EV q 366 49 [some (.ref 367), some (vI x1), some (vI x2), some (vI x3), some (vI x4), none, none, none, none] [] S r S') ∧ ((¬ (¬ w32 ((S.1 406 (w32 x4)) % 256) = w32 x3)) → (0 ≤ w32 x2 ∧ w32 x2 < (15200 : Nat)) ∧ ∀ S3 : ms, S3 = wI S 407 (w32 x2) x4 → EV q 366 49 [some (.ref 367), some (vI x1), some (vI (x2 + 1)), some (vI x3), some (vI x4), none, none, none, none] [] S3 r S'))) : EV q 366 14 [some (.ref 367), some (vI x1), some (vI x2), some (vI x3), some (vI x4), none, none, none, none] [] S r S' := by
  unfold EV
  refine ev_bk 2 (S' := (17, [some (.ref 367), some (vI x1), some (vI x2), some (vI x3), some (vI x4), none, none, none, none], [.ref 367, vI x4], hp S, 0, 0)) rfl ?_
  refine mv_gfI rfl rfl (sh_367) (by decide) rfl ?_
  refine mv_icmp 55 rfl rfl (fun c => ?_) (fun c => ?_)
  · have F := F.1 c
    refine mv_inc (lv' := [some (.ref 367), some (vI x1), some (vI x2), some (vI (x3 + 1)), some (vI x4), none, none, none, none]) 3 1 rfl rfl rfl rfl ?_
    refine mv_goto 4 rfl rfl ?_
    exact ev_wk (le_s (le_s (le_s (le_s (le_n (le_s (le_s (le_s (le_s le_0))))))))) F
  · have F := F.2 c
    refine ev_bk 1 (S' := (24, [some (.ref 367), some (vI x1), some (vI x2), some (vI x3), some (vI x4), none, none, none, none], [.ref 367], hp S, 0, 0)) rfl ?_
    refine mv_gfR rfl rfl (sh_367) (by decide) rfl ?_
    refine ev_bk 1 (S' := (29, [some (.ref 367), some (vI x1), some (vI x2), some (vI x3), some (vI x4), none, none, none, none], [vI x4, .ref 406], hp S, 0, 0)) rfl ?_
    obtain ⟨b1, F⟩ := F
    refine mv_bal rfl (sh_406) b1 ?_
    refine ev_bk 1 (S' := (33, [some (.ref 367), some (vI x1), some (vI x2), some (vI x3), some (vI x4), none, none, none, none], [vI 255, vI (S.1 406 (w32 x4))], hp S, 0, 0)) rfl ?_
    refine mv_iandm 256 8 (by decide) rfl rfl rfl ?_
    refine ev_bk 1 (S' := (35, [some (.ref 367), some (vI x1), some (vI x2), some (vI x3), some (vI x4), none, none, none, none], [vI x3, vI ((S.1 406 (w32 x4)) % 256)], hp S, 0, 0)) rfl ?_
    refine mv_icmp 49 rfl rfl (fun c => ?_) (fun c => ?_)
    · have F := F.1 c
      exact F
    · have F := F.2 c
      refine ev_bk 1 (S' := (39, [some (.ref 367), some (vI x1), some (vI x2), some (vI x3), some (vI x4), none, none, none, none], [.ref 367], hp S, 0, 0)) rfl ?_
      refine mv_gfR rfl rfl (sh_367) (by decide) rfl ?_
      refine ev_bk 2 (S' := (45, [some (.ref 367), some (vI x1), some (vI x2), some (vI x3), some (vI x4), none, none, none, none], [vI x4, vI x2, .ref 407], hp S, 0, 0)) rfl ?_
      obtain ⟨b2, F⟩ := F
      refine mv_ias rfl (sh_407) b2 ?_
      have F := F _ rfl
      refine mv_inc (lv' := [some (.ref 367), some (vI x1), some (vI (x2 + 1)), some (vI x3), some (vI x4), none, none, none, none]) 2 1 rfl rfl rfl rfl ?_
      exact F
theorem vc_MD_unsort_49 {q : Nat × (Nat → Int32)} {S S' : ms} {r : Option Value} (x1 x2 x3 x4 : Int)
    (F : EV q 366 14 [some (.ref 367), some (vI x1), some (vI x2), some (vI x3), some (vI (x4 + 1)), none, none, none, none] [] S r S') : EV q 366 49 [some (.ref 367), some (vI x1), some (vI x2), some (vI x3), some (vI x4), none, none, none, none] [] S r S' := by
  unfold EV
  refine mv_inc (lv' := [some (.ref 367), some (vI x1), some (vI x2), some (vI x3), some (vI (x4 + 1)), none, none, none, none]) 4 1 rfl rfl rfl rfl ?_
  refine mv_goto 14 rfl rfl ?_
  exact F
theorem vc_MD_unsort_72 {q : Nat × (Nat → Int32)} {S S' : ms} {r : Option Value} (x1 x2 x3 x4 x5 x6 : Int)
    (F : ((w32 (S.1 367 66) ≤ w32 x6) → EV q 366 182 [some (.ref 367), some (vI x1), some (vI x2), some (vI x3), some (vI x4), some (vI x5), some (vI x6), none, none] [] S r S') ∧ ((¬ w32 (S.1 367 66) ≤ w32 x6) → ∃ (z3 : Int) (S1 : ms), EV q 333 0 [some (.ref 367)] [] S (some (vI z3)) S1 ∧ ((w32 z3 = 0) → EV q 366 182 [some (.ref 367), some (vI x1), some (vI x2), some (vI x3), some (vI x4), some (vI x5), some (vI x6), none, none] [] S1 r S') ∧ ((¬ w32 z3 = 0) → (0 ≤ w32 x3 ∧ w32 x3 < (15200 : Nat)) ∧ (0 ≤ w32 (S1.1 407 (w32 x3)) ∧ w32 (S1.1 407 (w32 x3)) < (15200 : Nat)) ∧ (0 ≤ w32 x3 ∧ w32 x3 < (15200 : Nat)) ∧ ((¬ w32 x4 = 4) → ((¬ w32 ((S1.1 406 (w32 (S1.1 407 (w32 x3)))) % 256) = w32 x5) → EV q 366 164 [some (.ref 367), some (vI x1), some (vI x2), some (vI (S1.1 407 (w32 x3))), some (vI x4), some (vI x5), some (vI x6), some (vI ((S1.1 406 (w32 (S1.1 407 (w32 x3)))) % 256)), none] [vI 1] S1 r S') ∧ ((¬ (¬ w32 ((S1.1 406 (w32 (S1.1 407 (w32 x3)))) % 256) = w32 x5)) → EV q 366 164 [some (.ref 367), some (vI x1), some (vI x2), some (vI (S1.1 407 (w32 x3))), some (vI x4), some (vI x5), some (vI x6), some (vI ((S1.1 406 (w32 (S1.1 407 (w32 x3)))) % 256)), none] [vI (x4 + 1)] S1 r S')) ∧ ((¬ (¬ w32 x4 = 4)) → EV q 366 121 [some (.ref 367), some (vI x1), some (vI x2), some (vI (S1.1 407 (w32 x3))), some (vI x4), some (vI x5), some (vI x6), some (vI ((S1.1 406 (w32 (S1.1 407 (w32 x3)))) % 256)), some (vI 0)] [] S1 r S')))) : EV q 366 72 [some (.ref 367), some (vI x1), some (vI x2), some (vI x3), some (vI x4), some (vI x5), some (vI x6), none, none] [] S r S' := by
  unfold EV
  refine ev_bk 2 (S' := (75, [some (.ref 367), some (vI x1), some (vI x2), some (vI x3), some (vI x4), some (vI x5), some (vI x6), none, none], [.ref 367, vI x6], hp S, 0, 0)) rfl ?_
  refine mv_gfI rfl rfl (sh_367) (by decide) rfl ?_
  refine mv_icmp 182 rfl rfl (fun c => ?_) (fun c => ?_)
  · have F := F.1 c
    exact F
  · have F := F.2 c
    refine ev_bk 1 (S' := (82, [some (.ref 367), some (vI x1), some (vI x2), some (vI x3), some (vI x4), some (vI x5), some (vI x6), none, none], [.ref 367], hp S, 0, 0)) rfl ?_
    obtain ⟨z3, S1, e2, F⟩ := F
    refine mv_calv (as := []) (rest := []) e2 (sh_367) rfl rfl rfl ⟨rfl, rfl⟩ rfl rfl rfl rfl rfl ?_
    refine mv_if 182 rfl rfl (fun c => ?_) (fun c => ?_)
    · have F := F.1 c
      exact F
    · have F := F.2 c
      refine ev_bk 1 (S' := (89, [some (.ref 367), some (vI x1), some (vI x2), some (vI x3), some (vI x4), some (vI x5), some (vI x6), none, none], [.ref 367], hp S1, 0, 0)) rfl ?_
      refine mv_gfR rfl rfl (sh_367) (by decide) rfl ?_
      refine ev_bk 1 (S' := (93, [some (.ref 367), some (vI x1), some (vI x2), some (vI x3), some (vI x4), some (vI x5), some (vI x6), none, none], [.ref 367, .ref 406], hp S1, 0, 0)) rfl ?_
      refine mv_gfR rfl rfl (sh_367) (by decide) rfl ?_
      refine ev_bk 1 (S' := (97, [some (.ref 367), some (vI x1), some (vI x2), some (vI x3), some (vI x4), some (vI x5), some (vI x6), none, none], [vI x3, .ref 407, .ref 406], hp S1, 0, 0)) rfl ?_
      obtain ⟨b4, F⟩ := F
      refine mv_ial rfl (sh_407) b4 ?_
      obtain ⟨b5, F⟩ := F
      refine mv_bal rfl (sh_406) b5 ?_
      refine ev_bk 1 (S' := (102, [some (.ref 367), some (vI x1), some (vI x2), some (vI x3), some (vI x4), some (vI x5), some (vI x6), none, none], [vI 255, vI (S1.1 406 (w32 (S1.1 407 (w32 x3))))], hp S1, 0, 0)) rfl ?_
      refine mv_iandm 256 8 (by decide) rfl rfl rfl ?_
      refine ev_bk 2 (S' := (106, [some (.ref 367), some (vI x1), some (vI x2), some (vI x3), some (vI x4), some (vI x5), some (vI x6), some (vI ((S1.1 406 (w32 (S1.1 407 (w32 x3)))) % 256)), none], [.ref 367], hp S1, 0, 0)) rfl ?_
      refine mv_gfR rfl rfl (sh_367) (by decide) rfl ?_
      refine ev_bk 1 (S' := (110, [some (.ref 367), some (vI x1), some (vI x2), some (vI x3), some (vI x4), some (vI x5), some (vI x6), some (vI ((S1.1 406 (w32 (S1.1 407 (w32 x3)))) % 256)), none], [vI x3, .ref 407], hp S1, 0, 0)) rfl ?_
      obtain ⟨b6, F⟩ := F
      refine mv_ial rfl (sh_407) b6 ?_
      refine ev_bk 3 (S' := (115, [some (.ref 367), some (vI x1), some (vI x2), some (vI (S1.1 407 (w32 x3))), some (vI x4), some (vI x5), some (vI x6), some (vI ((S1.1 406 (w32 (S1.1 407 (w32 x3)))) % 256)), none], [vI 4, vI x4], hp S1, 0, 0)) rfl ?_
      refine mv_icmp 149 rfl rfl (fun c => ?_) (fun c => ?_)
      · have F := F.1 c
        refine ev_bk 2 (S' := (153, [some (.ref 367), some (vI x1), some (vI x2), some (vI (S1.1 407 (w32 x3))), some (vI x4), some (vI x5), some (vI x6), some (vI ((S1.1 406 (w32 (S1.1 407 (w32 x3)))) % 256)), none], [vI x5, vI ((S1.1 406 (w32 (S1.1 407 (w32 x3)))) % 256)], hp S1, 0, 0)) rfl ?_
        refine mv_icmp 163 rfl rfl (fun c => ?_) (fun c => ?_)
        · have F := F.1 c
          refine ev_bk 1 (S' := (164, [some (.ref 367), some (vI x1), some (vI x2), some (vI (S1.1 407 (w32 x3))), some (vI x4), some (vI x5), some (vI x6), some (vI ((S1.1 406 (w32 (S1.1 407 (w32 x3)))) % 256)), none], [vI 1], hp S1, 0, 0)) rfl ?_
          exact F
        · have F := F.2 c
          refine ev_bk 2 (S' := (159, [some (.ref 367), some (vI x1), some (vI x2), some (vI (S1.1 407 (w32 x3))), some (vI x4), some (vI x5), some (vI x6), some (vI ((S1.1 406 (w32 (S1.1 407 (w32 x3)))) % 256)), none], [vI 1, vI x4], hp S1, 0, 0)) rfl ?_
          refine mv_iadd rfl ?_
          refine mv_goto 164 rfl rfl ?_
          exact F
      · have F := F.2 c
        refine ev_bk 2 (S' := (121, [some (.ref 367), some (vI x1), some (vI x2), some (vI (S1.1 407 (w32 x3))), some (vI x4), some (vI x5), some (vI x6), some (vI ((S1.1 406 (w32 (S1.1 407 (w32 x3)))) % 256)), some (vI 0)], [], hp S1, 0, 0)) rfl ?_
        exact F
theorem vc_MD_unsort_121 {q : Nat × (Nat → Int32)} {S S' : ms} {r : Option Value} (x1 x2 x3 x4 x5 x6 x7 x8 : Int)
    (F : ((w32 x7 ≤ w32 x8) → EV q 366 176 [some (.ref 367), some (vI x1), some (vI x2), some (vI x3), some (vI 0), some (vI ((-1))), some (vI x6), some (vI x7), none] [] S r S') ∧ ((¬ w32 x7 ≤ w32 x8) → ∃ (S1 : ms), EV q 336 0 [some (.ref 367), some (vI x5)] [] S none S1 ∧ EV q 366 121 [some (.ref 367), some (vI x1), some (vI x2), some (vI x3), some (vI x4), some (vI x5), some (vI x6), some (vI x7), some (vI (x8 + 1))] [] S1 r S')) : EV q 366 121 [some (.ref 367), some (vI x1), some (vI x2), some (vI x3), some (vI x4), some (vI x5), some (vI x6), some (vI x7), some (vI x8)] [] S r S' := by
  unfold EV
  refine ev_bk 2 (S' := (125, [some (.ref 367), some (vI x1), some (vI x2), some (vI x3), some (vI x4), some (vI x5), some (vI x6), some (vI x7), some (vI x8)], [vI x7, vI x8], hp S, 0, 0)) rfl ?_
  refine mv_icmp 140 rfl rfl (fun c => ?_) (fun c => ?_)
  · have F := F.1 c
    refine ev_bk 4 (S' := (146, [some (.ref 367), some (vI x1), some (vI x2), some (vI x3), some (vI 0), some (vI ((-1))), some (vI x6), some (vI x7), some (vI x8)], [], hp S, 0, 0)) rfl ?_
    refine mv_goto 176 rfl rfl ?_
    exact ev_wk (le_s (le_s (le_s (le_s (le_s (le_s (le_s (le_s (le_n le_0))))))))) F
  · have F := F.2 c
    refine ev_bk 2 (S' := (131, [some (.ref 367), some (vI x1), some (vI x2), some (vI x3), some (vI x4), some (vI x5), some (vI x6), some (vI x7), some (vI x8)], [vI x5, .ref 367], hp S, 0, 0)) rfl ?_
    obtain ⟨S1, e2, F⟩ := F
    refine mv_calv (as := [vI x5]) (rest := []) e2 (sh_367) rfl rfl rfl ⟨rfl, rfl⟩ rfl rfl rfl rfl rfl ?_
    refine mv_inc (lv' := [some (.ref 367), some (vI x1), some (vI x2), some (vI x3), some (vI x4), some (vI x5), some (vI x6), some (vI x7), some (vI (x8 + 1))]) 8 1 rfl rfl rfl rfl ?_
    refine mv_goto 121 rfl rfl ?_
    exact F
theorem vc_MD_unsort_164 {q : Nat × (Nat → Int32)} {S S' : ms} {r : Option Value} (x1 x2 x3 x4 x5 x6 x7 y0 : Int)
    (F : ∃ (S1 : ms), EV q 336 0 [some (.ref 367), some (vI x7)] [] S none S1 ∧ EV q 366 176 [some (.ref 367), some (vI x1), some (vI x2), some (vI x3), some (vI y0), some (vI x7), some (vI x6), some (vI x7), none] [] S1 r S') : EV q 366 164 [some (.ref 367), some (vI x1), some (vI x2), some (vI x3), some (vI x4), some (vI x5), some (vI x6), some (vI x7), none] [vI y0] S r S' := by
  unfold EV
  refine ev_bk 5 (S' := (173, [some (.ref 367), some (vI x1), some (vI x2), some (vI x3), some (vI y0), some (vI x7), some (vI x6), some (vI x7), none], [vI x7, .ref 367], hp S, 0, 0)) rfl ?_
  obtain ⟨S1, e2, F⟩ := F
  refine mv_calv (as := [vI x7]) (rest := []) e2 (sh_367) rfl rfl rfl ⟨rfl, rfl⟩ rfl rfl rfl rfl rfl ?_
  exact F
theorem vc_MD_unsort_176 {q : Nat × (Nat → Int32)} {S S' : ms} {r : Option Value} (x1 x2 x3 x4 x5 x6 x7 : Int)
    (F : EV q 366 72 [some (.ref 367), some (vI x1), some (vI x2), some (vI x3), some (vI x4), some (vI x5), some (vI (x6 + 1)), none, none] [] S r S') : EV q 366 176 [some (.ref 367), some (vI x1), some (vI x2), some (vI x3), some (vI x4), some (vI x5), some (vI x6), some (vI x7), none] [] S r S' := by
  unfold EV
  refine mv_inc (lv' := [some (.ref 367), some (vI x1), some (vI x2), some (vI x3), some (vI x4), some (vI x5), some (vI (x6 + 1)), some (vI x7), none]) 6 1 rfl rfl rfl rfl ?_
  refine mv_goto 72 rfl rfl ?_
  exact ev_wk (le_s (le_s (le_s (le_s (le_s (le_s (le_s (le_n (le_s le_0))))))))) F
theorem vc_MD_unsort_182 {q : Nat × (Nat → Int32)} {S S' : ms} {r : Option Value} (x1 x2 x3 x4 x5 x6 : Int)
    (F : ∃ (z3 : Int) (S1 : ms), EV q 333 0 [some (.ref 367)] [] S (some (vI z3)) S1 ∧ ((w32 z3 = 0) → r = none ∧ S' = S1) ∧ ((¬ w32 z3 = 0) → ((¬ w32 x4 = 4) → r = none ∧ S' = S1) ∧ ((¬ (¬ w32 x4 = 4)) → ∃ (S4 : ms), EV q 337 0 [some (.ref 367), some (vI 92)] [] S1 none S4 ∧ r = none ∧ S' = S4))) : EV q 366 182 [some (.ref 367), some (vI x1), some (vI x2), some (vI x3), some (vI x4), some (vI x5), some (vI x6), none, none] [] S r S' := by
  unfold EV
  refine ev_bk 1 (S' := (183, [some (.ref 367), some (vI x1), some (vI x2), some (vI x3), some (vI x4), some (vI x5), some (vI x6), none, none], [.ref 367], hp S, 0, 0)) rfl ?_
  obtain ⟨z3, S1, e2, F⟩ := F
  refine mv_calv (as := []) (rest := []) e2 (sh_367) rfl rfl rfl ⟨rfl, rfl⟩ rfl rfl rfl rfl rfl ?_
  refine mv_if 201 rfl rfl (fun c => ?_) (fun c => ?_)
  · have F := F.1 c
    obtain ⟨rfl, rfl⟩ := F
    exact ev_ret rfl rfl
  · have F := F.2 c
    refine ev_bk 2 (S' := (192, [some (.ref 367), some (vI x1), some (vI x2), some (vI x3), some (vI x4), some (vI x5), some (vI x6), none, none], [vI 4, vI x4], hp S1, 0, 0)) rfl ?_
    refine mv_icmp 201 rfl rfl (fun c => ?_) (fun c => ?_)
    · have F := F.1 c
      obtain ⟨rfl, rfl⟩ := F
      exact ev_ret rfl rfl
    · have F := F.2 c
      refine ev_bk 2 (S' := (198, [some (.ref 367), some (vI x1), some (vI x2), some (vI x3), some (vI x4), some (vI x5), some (vI x6), none, none], [vI 92, .ref 367], hp S1, 0, 0)) rfl ?_
      obtain ⟨S4, e5, F⟩ := F
      refine mv_calv (as := [vI 92]) (rest := []) e5 (sh_367) rfl rfl rfl ⟨rfl, rfl⟩ rfl rfl rfl rfl rfl ?_
      obtain ⟨rfl, rfl⟩ := F
      exact ev_ret rfl rfl
theorem vc_MD_openOdds {q : Nat × (Nat → Int32)} {S S' : ms} {r : Option Value}
    (F : ∃ (z3 : Int) (S1 : ms), EV q 352 0 [some (.ref 367), some (vI 2), none, none, none] [] S (some (vL z3)) S1 ∧ ∃ (z6 : Int) (S4 : ms), EV q 352 0 [some (.ref 367), some (vI 4), none, none, none] [] S1 (some (vL z6)) S4 ∧ EV q 367 15 [some (.ref 367), some (vL z3), none, some (vL z6), none, some (vI 0), none, none, none, none, none, none, none, none] [] S4 r S') : EV q 367 0 [some (.ref 367), none, none, none, none, none, none, none, none, none, none, none, none, none] [] S r S' := by
  unfold EV
  refine ev_bk 2 (S' := (2, [some (.ref 367), none, none, none, none, none, none, none, none, none, none, none, none, none], [vI 2, .ref 367], hp S, 0, 0)) rfl ?_
  obtain ⟨z3, S1, e2, F⟩ := F
  refine mv_calv (as := [vI 2]) (rest := []) e2 (sh_367) rfl rfl rfl ⟨rfl, rfl⟩ rfl rfl rfl rfl rfl ?_
  refine ev_bk 3 (S' := (8, [some (.ref 367), some (vL z3), none, none, none, none, none, none, none, none, none, none, none, none], [vI 4, .ref 367], hp S1, 0, 0)) rfl ?_
  obtain ⟨z6, S4, e5, F⟩ := F
  refine mv_calv (as := [vI 4]) (rest := []) e5 (sh_367) rfl rfl rfl ⟨rfl, rfl⟩ rfl rfl rfl rfl rfl ?_
  refine ev_bk 3 (S' := (15, [some (.ref 367), some (vL z3), none, some (vL z6), none, some (vI 0), none, none, none, none, none, none, none, none], [], hp S4, 0, 0)) rfl ?_
  exact F
theorem vc_MD_openOdds_15 {q : Nat × (Nat → Int32)} {S S' : ms} {r : Option Value} (x1 x3 x5 : Int)
    (F : ((65536 ≤ w32 x5) → ∀ S1 : ms, S1 = wJ S 367 64 4294967295 → EV q 367 51 [some (.ref 367), some (vL x1), none, some (vL x3), none, some (vI 0), some (vL 0), none, none, none, none, none, none, none] [] S1 r S') ∧ ((¬ 65536 ≤ w32 x5) → (0 ≤ w32 x5 ∧ w32 x5 < (65536 : Nat)) ∧ ∀ S3 : ms, S3 = wI S 405 (w32 x5) 1024 → EV q 367 15 [some (.ref 367), some (vL x1), none, some (vL x3), none, some (vI (x5 + 1)), none, none, none, none, none, none, none, none] [] S3 r S')) : EV q 367 15 [some (.ref 367), some (vL x1), none, some (vL x3), none, some (vI x5), none, none, none, none, none, none, none, none] [] S r S' := by
  unfold EV
  refine ev_bk 2 (S' := (19, [some (.ref 367), some (vL x1), none, some (vL x3), none, some (vI x5), none, none, none, none, none, none, none, none], [vI 65536, vI x5], hp S, 0, 0)) rfl ?_
  refine mv_icmp 38 rfl rfl (fun c => ?_) (fun c => ?_)
  · have F := F.1 c
    refine ev_bk 2 (S' := (42, [some (.ref 367), some (vL x1), none, some (vL x3), none, some (vI x5), none, none, none, none, none, none, none, none], [vL 4294967295, .ref 367], hp S, 0, 0)) rfl ?_
    refine mv_pfJ rfl rfl (sh_367) (by decide) rfl rfl ?_
    have F := F _ rfl
    refine ev_bk 4 (S' := (51, [some (.ref 367), some (vL x1), none, some (vL x3), none, some (vI 0), some (vL 0), none, none, none, none, none, none, none], [], hp (wJ S 367 64 4294967295), 0, 0)) rfl ?_
    exact F
  · have F := F.2 c
    refine ev_bk 1 (S' := (23, [some (.ref 367), some (vL x1), none, some (vL x3), none, some (vI x5), none, none, none, none, none, none, none, none], [.ref 367], hp S, 0, 0)) rfl ?_
    refine mv_gfR rfl rfl (sh_367) (by decide) rfl ?_
    refine ev_bk 2 (S' := (31, [some (.ref 367), some (vL x1), none, some (vL x3), none, some (vI x5), none, none, none, none, none, none, none, none], [vI 1024, vI x5, .ref 405], hp S, 0, 0)) rfl ?_
    obtain ⟨b2, F⟩ := F
    refine mv_ias rfl (sh_405) b2 ?_
    have F := F _ rfl
    refine mv_inc (lv' := [some (.ref 367), some (vL x1), none, some (vL x3), none, some (vI (x5 + 1)), none, none, none, none, none, none, none, none]) 5 1 rfl rfl rfl rfl ?_
    refine mv_goto 15 rfl rfl ?_
    exact F
theorem vc_MD_openOdds_51 {q : Nat × (Nat → Int32)} {S S' : ms} {r : Option Value} (x1 x3 x5 x6 : Int)
    (F : ((w64 x1 ≤ w64 x6) → EV q 367 288 [some (.ref 367), some (vL x1), none, some (vL x3), none, some (vI x5), some (vL x6), none, none, none, none, none, none, none] [] S r S') ∧ ((¬ w64 x1 ≤ w64 x6) → ∃ (z3 : Int) (S1 : ms), EV q 333 0 [some (.ref 367)] [] S (some (vI z3)) S1 ∧ ((w32 z3 = 0) → EV q 367 288 [some (.ref 367), some (vL x1), none, some (vL x3), none, some (vI x5), some (vL x6), none, none, none, none, none, none, none] [] S1 r S') ∧ ((¬ w32 z3 = 0) → EV q 367 71 [some (.ref 367), some (vL x1), none, some (vL x3), none, some (vI x5), some (vL x6), none, some (vI 1), some (vI 0), none, none, none, none] [] S1 r S'))) : EV q 367 51 [some (.ref 367), some (vL x1), none, some (vL x3), none, some (vI x5), some (vL x6), none, none, none, none, none, none, none] [] S r S' := by
  unfold EV
  refine ev_bk 2 (S' := (54, [some (.ref 367), some (vL x1), none, some (vL x3), none, some (vI x5), some (vL x6), none, none, none, none, none, none, none], [vL x1, vL x6], hp S, 0, 0)) rfl ?_
  refine mv_lif 288 rfl rfl rfl (fun c => ?_) (fun c => ?_)
  · have F := F.1 c
    exact F
  · have F := F.2 c
    refine ev_bk 1 (S' := (59, [some (.ref 367), some (vL x1), none, some (vL x3), none, some (vI x5), some (vL x6), none, none, none, none, none, none, none], [.ref 367], hp S, 0, 0)) rfl ?_
    obtain ⟨z3, S1, e2, F⟩ := F
    refine mv_calv (as := []) (rest := []) e2 (sh_367) rfl rfl rfl ⟨rfl, rfl⟩ rfl rfl rfl rfl rfl ?_
    refine mv_if 288 rfl rfl (fun c => ?_) (fun c => ?_)
    · have F := F.1 c
      exact F
    · have F := F.2 c
      refine ev_bk 4 (S' := (71, [some (.ref 367), some (vL x1), none, some (vL x3), none, some (vI x5), some (vL x6), none, some (vI 1), some (vI 0), none, none, none, none], [], hp S1, 0, 0)) rfl ?_
      exact F
theorem vc_MD_openOdds_71 {q : Nat × (Nat → Int32)} {S S' : ms} {r : Option Value} (x1 x3 x5 x6 x8 x9 : Int)
    (F : ((8 ≤ w32 x9) → EV q 367 265 [some (.ref 367), some (vL x1), none, some (vL x3), none, some (vI x5), some (vL x6), none, some (vI x8), some (vI x9), none, none, none, none] [] S r S') ∧ ((¬ 8 ≤ w32 x9) → ∃ (z3 : Int) (S1 : ms), EV q 333 0 [some (.ref 367)] [] S (some (vI z3)) S1 ∧ ((w32 z3 = 0) → EV q 367 265 [some (.ref 367), some (vL x1), none, some (vL x3), none, some (vI x5), some (vL x6), none, some (vI x8), some (vI x9), none, none, none, none] [] S1 r S') ∧ ((¬ w32 z3 = 0) → (0 ≤ w32 ((256 * x5) + x8) ∧ w32 ((256 * x5) + x8) < (65536 : Nat)) ∧ ((w64 ((Int.tdiv (w64 (S1.2.1 367 64)) (w64 2048)) * (w32 (S1.1 405 (w32 ((256 * x5) + x8))))) ≤ w64 x3) → EV q 367 127 [some (.ref 367), some (vL x1), none, some (vL x3), none, some (vI x5), some (vL x6), none, some (vI x8), some (vI x9), some (vI ((256 * x5) + x8)), some (vL ((Int.tdiv (w64 (S1.2.1 367 64)) (w64 2048)) * (w32 (S1.1 405 (w32 ((256 * x5) + x8)))))), none, none] [vI 1] S1 r S') ∧ ((¬ w64 ((Int.tdiv (w64 (S1.2.1 367 64)) (w64 2048)) * (w32 (S1.1 405 (w32 ((256 * x5) + x8))))) ≤ w64 x3) → EV q 367 127 [some (.ref 367), some (vL x1), none, some (vL x3), none, some (vI x5), some (vL x6), none, some (vI x8), some (vI x9), some (vI ((256 * x5) + x8)), some (vL ((Int.tdiv (w64 (S1.2.1 367 64)) (w64 2048)) * (w32 (S1.1 405 (w32 ((256 * x5) + x8)))))), none, none] [vI 0] S1 r S')))) : EV q 367 71 [some (.ref 367), some (vL x1), none, some (vL x3), none, some (vI x5), some (vL x6), none, some (vI x8), some (vI x9), none, none, none, none] [] S r S' := by
  unfold EV
  refine ev_bk 2 (S' := (75, [some (.ref 367), some (vL x1), none, some (vL x3), none, some (vI x5), some (vL x6), none, some (vI x8), some (vI x9), none, none, none, none], [vI 8, vI x9], hp S, 0, 0)) rfl ?_
  refine mv_icmp 265 rfl rfl (fun c => ?_) (fun c => ?_)
  · have F := F.1 c
    exact F
  · have F := F.2 c
    refine ev_bk 1 (S' := (79, [some (.ref 367), some (vL x1), none, some (vL x3), none, some (vI x5), some (vL x6), none, some (vI x8), some (vI x9), none, none, none, none], [.ref 367], hp S, 0, 0)) rfl ?_
    obtain ⟨z3, S1, e2, F⟩ := F
    refine mv_calv (as := []) (rest := []) e2 (sh_367) rfl rfl rfl ⟨rfl, rfl⟩ rfl rfl rfl rfl rfl ?_
    refine mv_if 265 rfl rfl (fun c => ?_) (fun c => ?_)
    · have F := F.1 c
      exact F
    · have F := F.2 c
      refine ev_bk 2 (S' := (90, [some (.ref 367), some (vL x1), none, some (vL x3), none, some (vI x5), some (vL x6), none, some (vI x8), some (vI x9), none, none, none, none], [vI x5, vI 256], hp S1, 0, 0)) rfl ?_
      refine mv_imul rfl ?_
      refine ev_bk 1 (S' := (93, [some (.ref 367), some (vL x1), none, some (vL x3), none, some (vI x5), some (vL x6), none, some (vI x8), some (vI x9), none, none, none, none], [vI x8, vI (256 * x5)], hp S1, 0, 0)) rfl ?_
      refine mv_iadd rfl ?_
      refine ev_bk 2 (S' := (97, [some (.ref 367), some (vL x1), none, some (vL x3), none, some (vI x5), some (vL x6), none, some (vI x8), some (vI x9), some (vI ((256 * x5) + x8)), none, none, none], [.ref 367], hp S1, 0, 0)) rfl ?_
      refine mv_gfJ rfl rfl (sh_367) (by decide) rfl ?_
      refine ev_bk 1 (S' := (103, [some (.ref 367), some (vL x1), none, some (vL x3), none, some (vI x5), some (vL x6), none, some (vI x8), some (vI x9), some (vI ((256 * x5) + x8)), none, none, none], [vL 2048, vL (S1.2.1 367 64)], hp S1, 0, 0)) rfl ?_
      refine mv_ldiv (by decide) rfl ?_
      refine ev_bk 1 (S' := (105, [some (.ref 367), some (vL x1), none, some (vL x3), none, some (vI x5), some (vL x6), none, some (vI x8), some (vI x9), some (vI ((256 * x5) + x8)), none, none, none], [.ref 367, vL (Int.tdiv (w64 (S1.2.1 367 64)) (w64 2048))], hp S1, 0, 0)) rfl ?_
      refine mv_gfR rfl rfl (sh_367) (by decide) rfl ?_
      refine ev_bk 1 (S' := (110, [some (.ref 367), some (vL x1), none, some (vL x3), none, some (vI x5), some (vL x6), none, some (vI x8), some (vI x9), some (vI ((256 * x5) + x8)), none, none, none], [vI ((256 * x5) + x8), .ref 405, vL (Int.tdiv (w64 (S1.2.1 367 64)) (w64 2048))], hp S1, 0, 0)) rfl ?_
      obtain ⟨b4, F⟩ := F
      refine mv_ial rfl (sh_405) b4 ?_
      refine mv_i2l rfl ?_
      refine mv_lmul rfl ?_
      refine ev_bk 3 (S' := (118, [some (.ref 367), some (vL x1), none, some (vL x3), none, some (vI x5), some (vL x6), none, some (vI x8), some (vI x9), some (vI ((256 * x5) + x8)), some (vL ((Int.tdiv (w64 (S1.2.1 367 64)) (w64 2048)) * (w32 (S1.1 405 (w32 ((256 * x5) + x8)))))), none, none], [vL ((Int.tdiv (w64 (S1.2.1 367 64)) (w64 2048)) * (w32 (S1.1 405 (w32 ((256 * x5) + x8))))), vL x3], hp S1, 0, 0)) rfl ?_
      refine mv_lif 126 rfl rfl rfl (fun c => ?_) (fun c => ?_)
      · have F := F.1 c
        refine ev_bk 1 (S' := (127, [some (.ref 367), some (vL x1), none, some (vL x3), none, some (vI x5), some (vL x6), none, some (vI x8), some (vI x9), some (vI ((256 * x5) + x8)), some (vL ((Int.tdiv (w64 (S1.2.1 367 64)) (w64 2048)) * (w32 (S1.1 405 (w32 ((256 * x5) + x8)))))), none, none], [vI 1], hp S1, 0, 0)) rfl ?_
        exact F
      · have F := F.2 c
        refine ev_bk 1 (S' := (123, [some (.ref 367), some (vL x1), none, some (vL x3), none, some (vI x5), some (vL x6), none, some (vI x8), some (vI x9), some (vI ((256 * x5) + x8)), some (vL ((Int.tdiv (w64 (S1.2.1 367 64)) (w64 2048)) * (w32 (S1.1 405 (w32 ((256 * x5) + x8)))))), none, none], [vI 0], hp S1, 0, 0)) rfl ?_
        refine mv_goto 127 rfl rfl ?_
        exact F
theorem vc_MD_openOdds_127 {q : Nat × (Nat → Int32)} {S S' : ms} {r : Option Value} (x1 x3 x5 x6 x8 x9 x10 x11 y0 : Int)
    (F : ((¬ w32 y0 = 0) → ∀ S1 : ms, S1 = wJ S 367 64 ((S.2.1 367 64) - x11) → (0 ≤ w32 x10 ∧ w32 x10 < (65536 : Nat)) ∧ (0 ≤ w32 x10 ∧ w32 x10 < (65536 : Nat)) ∧ (0 ≤ w32 x10 ∧ w32 x10 < (65536 : Nat)) ∧ ∀ S5 : ms, S5 = wI S1 405 (w32 x10) ((S1.1 405 (w32 x10)) - (Int.tdiv (w32 (S1.1 405 (w32 x10))) (w32 32))) → EV q 367 203 [some (.ref 367), some (vL x1), none, some (vL (x3 - x11)), none, some (vI x5), some (vL x6), none, some (vI x8), some (vI x9), some (vI x10), some (vL x11), none, some (vI y0)] [] S5 r S') ∧ ((¬ (¬ w32 y0 = 0)) → ∀ S6 : ms, S6 = wJ S 367 64 x11 → (0 ≤ w32 x10 ∧ w32 x10 < (65536 : Nat)) ∧ (0 ≤ w32 x10 ∧ w32 x10 < (65536 : Nat)) ∧ (0 ≤ w32 x10 ∧ w32 x10 < (65536 : Nat)) ∧ ∀ S10 : ms, S10 = wI S6 405 (w32 x10) ((S6.1 405 (w32 x10)) + (Int.tdiv (w32 (2048 - (S6.1 405 (w32 x10)))) (w32 32))) → EV q 367 203 [some (.ref 367), some (vL x1), none, some (vL x3), none, some (vI x5), some (vL x6), none, some (vI x8), some (vI x9), some (vI x10), some (vL x11), none, some (vI y0)] [] S10 r S')) : EV q 367 127 [some (.ref 367), some (vL x1), none, some (vL x3), none, some (vI x5), some (vL x6), none, some (vI x8), some (vI x9), some (vI x10), some (vL x11), none, none] [vI y0] S r S' := by
  unfold EV
  refine ev_bk 2 (S' := (131, [some (.ref 367), some (vL x1), none, some (vL x3), none, some (vI x5), some (vL x6), none, some (vI x8), some (vI x9), some (vI x10), some (vL x11), none, some (vI y0)], [vI y0], hp S, 0, 0)) rfl ?_
  refine mv_if 167 rfl rfl (fun c => ?_) (fun c => ?_)
  · have F := F.1 c
    refine ev_bk 2 (S' := (170, [some (.ref 367), some (vL x1), none, some (vL x3), none, some (vI x5), some (vL x6), none, some (vI x8), some (vI x9), some (vI x10), some (vL x11), none, some (vI y0)], [vL x11, vL x3], hp S, 0, 0)) rfl ?_
    refine mv_lsub rfl ?_
    refine ev_bk 3 (S' := (174, [some (.ref 367), some (vL x1), none, some (vL (x3 - x11)), none, some (vI x5), some (vL x6), none, some (vI x8), some (vI x9), some (vI x10), some (vL x11), none, some (vI y0)], [.ref 367, .ref 367], hp S, 0, 0)) rfl ?_
    refine mv_gfJ rfl rfl (sh_367) (by decide) rfl ?_
    refine ev_bk 1 (S' := (179, [some (.ref 367), some (vL x1), none, some (vL (x3 - x11)), none, some (vI x5), some (vL x6), none, some (vI x8), some (vI x9), some (vI x10), some (vL x11), none, some (vI y0)], [vL x11, vL (S.2.1 367 64), .ref 367], hp S, 0, 0)) rfl ?_
    refine mv_lsub rfl ?_
    refine mv_pfJ rfl rfl (sh_367) (by decide) rfl rfl ?_
    have F := F _ rfl
    refine ev_bk 1 (S' := (184, [some (.ref 367), some (vL x1), none, some (vL (x3 - x11)), none, some (vI x5), some (vL x6), none, some (vI x8), some (vI x9), some (vI x10), some (vL x11), none, some (vI y0)], [.ref 367], hp (wJ S 367 64 ((S.2.1 367 64) - x11)), 0, 0)) rfl ?_
    refine mv_gfR rfl rfl (sh_367) (by decide) rfl ?_
    refine ev_bk 2 (S' := (190, [some (.ref 367), some (vL x1), none, some (vL (x3 - x11)), none, some (vI x5), some (vL x6), none, some (vI x8), some (vI x9), some (vI x10), some (vL x11), none, some (vI y0)], [vI x10, .ref 405, vI x10, .ref 405], hp (wJ S 367 64 ((S.2.1 367 64) - x11)), 0, 0)) rfl ?_
    obtain ⟨b2, F⟩ := F
    refine mv_ial rfl (sh_405) b2 ?_
    refine ev_bk 1 (S' := (192, [some (.ref 367), some (vL x1), none, some (vL (x3 - x11)), none, some (vI x5), some (vL x6), none, some (vI x8), some (vI x9), some (vI x10), some (vL x11), none, some (vI y0)], [.ref 367, vI ((wJ S 367 64 ((S.2.1 367 64) - x11)).1 405 (w32 x10)), vI x10, .ref 405], hp (wJ S 367 64 ((S.2.1 367 64) - x11)), 0, 0)) rfl ?_
    refine mv_gfR rfl rfl (sh_367) (by decide) rfl ?_
    refine ev_bk 1 (S' := (197, [some (.ref 367), some (vL x1), none, some (vL (x3 - x11)), none, some (vI x5), some (vL x6), none, some (vI x8), some (vI x9), some (vI x10), some (vL x11), none, some (vI y0)], [vI x10, .ref 405, vI ((wJ S 367 64 ((S.2.1 367 64) - x11)).1 405 (w32 x10)), vI x10, .ref 405], hp (wJ S 367 64 ((S.2.1 367 64) - x11)), 0, 0)) rfl ?_
    obtain ⟨b3, F⟩ := F
    refine mv_ial rfl (sh_405) b3 ?_
    refine ev_bk 1 (S' := (200, [some (.ref 367), some (vL x1), none, some (vL (x3 - x11)), none, some (vI x5), some (vL x6), none, some (vI x8), some (vI x9), some (vI x10), some (vL x11), none, some (vI y0)], [vI 32, vI ((wJ S 367 64 ((S.2.1 367 64) - x11)).1 405 (w32 x10)), vI ((wJ S 367 64 ((S.2.1 367 64) - x11)).1 405 (w32 x10)), vI x10, .ref 405], hp (wJ S 367 64 ((S.2.1 367 64) - x11)), 0, 0)) rfl ?_
    refine mv_idiv (by decide) rfl ?_
    refine mv_isub rfl ?_
    obtain ⟨b4, F⟩ := F
    refine mv_ias rfl (sh_405) b4 ?_
    have F := F _ rfl
    exact F
  · have F := F.2 c
    refine ev_bk 2 (S' := (137, [some (.ref 367), some (vL x1), none, some (vL x3), none, some (vI x5), some (vL x6), none, some (vI x8), some (vI x9), some (vI x10), some (vL x11), none, some (vI y0)], [vL x11, .ref 367], hp S, 0, 0)) rfl ?_
    refine mv_pfJ rfl rfl (sh_367) (by decide) rfl rfl ?_
    have F := F _ rfl
    refine ev_bk 1 (S' := (141, [some (.ref 367), some (vL x1), none, some (vL x3), none, some (vI x5), some (vL x6), none, some (vI x8), some (vI x9), some (vI x10), some (vL x11), none, some (vI y0)], [.ref 367], hp (wJ S 367 64 x11), 0, 0)) rfl ?_
    refine mv_gfR rfl rfl (sh_367) (by decide) rfl ?_
    refine ev_bk 2 (S' := (147, [some (.ref 367), some (vL x1), none, some (vL x3), none, some (vI x5), some (vL x6), none, some (vI x8), some (vI x9), some (vI x10), some (vL x11), none, some (vI y0)], [vI x10, .ref 405, vI x10, .ref 405], hp (wJ S 367 64 x11), 0, 0)) rfl ?_
    obtain ⟨b7, F⟩ := F
    refine mv_ial rfl (sh_405) b7 ?_
    refine ev_bk 2 (S' := (152, [some (.ref 367), some (vL x1), none, some (vL x3), none, some (vI x5), some (vL x6), none, some (vI x8), some (vI x9), some (vI x10), some (vL x11), none, some (vI y0)], [.ref 367, vI 2048, vI ((wJ S 367 64 x11).1 405 (w32 x10)), vI x10, .ref 405], hp (wJ S 367 64 x11), 0, 0)) rfl ?_
    refine mv_gfR rfl rfl (sh_367) (by decide) rfl ?_
    refine ev_bk 1 (S' := (157, [some (.ref 367), some (vL x1), none, some (vL x3), none, some (vI x5), some (vL x6), none, some (vI x8), some (vI x9), some (vI x10), some (vL x11), none, some (vI y0)], [vI x10, .ref 405, vI 2048, vI ((wJ S 367 64 x11).1 405 (w32 x10)), vI x10, .ref 405], hp (wJ S 367 64 x11), 0, 0)) rfl ?_
    obtain ⟨b8, F⟩ := F
    refine mv_ial rfl (sh_405) b8 ?_
    refine mv_isub rfl ?_
    refine ev_bk 1 (S' := (161, [some (.ref 367), some (vL x1), none, some (vL x3), none, some (vI x5), some (vL x6), none, some (vI x8), some (vI x9), some (vI x10), some (vL x11), none, some (vI y0)], [vI 32, vI (2048 - ((wJ S 367 64 x11).1 405 (w32 x10))), vI ((wJ S 367 64 x11).1 405 (w32 x10)), vI x10, .ref 405], hp (wJ S 367 64 x11), 0, 0)) rfl ?_
    refine mv_idiv (by decide) rfl ?_
    refine mv_iadd rfl ?_
    obtain ⟨b9, F⟩ := F
    refine mv_ias rfl (sh_405) b9 ?_
    have F := F _ rfl
    refine mv_goto 203 rfl rfl ?_
    exact F
theorem vc_MD_openOdds_203 {q : Nat × (Nat → Int32)} {S S' : ms} {r : Option Value} (x1 x3 x5 x6 x8 x9 x10 x11 x13 : Int)
    (F : ((w64 16777216 ≤ w64 (S.2.1 367 64)) → EV q 367 250 [some (.ref 367), some (vL x1), none, some (vL x3), none, some (vI x5), some (vL x6), none, some (vI x8), some (vI x9), some (vI x10), some (vL x11), none, some (vI x13)] [] S r S') ∧ ((¬ w64 16777216 ≤ w64 (S.2.1 367 64)) → ∃ (z3 : Int) (S1 : ms), EV q 333 0 [some (.ref 367)] [] S (some (vI z3)) S1 ∧ ((w32 z3 = 0) → EV q 367 250 [some (.ref 367), some (vL x1), none, some (vL x3), none, some (vI x5), some (vL x6), none, some (vI x8), some (vI x9), some (vI x10), some (vL x11), none, some (vI x13)] [] S1 r S') ∧ ((¬ w32 z3 = 0) → ∃ (z6 : Int) (S4 : ms), EV q 334 0 [some (.ref 367)] [] S1 (some (vI z6)) S4 ∧ ∀ S7 : ms, S7 = wJ S4 367 64 ((S4.2.1 367 64) * 256) → EV q 367 203 [some (.ref 367), some (vL x1), none, some (vL (lO ((x3 * 256) % 4294967296) (w32 z6))), none, some (vI x5), some (vL x6), none, some (vI x8), some (vI x9), some (vI x10), some (vL x11), none, some (vI x13)] [] S7 r S'))) : EV q 367 203 [some (.ref 367), some (vL x1), none, some (vL x3), none, some (vI x5), some (vL x6), none, some (vI x8), some (vI x9), some (vI x10), some (vL x11), none, some (vI x13)] [] S r S' := by
  unfold EV
  refine ev_bk 1 (S' := (204, [some (.ref 367), some (vL x1), none, some (vL x3), none, some (vI x5), some (vL x6), none, some (vI x8), some (vI x9), some (vI x10), some (vL x11), none, some (vI x13)], [.ref 367], hp S, 0, 0)) rfl ?_
  refine mv_gfJ rfl rfl (sh_367) (by decide) rfl ?_
  refine ev_bk 1 (S' := (210, [some (.ref 367), some (vL x1), none, some (vL x3), none, some (vI x5), some (vL x6), none, some (vI x8), some (vI x9), some (vI x10), some (vL x11), none, some (vI x13)], [vL 16777216, vL (S.2.1 367 64)], hp S, 0, 0)) rfl ?_
  refine mv_lif 250 rfl rfl rfl (fun c => ?_) (fun c => ?_)
  · have F := F.1 c
    exact F
  · have F := F.2 c
    refine ev_bk 1 (S' := (215, [some (.ref 367), some (vL x1), none, some (vL x3), none, some (vI x5), some (vL x6), none, some (vI x8), some (vI x9), some (vI x10), some (vL x11), none, some (vI x13)], [.ref 367], hp S, 0, 0)) rfl ?_
    obtain ⟨z3, S1, e2, F⟩ := F
    refine mv_calv (as := []) (rest := []) e2 (sh_367) rfl rfl rfl ⟨rfl, rfl⟩ rfl rfl rfl rfl rfl ?_
    refine mv_if 250 rfl rfl (fun c => ?_) (fun c => ?_)
    · have F := F.1 c
      exact F
    · have F := F.2 c
      refine ev_bk 2 (S' := (224, [some (.ref 367), some (vL x1), none, some (vL x3), none, some (vI x5), some (vL x6), none, some (vI x8), some (vI x9), some (vI x10), some (vL x11), none, some (vI x13)], [vI 8, vL x3], hp S1, 0, 0)) rfl ?_
      refine mv_lshl 256 rfl rfl ?_
      refine ev_bk 1 (S' := (228, [some (.ref 367), some (vL x1), none, some (vL x3), none, some (vI x5), some (vL x6), none, some (vI x8), some (vI x9), some (vI x10), some (vL x11), none, some (vI x13)], [vL 4294967295, vL (x3 * 256)], hp S1, 0, 0)) rfl ?_
      refine mv_landm 4294967296 32 (by decide) rfl rfl rfl ?_
      refine ev_bk 1 (S' := (230, [some (.ref 367), some (vL x1), none, some (vL x3), none, some (vI x5), some (vL x6), none, some (vI x8), some (vI x9), some (vI x10), some (vL x11), none, some (vI x13)], [.ref 367, vL ((x3 * 256) % 4294967296)], hp S1, 0, 0)) rfl ?_
      obtain ⟨z6, S4, e5, F⟩ := F
      refine mv_calv (as := []) (rest := [vL ((x3 * 256) % 4294967296)]) e5 (sh_367) rfl rfl rfl ⟨rfl, rfl⟩ rfl rfl rfl rfl rfl ?_
      refine mv_i2l rfl ?_
      refine mv_lor rfl ?_
      refine ev_bk 3 (S' := (238, [some (.ref 367), some (vL x1), none, some (vL (lO ((x3 * 256) % 4294967296) (w32 z6))), none, some (vI x5), some (vL x6), none, some (vI x8), some (vI x9), some (vI x10), some (vL x11), none, some (vI x13)], [.ref 367, .ref 367], hp S4, 0, 0)) rfl ?_
      refine mv_gfJ rfl rfl (sh_367) (by decide) rfl ?_
      refine ev_bk 1 (S' := (243, [some (.ref 367), some (vL x1), none, some (vL (lO ((x3 * 256) % 4294967296) (w32 z6))), none, some (vI x5), some (vL x6), none, some (vI x8), some (vI x9), some (vI x10), some (vL x11), none, some (vI x13)], [vI 8, vL (S4.2.1 367 64), .ref 367], hp S4, 0, 0)) rfl ?_
      refine mv_lshl 256 rfl rfl ?_
      refine mv_pfJ rfl rfl (sh_367) (by decide) rfl rfl ?_
      have F := F _ rfl
      refine mv_goto 203 rfl rfl ?_
      exact F
theorem vc_MD_openOdds_250 {q : Nat × (Nat → Int32)} {S S' : ms} {r : Option Value} (x1 x3 x5 x6 x8 x9 x10 x11 x13 : Int)
    (F : EV q 367 71 [some (.ref 367), some (vL x1), none, some (vL x3), none, some (vI x5), some (vL x6), none, some (vI ((2 * x8) + x13)), some (vI (x9 + 1)), none, none, none, none] [] S r S') : EV q 367 250 [some (.ref 367), some (vL x1), none, some (vL x3), none, some (vI x5), some (vL x6), none, some (vI x8), some (vI x9), some (vI x10), some (vL x11), none, some (vI x13)] [] S r S' := by
  unfold EV
  refine ev_bk 2 (S' := (253, [some (.ref 367), some (vL x1), none, some (vL x3), none, some (vI x5), some (vL x6), none, some (vI x8), some (vI x9), some (vI x10), some (vL x11), none, some (vI x13)], [vI x8, vI 2], hp S, 0, 0)) rfl ?_
  refine mv_imul rfl ?_
  refine ev_bk 1 (S' := (256, [some (.ref 367), some (vL x1), none, some (vL x3), none, some (vI x5), some (vL x6), none, some (vI x8), some (vI x9), some (vI x10), some (vL x11), none, some (vI x13)], [vI x13, vI (2 * x8)], hp S, 0, 0)) rfl ?_
  refine mv_iadd rfl ?_
  refine ev_bk 1 (S' := (259, [some (.ref 367), some (vL x1), none, some (vL x3), none, some (vI x5), some (vL x6), none, some (vI ((2 * x8) + x13)), some (vI x9), some (vI x10), some (vL x11), none, some (vI x13)], [], hp S, 0, 0)) rfl ?_
  refine mv_inc (lv' := [some (.ref 367), some (vL x1), none, some (vL x3), none, some (vI x5), some (vL x6), none, some (vI ((2 * x8) + x13)), some (vI (x9 + 1)), some (vI x10), some (vL x11), none, some (vI x13)]) 9 1 rfl rfl rfl rfl ?_
  refine mv_goto 71 rfl rfl ?_
  exact ev_wk (le_s (le_s (le_s (le_s (le_s (le_s (le_s (le_s (le_s (le_s (le_n (le_n (le_s (le_n le_0)))))))))))))) F
theorem vc_MD_openOdds_265 {q : Nat × (Nat → Int32)} {S S' : ms} {r : Option Value} (x1 x3 x5 x6 x8 x9 : Int)
    (F : ∃ (S1 : ms), EV q 336 0 [some (.ref 367), some (vI (x8 % 256))] [] S none S1 ∧ EV q 367 51 [some (.ref 367), some (vL x1), none, some (vL x3), none, some (vI (x8 % 256)), some (vL (x6 + 1)), none, none, none, none, none, none, none] [] S1 r S') : EV q 367 265 [some (.ref 367), some (vL x1), none, some (vL x3), none, some (vI x5), some (vL x6), none, some (vI x8), some (vI x9), none, none, none, none] [] S r S' := by
  unfold EV
  refine ev_bk 2 (S' := (270, [some (.ref 367), some (vL x1), none, some (vL x3), none, some (vI x5), some (vL x6), none, some (vI x8), some (vI x9), none, none, none, none], [vI 255, vI x8], hp S, 0, 0)) rfl ?_
  refine mv_iandm 256 8 (by decide) rfl rfl rfl ?_
  refine ev_bk 3 (S' := (276, [some (.ref 367), some (vL x1), none, some (vL x3), none, some (vI (x8 % 256)), some (vL x6), none, some (vI x8), some (vI x9), none, none, none, none], [vI (x8 % 256), .ref 367], hp S, 0, 0)) rfl ?_
  obtain ⟨S1, e2, F⟩ := F
  refine mv_calv (as := [vI (x8 % 256)]) (rest := []) e2 (sh_367) rfl rfl rfl ⟨rfl, rfl⟩ rfl rfl rfl rfl rfl ?_
  refine ev_bk 2 (S' := (282, [some (.ref 367), some (vL x1), none, some (vL x3), none, some (vI (x8 % 256)), some (vL x6), none, some (vI x8), some (vI x9), none, none, none, none], [vL 1, vL x6], hp S1, 0, 0)) rfl ?_
  refine mv_ladd rfl ?_
  refine ev_bk 1 (S' := (285, [some (.ref 367), some (vL x1), none, some (vL x3), none, some (vI (x8 % 256)), some (vL (x6 + 1)), none, some (vI x8), some (vI x9), none, none, none, none], [], hp S1, 0, 0)) rfl ?_
  refine mv_goto 51 rfl rfl ?_
  exact ev_wk (le_s (le_s (le_s (le_s (le_s (le_s (le_s (le_s (le_n (le_n (le_s (le_s (le_s (le_s le_0)))))))))))))) F
theorem vc_MD_openOdds_288 {q : Nat × (Nat → Int32)} {S S' : ms} {r : Option Value} (x1 x3 x5 x6 : Int)
    (F : ∃ (S1 : ms), EV q 341 0 [some (.ref 367)] [] S none S1 ∧ r = none ∧ S' = S1) : EV q 367 288 [some (.ref 367), some (vL x1), none, some (vL x3), none, some (vI x5), some (vL x6), none, none, none, none, none, none, none] [] S r S' := by
  unfold EV
  refine ev_bk 1 (S' := (289, [some (.ref 367), some (vL x1), none, some (vL x3), none, some (vI x5), some (vL x6), none, none, none, none, none, none, none], [.ref 367], hp S, 0, 0)) rfl ?_
  obtain ⟨S1, e2, F⟩ := F
  refine mv_calv (as := []) (rest := []) e2 (sh_367) rfl rfl rfl ⟨rfl, rfl⟩ rfl rfl rfl rfl rfl ?_
  obtain ⟨rfl, rfl⟩ := F
  exact ev_ret rfl rfl
theorem vc_MD_tellFault {q : Nat × (Nat → Int32)} {S S' : ms} {r : Option Value} (x1 : Int)
    (F : ∀ S1 : ms, S1 = wI S 367 79 (S.1 367 19) → ((¬ w32 (S1.1 367 19) = 0) → EV q 368 24 [some (.ref 367), some (vI x1)] [vI (S1.1 367 20), .ref 367] S1 r S') ∧ ((¬ (¬ w32 (S1.1 367 19) = 0)) → EV q 368 24 [some (.ref 367), some (vI x1)] [vI 0, .ref 367] S1 r S')) : EV q 368 0 [some (.ref 367), some (vI x1)] [] S r S' := by
  unfold EV
  refine ev_bk 2 (S' := (2, [some (.ref 367), some (vI x1)], [.ref 367, .ref 367], hp S, 0, 0)) rfl ?_
  refine mv_gfI rfl rfl (sh_367) (by decide) rfl ?_
  refine mv_pfI rfl rfl (sh_367) (by decide) rfl rfl ?_
  have F := F _ rfl
  refine ev_bk 2 (S' := (10, [some (.ref 367), some (vI x1)], [.ref 367, .ref 367], hp (wI S 367 79 (S.1 367 19)), 0, 0)) rfl ?_
  refine mv_gfI rfl rfl (sh_367) (by decide) rfl ?_
  refine mv_if 20 rfl rfl (fun c => ?_) (fun c => ?_)
  · have F := F.1 c
    refine ev_bk 1 (S' := (21, [some (.ref 367), some (vI x1)], [.ref 367, .ref 367], hp (wI S 367 79 (S.1 367 19)), 0, 0)) rfl ?_
    refine mv_gfI rfl rfl (sh_367) (by decide) rfl ?_
    exact F
  · have F := F.2 c
    refine ev_bk 1 (S' := (17, [some (.ref 367), some (vI x1)], [vI 0, .ref 367], hp (wI S 367 79 (S.1 367 19)), 0, 0)) rfl ?_
    refine mv_goto 24 rfl rfl ?_
    exact F
theorem vc_MD_tellFault_24 {q : Nat × (Nat → Int32)} {S S' : ms} {r : Option Value} (x1 y0 : Int)
    (F : ∀ S1 : ms, S1 = wI S 367 80 y0 → ∀ S2 : ms, S2 = wI S1 367 81 x1 → r = some (vI (((-10)) - (S2.1 367 19))) ∧ S' = S2) : EV q 368 24 [some (.ref 367), some (vI x1)] [vI y0, .ref 367] S r S' := by
  unfold EV
  refine mv_pfI rfl rfl (sh_367) (by decide) rfl rfl ?_
  have F := F _ rfl
  refine ev_bk 2 (S' := (29, [some (.ref 367), some (vI x1)], [vI x1, .ref 367], hp (wI S 367 80 y0), 0, 0)) rfl ?_
  refine mv_pfI rfl rfl (sh_367) (by decide) rfl rfl ?_
  have F := F _ rfl
  refine ev_bk 2 (S' := (35, [some (.ref 367), some (vI x1)], [.ref 367, vI ((-10))], hp (wI (wI S 367 80 y0) 367 81 x1), 0, 0)) rfl ?_
  refine mv_gfI rfl rfl (sh_367) (by decide) rfl ?_
  refine mv_isub rfl ?_
  obtain ⟨rfl, rfl⟩ := F
  exact ev_ret rfl rfl
theorem vc_MD_fault {q : Nat × (Nat → Int32)} {S S' : ms} {r : Option Value} (x1 : Int)
    (F : ∀ S1 : ms, S1 = wI S 367 0 0 → ((¬ w32 x1 = 0) → ((¬ w32 x1 = 1) → ((¬ w32 x1 = 2) → r = some (vI ((-2))) ∧ S' = S1) ∧ ((¬ (¬ w32 x1 = 2)) → r = some (vI (S1.1 367 81)) ∧ S' = S1)) ∧ ((¬ (¬ w32 x1 = 1)) → r = some (vI (S1.1 367 80)) ∧ S' = S1)) ∧ ((¬ (¬ w32 x1 = 0)) → r = some (vI (S1.1 367 79)) ∧ S' = S1)) : EV q 369 0 [some (.ref 367), some (vI x1)] [] S r S' := by
  unfold EV
  refine ev_bk 2 (S' := (2, [some (.ref 367), some (vI x1)], [vI 0, .ref 367], hp S, 0, 0)) rfl ?_
  refine mv_pfI rfl rfl (sh_367) (by decide) rfl rfl ?_
  have F := F _ rfl
  refine ev_bk 1 (S' := (6, [some (.ref 367), some (vI x1)], [vI x1], hp (wI S 367 0 0), 0, 0)) rfl ?_
  refine mv_if 16 rfl rfl (fun c => ?_) (fun c => ?_)
  · have F := F.1 c
    refine ev_bk 2 (S' := (18, [some (.ref 367), some (vI x1)], [vI 1, vI x1], hp (wI S 367 0 0), 0, 0)) rfl ?_
    refine mv_icmp 28 rfl rfl (fun c => ?_) (fun c => ?_)
    · have F := F.1 c
      refine ev_bk 2 (S' := (30, [some (.ref 367), some (vI x1)], [vI 2, vI x1], hp (wI S 367 0 0), 0, 0)) rfl ?_
      refine mv_icmp 40 rfl rfl (fun c => ?_) (fun c => ?_)
      · have F := F.1 c
        refine ev_bk 1 (S' := (42, [some (.ref 367), some (vI x1)], [vI ((-2))], hp (wI S 367 0 0), 0, 0)) rfl ?_
        obtain ⟨rfl, rfl⟩ := F
        exact ev_ret rfl rfl
      · have F := F.2 c
        refine ev_bk 1 (S' := (34, [some (.ref 367), some (vI x1)], [.ref 367], hp (wI S 367 0 0), 0, 0)) rfl ?_
        refine mv_gfI rfl rfl (sh_367) (by decide) rfl ?_
        refine mv_goto 42 rfl rfl ?_
        obtain ⟨rfl, rfl⟩ := F
        exact ev_ret rfl rfl
    · have F := F.2 c
      refine ev_bk 1 (S' := (22, [some (.ref 367), some (vI x1)], [.ref 367], hp (wI S 367 0 0), 0, 0)) rfl ?_
      refine mv_gfI rfl rfl (sh_367) (by decide) rfl ?_
      refine mv_goto 42 rfl rfl ?_
      obtain ⟨rfl, rfl⟩ := F
      exact ev_ret rfl rfl
  · have F := F.2 c
    refine ev_bk 1 (S' := (10, [some (.ref 367), some (vI x1)], [.ref 367], hp (wI S 367 0 0), 0, 0)) rfl ?_
    refine mv_gfI rfl rfl (sh_367) (by decide) rfl ?_
    refine mv_goto 42 rfl rfl ?_
    obtain ⟨rfl, rfl⟩ := F
    exact ev_ret rfl rfl
theorem vc_MD_token {q : Nat × (Nat → Int32)} {S S' : ms} {r : Option Value} (x1 x2 : Int)
    (F : ∀ S1 : ms, S1 = wI S 367 0 0 → ((¬ w32 x1 = (-1)) → ((w32 x1 < 0) → r = some (vI ((-1))) ∧ S' = S1) ∧ ((¬ w32 x1 < 0) → ((w32 x1 < w32 (S1.1 367 84)) → ((¬ w32 x2 = 0) → ((¬ w32 x2 = 1) → ((¬ w32 x2 = 2) → r = some (vI ((-2))) ∧ S' = S1) ∧ ((¬ (¬ w32 x2 = 2)) → (0 ≤ w32 x1 ∧ w32 x1 < (6000 : Nat)) ∧ r = some (vI (S1.1 418 (w32 x1))) ∧ S' = S1)) ∧ ((¬ (¬ w32 x2 = 1)) → (0 ≤ w32 x1 ∧ w32 x1 < (6000 : Nat)) ∧ r = some (vI (S1.1 417 (w32 x1))) ∧ S' = S1)) ∧ ((¬ (¬ w32 x2 = 0)) → (0 ≤ w32 x1 ∧ w32 x1 < (6000 : Nat)) ∧ r = some (vI (S1.1 416 (w32 x1))) ∧ S' = S1)) ∧ ((¬ w32 x1 < w32 (S1.1 367 84)) → r = some (vI ((-1))) ∧ S' = S1))) ∧ ((¬ (¬ w32 x1 = (-1))) → r = some (vI (S1.1 367 84)) ∧ S' = S1)) : EV q 370 0 [some (.ref 367), some (vI x1), some (vI x2)] [] S r S' := by
  unfold EV
  refine ev_bk 2 (S' := (2, [some (.ref 367), some (vI x1), some (vI x2)], [vI 0, .ref 367], hp S, 0, 0)) rfl ?_
  refine mv_pfI rfl rfl (sh_367) (by decide) rfl rfl ?_
  have F := F _ rfl
  refine ev_bk 2 (S' := (7, [some (.ref 367), some (vI x1), some (vI x2)], [vI ((-1)), vI x1], hp (wI S 367 0 0), 0, 0)) rfl ?_
  refine mv_icmp 15 rfl rfl (fun c => ?_) (fun c => ?_)
  · have F := F.1 c
    refine ev_bk 1 (S' := (16, [some (.ref 367), some (vI x1), some (vI x2)], [vI x1], hp (wI S 367 0 0), 0, 0)) rfl ?_
    refine mv_if 27 rfl rfl (fun c => ?_) (fun c => ?_)
    · have F := F.1 c
      refine ev_bk 1 (S' := (28, [some (.ref 367), some (vI x1), some (vI x2)], [vI ((-1))], hp (wI S 367 0 0), 0, 0)) rfl ?_
      obtain ⟨rfl, rfl⟩ := F
      exact ev_ret rfl rfl
    · have F := F.2 c
      refine ev_bk 2 (S' := (21, [some (.ref 367), some (vI x1), some (vI x2)], [.ref 367, vI x1], hp (wI S 367 0 0), 0, 0)) rfl ?_
      refine mv_gfI rfl rfl (sh_367) (by decide) rfl ?_
      refine mv_icmp 29 rfl rfl (fun c => ?_) (fun c => ?_)
      · have F := F.1 c
        refine ev_bk 1 (S' := (30, [some (.ref 367), some (vI x1), some (vI x2)], [vI x2], hp (wI S 367 0 0), 0, 0)) rfl ?_
        refine mv_if 42 rfl rfl (fun c => ?_) (fun c => ?_)
        · have F := F.1 c
          refine ev_bk 2 (S' := (44, [some (.ref 367), some (vI x1), some (vI x2)], [vI 1, vI x2], hp (wI S 367 0 0), 0, 0)) rfl ?_
          refine mv_icmp 56 rfl rfl (fun c => ?_) (fun c => ?_)
          · have F := F.1 c
            refine ev_bk 2 (S' := (58, [some (.ref 367), some (vI x1), some (vI x2)], [vI 2, vI x2], hp (wI S 367 0 0), 0, 0)) rfl ?_
            refine mv_icmp 70 rfl rfl (fun c => ?_) (fun c => ?_)
            · have F := F.1 c
              refine ev_bk 1 (S' := (72, [some (.ref 367), some (vI x1), some (vI x2)], [vI ((-2))], hp (wI S 367 0 0), 0, 0)) rfl ?_
              obtain ⟨rfl, rfl⟩ := F
              exact ev_ret rfl rfl
            · have F := F.2 c
              refine ev_bk 1 (S' := (62, [some (.ref 367), some (vI x1), some (vI x2)], [.ref 367], hp (wI S 367 0 0), 0, 0)) rfl ?_
              refine mv_gfR rfl rfl (sh_367) (by decide) rfl ?_
              refine ev_bk 1 (S' := (66, [some (.ref 367), some (vI x1), some (vI x2)], [vI x1, .ref 418], hp (wI S 367 0 0), 0, 0)) rfl ?_
              obtain ⟨b2, F⟩ := F
              refine mv_ial rfl (sh_418) b2 ?_
              refine mv_goto 72 rfl rfl ?_
              obtain ⟨rfl, rfl⟩ := F
              exact ev_ret rfl rfl
          · have F := F.2 c
            refine ev_bk 1 (S' := (48, [some (.ref 367), some (vI x1), some (vI x2)], [.ref 367], hp (wI S 367 0 0), 0, 0)) rfl ?_
            refine mv_gfR rfl rfl (sh_367) (by decide) rfl ?_
            refine ev_bk 1 (S' := (52, [some (.ref 367), some (vI x1), some (vI x2)], [vI x1, .ref 417], hp (wI S 367 0 0), 0, 0)) rfl ?_
            obtain ⟨b3, F⟩ := F
            refine mv_ial rfl (sh_417) b3 ?_
            refine mv_goto 72 rfl rfl ?_
            obtain ⟨rfl, rfl⟩ := F
            exact ev_ret rfl rfl
        · have F := F.2 c
          refine ev_bk 1 (S' := (34, [some (.ref 367), some (vI x1), some (vI x2)], [.ref 367], hp (wI S 367 0 0), 0, 0)) rfl ?_
          refine mv_gfR rfl rfl (sh_367) (by decide) rfl ?_
          refine ev_bk 1 (S' := (38, [some (.ref 367), some (vI x1), some (vI x2)], [vI x1, .ref 416], hp (wI S 367 0 0), 0, 0)) rfl ?_
          obtain ⟨b4, F⟩ := F
          refine mv_ial rfl (sh_416) b4 ?_
          refine mv_goto 72 rfl rfl ?_
          obtain ⟨rfl, rfl⟩ := F
          exact ev_ret rfl rfl
      · have F := F.2 c
        refine ev_bk 1 (S' := (28, [some (.ref 367), some (vI x1), some (vI x2)], [vI ((-1))], hp (wI S 367 0 0), 0, 0)) rfl ?_
        obtain ⟨rfl, rfl⟩ := F
        exact ev_ret rfl rfl
  · have F := F.2 c
    refine ev_bk 1 (S' := (11, [some (.ref 367), some (vI x1), some (vI x2)], [.ref 367], hp (wI S 367 0 0), 0, 0)) rfl ?_
    refine mv_gfI rfl rfl (sh_367) (by decide) rfl ?_
    obtain ⟨rfl, rfl⟩ := F
    exact ev_ret rfl rfl
