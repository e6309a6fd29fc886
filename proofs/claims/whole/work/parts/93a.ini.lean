/-! the loops of the constructors (wip/gen/pvc2.py) -/
theorem sxB_f30 : sg sxB 30 = (6, 15, [(2, 10), (2, 31), (2, 42), (2, 53), (2, 64), (2, 75), (2, 86), (2, 87), (2, 88), (2, 89), (2, 90), (2, 91), (0, 0), (2, 92), (2, 93)]) := rfl
theorem sxB_f31 : sg sxB 31 = (7, 13, [(2, 32), (2, 33), (2, 34), (2, 35), (2, 36), (0, 0), (0, 0), (0, 0), (2, 37), (2, 38), (2, 39), (2, 40), (2, 41)]) := rfl
theorem sxB_f32 : sg sxB 32 = (0, 288, []) := rfl
theorem sxB_f33 : sg sxB 33 = (0, 288, []) := rfl
theorem sxB_f34 : sg sxB 34 = (0, 288, []) := rfl
theorem sxB_f35 : sg sxB 35 = (0, 288, []) := rfl
theorem sxB_f36 : sg sxB 36 = (0, 21, []) := rfl
theorem sxB_f37 : sg sxB 37 = (0, 22, []) := rfl
theorem sxB_f38 : sg sxB 38 = (0, 22, []) := rfl
theorem sxB_f39 : sg sxB 39 = (0, 288, []) := rfl
theorem sxB_f40 : sg sxB 40 = (0, 576, []) := rfl
theorem sxB_f41 : sg sxB 41 = (0, 576, []) := rfl
theorem sxB_f42 : sg sxB 42 = (7, 13, [(2, 43), (2, 44), (2, 45), (2, 46), (2, 47), (0, 0), (0, 0), (0, 0), (2, 48), (2, 49), (2, 50), (2, 51), (2, 52)]) := rfl
theorem sxB_f43 : sg sxB 43 = (0, 288, []) := rfl
theorem sxB_f44 : sg sxB 44 = (0, 288, []) := rfl
theorem sxB_f45 : sg sxB 45 = (0, 288, []) := rfl
theorem sxB_f46 : sg sxB 46 = (0, 288, []) := rfl
theorem sxB_f47 : sg sxB 47 = (0, 21, []) := rfl
theorem sxB_f48 : sg sxB 48 = (0, 22, []) := rfl
theorem sxB_f49 : sg sxB 49 = (0, 22, []) := rfl
theorem sxB_f50 : sg sxB 50 = (0, 288, []) := rfl
theorem sxB_f51 : sg sxB 51 = (0, 576, []) := rfl
theorem sxB_f52 : sg sxB 52 = (0, 576, []) := rfl
theorem sxB_f53 : sg sxB 53 = (7, 13, [(2, 54), (2, 55), (2, 56), (2, 57), (2, 58), (0, 0), (0, 0), (0, 0), (2, 59), (2, 60), (2, 61), (2, 62), (2, 63)]) := rfl
theorem sxB_f92 : sg sxB 92 = (0, 259, []) := rfl
theorem sxB_f93 : sg sxB 93 = (0, 259, []) := rfl
theorem sxD_f30 : sg sxD 30 = (6, 15, [(2, 10), (2, 31), (2, 42), (2, 53), (2, 64), (2, 75), (2, 86), (2, 87), (2, 88), (2, 89), (2, 90), (2, 91), (0, 0), (2, 92), (2, 93)]) := rfl
theorem sxD_f31 : sg sxD 31 = (7, 13, [(2, 32), (2, 33), (2, 34), (2, 35), (2, 36), (0, 0), (0, 0), (0, 0), (2, 37), (2, 38), (2, 39), (2, 40), (2, 41)]) := rfl
theorem sxD_f32 : sg sxD 32 = (0, 288, []) := rfl
theorem sxD_f33 : sg sxD 33 = (0, 288, []) := rfl
theorem sxD_f34 : sg sxD 34 = (0, 288, []) := rfl
theorem sxD_f35 : sg sxD 35 = (0, 288, []) := rfl
theorem sxD_f36 : sg sxD 36 = (0, 21, []) := rfl
theorem sxD_f37 : sg sxD 37 = (0, 22, []) := rfl
theorem sxD_f38 : sg sxD 38 = (0, 22, []) := rfl
theorem sxD_f39 : sg sxD 39 = (0, 288, []) := rfl
theorem sxD_f40 : sg sxD 40 = (0, 576, []) := rfl
theorem sxD_f41 : sg sxD 41 = (0, 576, []) := rfl
theorem sxD_f42 : sg sxD 42 = (7, 13, [(2, 43), (2, 44), (2, 45), (2, 46), (2, 47), (0, 0), (0, 0), (0, 0), (2, 48), (2, 49), (2, 50), (2, 51), (2, 52)]) := rfl
theorem sxD_f43 : sg sxD 43 = (0, 288, []) := rfl
theorem sxD_f44 : sg sxD 44 = (0, 288, []) := rfl
theorem sxD_f45 : sg sxD 45 = (0, 288, []) := rfl
theorem sxD_f46 : sg sxD 46 = (0, 288, []) := rfl
theorem sxD_f47 : sg sxD 47 = (0, 21, []) := rfl
theorem sxD_f48 : sg sxD 48 = (0, 22, []) := rfl
theorem sxD_f49 : sg sxD 49 = (0, 22, []) := rfl
theorem sxD_f50 : sg sxD 50 = (0, 288, []) := rfl
theorem sxD_f51 : sg sxD 51 = (0, 576, []) := rfl
theorem sxD_f52 : sg sxD 52 = (0, 576, []) := rfl
theorem sxD_f53 : sg sxD 53 = (7, 13, [(2, 54), (2, 55), (2, 56), (2, 57), (2, 58), (0, 0), (0, 0), (0, 0), (2, 59), (2, 60), (2, 61), (2, 62), (2, 63)]) := rfl
theorem sxD_f92 : sg sxD 92 = (0, 259, []) := rfl
theorem sxD_f93 : sg sxD 93 = (0, 259, []) := rfl
theorem sxD_f173 : sg sxD 173 = (10, 15, [(2, 174), (2, 175), (0, 0), (0, 0), (0, 0), (0, 0), (0, 0), (2, 176), (2, 177), (2, 178), (2, 179), (2, 180), (2, 181), (2, 182), (2, 183)]) := rfl
theorem sxD_f182 : sg sxD 182 = (0, 510, []) := rfl
theorem sxD_f183 : sg sxD 183 = (0, 256, []) := rfl
theorem sxB_31 : isCodeP sxB 31 := ⟨sxB_f31, sxB_f32, sxB_f33, sxB_f34, sxB_f35, sxB_f36, sxB_f37, sxB_f38, sxB_f39, sxB_f40, sxB_f41⟩
theorem sxB_42 : isCodeP sxB 42 := ⟨sxB_f42, sxB_f43, sxB_f44, sxB_f45, sxB_f46, sxB_f47, sxB_f48, sxB_f49, sxB_f50, sxB_f51, sxB_f52⟩
theorem vc_Blocks_ini_136 {q : Nat × (Nat → Int32)} {S S' : ms} {r : Option Value} (x2 : Int)
    (F : ((288 ≤ w32 x2) → ∃ (S1 : ms), EW q sxB 0 0 10 0 [some (.ref 31), some (vI 288), none, none] [] S none S1 ∧ EW q sxB 63 15151 8 208 [some (.ref 30), some (.ref 10), some (vI 0), none] [] S1 r S') ∧ ((¬ 288 ≤ w32 x2) → ((144 ≤ w32 x2) → ((256 ≤ w32 x2) → ((280 ≤ w32 x2) → EW q sxB 63 15151 8 189 [some (.ref 30), some (.ref 10), some (vI x2), none] [vI 8, vI x2, .ref 32] S r S') ∧ ((¬ 280 ≤ w32 x2) → EW q sxB 63 15151 8 189 [some (.ref 30), some (.ref 10), some (vI x2), none] [vI 7, vI x2, .ref 32] S r S')) ∧ ((¬ 256 ≤ w32 x2) → EW q sxB 63 15151 8 189 [some (.ref 30), some (.ref 10), some (vI x2), none] [vI 9, vI x2, .ref 32] S r S')) ∧ ((¬ 144 ≤ w32 x2) → EW q sxB 63 15151 8 189 [some (.ref 30), some (.ref 10), some (vI x2), none] [vI 8, vI x2, .ref 32] S r S'))) : EW q sxB 63 15151 8 136 [some (.ref 30), some (.ref 10), some (vI x2), none] [] S r S' := by
  unfold EW
  refine ev_bk 2 (S' := (140, [some (.ref 30), some (.ref 10), some (vI x2), none], [vI 288, vI x2], hq sxB S, 63, 15151)) rfl ?_
  refine mv_icmp 196 rfl rfl (fun c => ?_) (fun c => ?_)
  · have F := F.1 c
    refine ev_bk 1 (S' := (197, [some (.ref 30), some (.ref 10), some (vI x2), none], [.ref 30], hq sxB S, 63, 15151)) rfl ?_
    refine mw_gfR rfl rfl (sxB_f30) (by decide) rfl ?_
    refine ev_bk 1 (S' := (203, [some (.ref 30), some (.ref 10), some (vI x2), none], [vI 288, .ref 31], hq sxB S, 63, 15151)) rfl ?_
    obtain ⟨S1, e2, F⟩ := F
    refine mw_calv (by decide) (as := [vI 288]) (rest := []) e2 (sxB_f31) rfl rfl rfl ⟨rfl, rfl⟩ rfl rfl rfl rfl rfl ?_
    refine ev_bk 2 (S' := (208, [some (.ref 30), some (.ref 10), some (vI 0), none], [], hq sxB S1, 63, 15151)) rfl ?_
    exact F
  · have F := F.2 c
    refine ev_bk 1 (S' := (144, [some (.ref 30), some (.ref 10), some (vI x2), none], [.ref 30], hq sxB S, 63, 15151)) rfl ?_
    refine mw_gfR rfl rfl (sxB_f30) (by decide) rfl ?_
    refine mw_gfR rfl rfl (sxB_f31) (by decide) rfl ?_
    refine ev_bk 3 (S' := (155, [some (.ref 30), some (.ref 10), some (vI x2), none], [vI 144, vI x2, vI x2, .ref 32], hq sxB S, 63, 15151)) rfl ?_
    refine mv_icmp 163 rfl rfl (fun c => ?_) (fun c => ?_)
    · have F := F.1 c
      refine ev_bk 2 (S' := (167, [some (.ref 30), some (.ref 10), some (vI x2), none], [vI 256, vI x2, vI x2, .ref 32], hq sxB S, 63, 15151)) rfl ?_
      refine mv_icmp 175 rfl rfl (fun c => ?_) (fun c => ?_)
      · have F := F.1 c
        refine ev_bk 2 (S' := (179, [some (.ref 30), some (.ref 10), some (vI x2), none], [vI 280, vI x2, vI x2, .ref 32], hq sxB S, 63, 15151)) rfl ?_
        refine mv_icmp 187 rfl rfl (fun c => ?_) (fun c => ?_)
        · have F := F.1 c
          refine ev_bk 1 (S' := (189, [some (.ref 30), some (.ref 10), some (vI x2), none], [vI 8, vI x2, .ref 32], hq sxB S, 63, 15151)) rfl ?_
          exact F
        · have F := F.2 c
          refine ev_bk 1 (S' := (184, [some (.ref 30), some (.ref 10), some (vI x2), none], [vI 7, vI x2, .ref 32], hq sxB S, 63, 15151)) rfl ?_
          refine mv_goto 189 rfl rfl ?_
          exact F
      · have F := F.2 c
        refine ev_bk 1 (S' := (172, [some (.ref 30), some (.ref 10), some (vI x2), none], [vI 9, vI x2, .ref 32], hq sxB S, 63, 15151)) rfl ?_
        refine mv_goto 189 rfl rfl ?_
        exact F
    · have F := F.2 c
      refine ev_bk 1 (S' := (160, [some (.ref 30), some (.ref 10), some (vI x2), none], [vI 8, vI x2, .ref 32], hq sxB S, 63, 15151)) rfl ?_
      refine mv_goto 189 rfl rfl ?_
      exact F
theorem vc_Blocks_ini_189 {q : Nat × (Nat → Int32)} {S S' : ms} {r : Option Value} (x2 y0 y1 : Int)
    (F : (0 ≤ w32 y1 ∧ w32 y1 < (288 : Nat)) ∧ ∀ S2 : ms, S2 = wI S 32 (w32 y1) y0 → EW q sxB 63 15151 8 136 [some (.ref 30), some (.ref 10), some (vI (x2 + 1)), none] [] S2 r S') : EW q sxB 63 15151 8 189 [some (.ref 30), some (.ref 10), some (vI x2), none] [vI y0, vI y1, .ref 32] S r S' := by
  unfold EW
  obtain ⟨b1, F⟩ := F
  refine mw_ias rfl (sxB_f32) b1 ?_
  have F := F _ rfl
  refine mv_inc (lv' := [some (.ref 30), some (.ref 10), some (vI (x2 + 1)), none]) 2 1 rfl rfl rfl rfl ?_
  refine mv_goto 136 rfl rfl ?_
  exact F
theorem vc_Blocks_ini_208 {q : Nat × (Nat → Int32)} {S S' : ms} {r : Option Value} (x2 : Int)
    (F : ((32 ≤ w32 x2) → ∃ (S1 : ms), EW q sxB 0 0 10 0 [some (.ref 42), some (vI 32), none, none] [] S none S1 ∧ EW q sxB 63 15151 8 243 [some (.ref 30), some (.ref 10), some (vI 0), some (vI 3)] [] S1 r S') ∧ ((¬ 32 ≤ w32 x2) → (0 ≤ w32 x2 ∧ w32 x2 < (288 : Nat)) ∧ ∀ S4 : ms, S4 = wI S 43 (w32 x2) 5 → EW q sxB 63 15151 8 208 [some (.ref 30), some (.ref 10), some (vI (x2 + 1)), none] [] S4 r S')) : EW q sxB 63 15151 8 208 [some (.ref 30), some (.ref 10), some (vI x2), none] [] S r S' := by
  unfold EW
  refine ev_bk 2 (S' := (211, [some (.ref 30), some (.ref 10), some (vI x2), none], [vI 32, vI x2], hq sxB S, 63, 15151)) rfl ?_
  refine mv_icmp 230 rfl rfl (fun c => ?_) (fun c => ?_)
  · have F := F.1 c
    refine ev_bk 1 (S' := (231, [some (.ref 30), some (.ref 10), some (vI x2), none], [.ref 30], hq sxB S, 63, 15151)) rfl ?_
    refine mw_gfR rfl rfl (sxB_f30) (by decide) rfl ?_
    refine ev_bk 1 (S' := (236, [some (.ref 30), some (.ref 10), some (vI x2), none], [vI 32, .ref 42], hq sxB S, 63, 15151)) rfl ?_
    obtain ⟨S1, e2, F⟩ := F
    refine mw_calv (by decide) (as := [vI 32]) (rest := []) e2 (sxB_f42) rfl rfl rfl ⟨rfl, rfl⟩ rfl rfl rfl rfl rfl ?_
    refine ev_bk 4 (S' := (243, [some (.ref 30), some (.ref 10), some (vI 0), some (vI 3)], [], hq sxB S1, 63, 15151)) rfl ?_
    exact F
  · have F := F.2 c
    refine ev_bk 1 (S' := (215, [some (.ref 30), some (.ref 10), some (vI x2), none], [.ref 30], hq sxB S, 63, 15151)) rfl ?_
    refine mw_gfR rfl rfl (sxB_f30) (by decide) rfl ?_
    refine mw_gfR rfl rfl (sxB_f42) (by decide) rfl ?_
    refine ev_bk 2 (S' := (223, [some (.ref 30), some (.ref 10), some (vI x2), none], [vI 5, vI x2, .ref 43], hq sxB S, 63, 15151)) rfl ?_
    obtain ⟨b3, F⟩ := F
    refine mw_ias rfl (sxB_f43) b3 ?_
    have F := F _ rfl
    refine mv_inc (lv' := [some (.ref 30), some (.ref 10), some (vI (x2 + 1)), none]) 2 1 rfl rfl rfl rfl ?_
    refine mv_goto 208 rfl rfl ?_
    exact F
theorem vc_Blocks_ini_243 {q : Nat × (Nat → Int32)} {S S' : ms} {r : Option Value} (x2 x3 : Int)
    (F : ((258 < w32 x3) → r = none ∧ S' = S) ∧ ((¬ 258 < w32 x3) → ((29 ≤ w32 (x2 + 1)) → EW q sxB 63 15151 8 272 [some (.ref 30), some (.ref 10), some (vI x2), some (vI x3)] [] S r S') ∧ ((¬ 29 ≤ w32 (x2 + 1)) → (0 ≤ w32 (x2 + 1) ∧ w32 (x2 + 1) < (29 : Nat)) ∧ ((w32 x3 < w32 (sS 0 (w32 (x2 + 1)))) → EW q sxB 63 15151 8 272 [some (.ref 30), some (.ref 10), some (vI x2), some (vI x3)] [] S r S') ∧ ((¬ w32 x3 < w32 (sS 0 (w32 (x2 + 1)))) → EW q sxB 63 15151 8 272 [some (.ref 30), some (.ref 10), some (vI (x2 + 1)), some (vI x3)] [] S r S')))) : EW q sxB 63 15151 8 243 [some (.ref 30), some (.ref 10), some (vI x2), some (vI x3)] [] S r S' := by
  unfold EW
  refine ev_bk 2 (S' := (247, [some (.ref 30), some (.ref 10), some (vI x2), some (vI x3)], [vI 258, vI x3], hq sxB S, 63, 15151)) rfl ?_
  refine mv_icmp 314 rfl rfl (fun c => ?_) (fun c => ?_)
  · have F := F.1 c
    obtain ⟨rfl, rfl⟩ := F
    exact ev_ret rfl rfl
  · have F := F.2 c
    refine ev_bk 2 (S' := (252, [some (.ref 30), some (.ref 10), some (vI x2), some (vI x3)], [vI 1, vI x2], hq sxB S, 63, 15151)) rfl ?_
    refine mv_iadd rfl ?_
    refine ev_bk 1 (S' := (255, [some (.ref 30), some (.ref 10), some (vI x2), some (vI x3)], [vI 29, vI (x2 + 1)], hq sxB S, 63, 15151)) rfl ?_
    refine mv_icmp 272 rfl rfl (fun c => ?_) (fun c => ?_)
    · have F := F.1 c
      exact F
    · have F := F.2 c
      refine mv_gs (k := 0) rfl rfl ?_
      refine ev_bk 2 (S' := (263, [some (.ref 30), some (.ref 10), some (vI x2), some (vI x3)], [vI 1, vI x2, .ref (en_b + 0)], hq sxB S, 63, 15151)) rfl ?_
      refine mv_iadd rfl ?_
      obtain ⟨b1, F⟩ := F
      refine mw_sal (by decide) (k := 0) rfl rfl (by decide) b1 ?_
      refine ev_bk 1 (S' := (266, [some (.ref 30), some (.ref 10), some (vI x2), some (vI x3)], [vI x3, vI (sS 0 (w32 (x2 + 1)))], hq sxB S, 63, 15151)) rfl ?_
      refine mv_icmp 272 rfl rfl (fun c => ?_) (fun c => ?_)
      · have F := F.1 c
        exact F
      · have F := F.2 c
        refine mv_inc (lv' := [some (.ref 30), some (.ref 10), some (vI (x2 + 1)), some (vI x3)]) 2 1 rfl rfl rfl rfl ?_
        exact F
theorem vc_Blocks_ini_272 {q : Nat × (Nat → Int32)} {S S' : ms} {r : Option Value} (x2 x3 : Int)
    (F : (0 ≤ w32 x3 ∧ w32 x3 < (259 : Nat)) ∧ ∀ S2 : ms, S2 = wI S 92 (w32 x3) (257 + x2) → (0 ≤ w32 (257 + x2) ∧ w32 (257 + x2) < (288 : Nat)) ∧ (0 ≤ w32 x2 ∧ w32 x2 < (29 : Nat)) ∧ (0 ≤ w32 x3 ∧ w32 x3 < (259 : Nat)) ∧ ∀ S6 : ms, S6 = wI S2 93 (w32 x3) ((S2.1 32 (w32 (257 + x2))) + (sS 1 (w32 x2))) → EW q sxB 63 15151 8 243 [some (.ref 30), some (.ref 10), some (vI x2), some (vI (x3 + 1))] [] S6 r S') : EW q sxB 63 15151 8 272 [some (.ref 30), some (.ref 10), some (vI x2), some (vI x3)] [] S r S' := by
  unfold EW
  refine ev_bk 1 (S' := (273, [some (.ref 30), some (.ref 10), some (vI x2), some (vI x3)], [.ref 30], hq sxB S, 63, 15151)) rfl ?_
  refine mw_gfR rfl rfl (sxB_f30) (by decide) rfl ?_
  refine ev_bk 3 (S' := (281, [some (.ref 30), some (.ref 10), some (vI x2), some (vI x3)], [vI x2, vI 257, vI x3, .ref 92], hq sxB S, 63, 15151)) rfl ?_
  refine mv_iadd rfl ?_
  obtain ⟨b1, F⟩ := F
  refine mw_ias rfl (sxB_f92) b1 ?_
  have F := F _ rfl
  refine ev_bk 1 (S' := (284, [some (.ref 30), some (.ref 10), some (vI x2), some (vI x3)], [.ref 30], hq sxB (wI S 92 (w32 x3) (257 + x2)), 63, 15151)) rfl ?_
  refine mw_gfR rfl rfl (sxB_f30) (by decide) rfl ?_
  refine ev_bk 2 (S' := (289, [some (.ref 30), some (.ref 10), some (vI x2), some (vI x3)], [.ref 30, vI x3, .ref 93], hq sxB (wI S 92 (w32 x3) (257 + x2)), 63, 15151)) rfl ?_
  refine mw_gfR rfl rfl (sxB_f30) (by decide) rfl ?_
  refine mw_gfR rfl rfl (sxB_f31) (by decide) rfl ?_
  refine ev_bk 2 (S' := (299, [some (.ref 30), some (.ref 10), some (vI x2), some (vI x3)], [vI x2, vI 257, .ref 32, vI x3, .ref 93], hq sxB (wI S 92 (w32 x3) (257 + x2)), 63, 15151)) rfl ?_
  refine mv_iadd rfl ?_
  obtain ⟨b3, F⟩ := F
  refine mw_ial rfl (sxB_f32) b3 ?_
  refine mv_gs (k := 1) rfl rfl ?_
  refine ev_bk 1 (S' := (305, [some (.ref 30), some (.ref 10), some (vI x2), some (vI x3)], [vI x2, .ref (en_b + 1), vI ((wI S 92 (w32 x3) (257 + x2)).1 32 (w32 (257 + x2))), vI x3, .ref 93], hq sxB (wI S 92 (w32 x3) (257 + x2)), 63, 15151)) rfl ?_
  obtain ⟨b4, F⟩ := F
  refine mw_sal (by decide) (k := 1) rfl rfl (by decide) b4 ?_
  refine mv_iadd rfl ?_
  obtain ⟨b5, F⟩ := F
  refine mw_ias rfl (sxB_f93) b5 ?_
  have F := F _ rfl
  refine mv_inc (lv' := [some (.ref 30), some (.ref 10), some (vI x2), some (vI (x3 + 1))]) 3 1 rfl rfl rfl rfl ?_
  refine mv_goto 243 rfl rfl ?_
  exact F
theorem vc_Parts_ini_91 {q : Nat × (Nat → Int32)} {S S' : ms} {r : Option Value} (x1 x2 : Int)
    (F : ((255 ≤ w32 x2) → r = none ∧ S' = S) ∧ ((¬ 255 ≤ w32 x2) → (0 ≤ w32 x2 ∧ w32 x2 < (510 : Nat)) ∧ ∀ S2 : ms, S2 = wI S 182 (w32 x2) x1 → (0 ≤ w32 (x2 + 255) ∧ w32 (x2 + 255) < (510 : Nat)) ∧ ∀ S4 : ms, S4 = wI S2 182 (w32 (x2 + 255)) x1 → (0 ≤ w32 x1 ∧ w32 x1 < (256 : Nat)) ∧ ∀ S6 : ms, S6 = wI S4 183 (w32 x1) x2 → ((w32 (x1 * 2) ≤ 255) → EW q sxD 10 103486 14 140 [some (.ref 173), some (vI (x1 * 2)), some (vI x2)] [] S6 r S') ∧ ((¬ w32 (x1 * 2) ≤ 255) → EW q sxD 10 103486 14 140 [some (.ref 173), some (vI (bX (x1 * 2) 285)), some (vI x2)] [] S6 r S'))) : EW q sxD 10 103486 14 91 [some (.ref 173), some (vI x1), some (vI x2)] [] S r S' := by
  unfold EW
  refine ev_bk 2 (S' := (95, [some (.ref 173), some (vI x1), some (vI x2)], [vI 255, vI x2], hq sxD S, 10, 103486)) rfl ?_
  refine mv_icmp 146 rfl rfl (fun c => ?_) (fun c => ?_)
  · have F := F.1 c
    obtain ⟨rfl, rfl⟩ := F
    exact ev_ret rfl rfl
  · have F := F.2 c
    refine ev_bk 1 (S' := (99, [some (.ref 173), some (vI x1), some (vI x2)], [.ref 173], hq sxD S, 10, 103486)) rfl ?_
    refine mw_gfR rfl rfl (sxD_f173) (by decide) rfl ?_
    refine ev_bk 2 (S' := (104, [some (.ref 173), some (vI x1), some (vI x2)], [vI x1, vI x2, .ref 182], hq sxD S, 10, 103486)) rfl ?_
    obtain ⟨b1, F⟩ := F
    refine mw_ias rfl (sxD_f182) b1 ?_
    have F := F _ rfl
    refine ev_bk 1 (S' := (106, [some (.ref 173), some (vI x1), some (vI x2)], [.ref 173], hq sxD (wI S 182 (w32 x2) x1), 10, 103486)) rfl ?_
    refine mw_gfR rfl rfl (sxD_f173) (by decide) rfl ?_
    refine ev_bk 2 (S' := (113, [some (.ref 173), some (vI x1), some (vI x2)], [vI 255, vI x2, .ref 182], hq sxD (wI S 182 (w32 x2) x1), 10, 103486)) rfl ?_
    refine mv_iadd rfl ?_
    refine ev_bk 1 (S' := (115, [some (.ref 173), some (vI x1), some (vI x2)], [vI x1, vI (x2 + 255), .ref 182], hq sxD (wI S 182 (w32 x2) x1), 10, 103486)) rfl ?_
    obtain ⟨b3, F⟩ := F
    refine mw_ias rfl (sxD_f182) b3 ?_
    have F := F _ rfl
    refine ev_bk 1 (S' := (117, [some (.ref 173), some (vI x1), some (vI x2)], [.ref 173], hq sxD (wI (wI S 182 (w32 x2) x1) 182 (w32 (x2 + 255)) x1), 10, 103486)) rfl ?_
    refine mw_gfR rfl rfl (sxD_f173) (by decide) rfl ?_
    refine ev_bk 2 (S' := (122, [some (.ref 173), some (vI x1), some (vI x2)], [vI x2, vI x1, .ref 183], hq sxD (wI (wI S 182 (w32 x2) x1) 182 (w32 (x2 + 255)) x1), 10, 103486)) rfl ?_
    obtain ⟨b5, F⟩ := F
    refine mw_ias rfl (sxD_f183) b5 ?_
    have F := F _ rfl
    refine ev_bk 2 (S' := (125, [some (.ref 173), some (vI x1), some (vI x2)], [vI 1, vI x1], hq sxD (wI (wI (wI S 182 (w32 x2) x1) 182 (w32 (x2 + 255)) x1) 183 (w32 x1) x2), 10, 103486)) rfl ?_
    refine mv_ishl 2 rfl rfl ?_
    refine ev_bk 3 (S' := (131, [some (.ref 173), some (vI (x1 * 2)), some (vI x2)], [vI 255, vI (x1 * 2)], hq sxD (wI (wI (wI S 182 (w32 x2) x1) 182 (w32 (x2 + 255)) x1) 183 (w32 x1) x2), 10, 103486)) rfl ?_
    refine mv_icmp 140 rfl rfl (fun c => ?_) (fun c => ?_)
    · have F := F.1 c
      exact F
    · have F := F.2 c
      refine ev_bk 2 (S' := (138, [some (.ref 173), some (vI (x1 * 2)), some (vI x2)], [vI 285, vI (x1 * 2)], hq sxD (wI (wI (wI S 182 (w32 x2) x1) 182 (w32 (x2 + 255)) x1) 183 (w32 x1) x2), 10, 103486)) rfl ?_
      refine mv_ixor rfl ?_
      refine ev_bk 1 (S' := (140, [some (.ref 173), some (vI (bX (x1 * 2) 285)), some (vI x2)], [], hq sxD (wI (wI (wI S 182 (w32 x2) x1) 182 (w32 (x2 + 255)) x1) 183 (w32 x1) x2), 10, 103486)) rfl ?_
      exact F
theorem vc_Parts_ini_140 {q : Nat × (Nat → Int32)} {S S' : ms} {r : Option Value} (x1 x2 : Int)
    (F : EW q sxD 10 103486 14 91 [some (.ref 173), some (vI x1), some (vI (x2 + 1))] [] S r S') : EW q sxD 10 103486 14 140 [some (.ref 173), some (vI x1), some (vI x2)] [] S r S' := by
  unfold EW
  refine mv_inc (lv' := [some (.ref 173), some (vI x1), some (vI (x2 + 1))]) 2 1 rfl rfl rfl rfl ?_
  refine mv_goto 91 rfl rfl ?_
  exact F
def EVC (q : Nat × (Nat → Int32)) (cs ss j pc : Nat) (lv : en_L) (st : List Value) (S : ms) (r : Option Value) (S' : ms) : Prop := en_Ev pg_P (pg_tb q.1 q.2) pg_cr j (pc, lv, st, hp S, cs, ss) r (hp S')
theorem vc_MD_ini_739 {q : Nat × (Nat → Int32)} {S S' : ms} {r : Option Value} (x1 : Int)
    (F : ((256 ≤ w32 x1) → EVC q 85 801753 255 832 [some (.ref 367), some (vI 1), some (vI 0), none, none] [] S r S') ∧ ((¬ 256 ≤ w32 x1) → EVC q 85 801753 255 756 [some (.ref 367), some (vI x1), some (vI x1), some (vI (x1 * 16777216)), some (vI 0)] [] S r S')) : EVC q 85 801753 255 739 [some (.ref 367), some (vI x1), none, none, none] [] S r S' := by
  unfold EVC
  refine ev_bk 2 (S' := (743, [some (.ref 367), some (vI x1), none, none, none], [vI 256, vI x1], hp S, 85, 801753)) rfl ?_
  refine mv_icmp 828 rfl rfl (fun c => ?_) (fun c => ?_)
  · have F := F.1 c
    refine ev_bk 4 (S' := (832, [some (.ref 367), some (vI 1), some (vI 0), none, none], [], hp S, 85, 801753)) rfl ?_
    exact F
  · have F := F.2 c
    refine ev_bk 4 (S' := (751, [some (.ref 367), some (vI x1), some (vI x1), none, none], [vI 24, vI x1], hp S, 85, 801753)) rfl ?_
    refine mv_ishl 16777216 rfl rfl ?_
    refine ev_bk 3 (S' := (756, [some (.ref 367), some (vI x1), some (vI x1), some (vI (x1 * 16777216)), some (vI 0)], [], hp S, 85, 801753)) rfl ?_
    exact F
theorem vc_MD_ini_756 {q : Nat × (Nat → Int32)} {S S' : ms} {r : Option Value} (x1 x2 x3 x4 : Int)
    (F : ((8 ≤ w32 x4) → (0 ≤ w32 x1 ∧ w32 x1 < (256 : Nat)) ∧ ∀ S2 : ms, S2 = wI S 372 (w32 x1) x2 → (0 ≤ w32 x1 ∧ w32 x1 < (256 : Nat)) ∧ ∀ S4 : ms, S4 = wI S2 373 (w32 x1) x3 → EVC q 85 801753 255 739 [some (.ref 367), some (vI (x1 + 1)), none, none, none] [] S4 r S') ∧ ((¬ 8 ≤ w32 x4) → ((¬ w32 (x2 % 2) = 1) → EVC q 85 801753 255 783 [some (.ref 367), some (vI x1), some (vI x2), some (vI x3), some (vI x4)] [vI (x2 % 4294967296 / 2)] S r S') ∧ ((¬ (¬ w32 (x2 % 2) = 1)) → EVC q 85 801753 255 783 [some (.ref 367), some (vI x1), some (vI x2), some (vI x3), some (vI x4)] [vI (bX (x2 % 4294967296 / 2) ((-306674912)))] S r S'))) : EVC q 85 801753 255 756 [some (.ref 367), some (vI x1), some (vI x2), some (vI x3), some (vI x4)] [] S r S' := by
  unfold EVC
  refine ev_bk 2 (S' := (760, [some (.ref 367), some (vI x1), some (vI x2), some (vI x3), some (vI x4)], [vI 8, vI x4], hp S, 85, 801753)) rfl ?_
  refine mv_icmp 808 rfl rfl (fun c => ?_) (fun c => ?_)
  · have F := F.1 c
    refine ev_bk 1 (S' := (809, [some (.ref 367), some (vI x1), some (vI x2), some (vI x3), some (vI x4)], [.ref 367], hp S, 85, 801753)) rfl ?_
    refine mv_gfR rfl rfl (sh_367) (by decide) rfl ?_
    refine ev_bk 2 (S' := (814, [some (.ref 367), some (vI x1), some (vI x2), some (vI x3), some (vI x4)], [vI x2, vI x1, .ref 372], hp S, 85, 801753)) rfl ?_
    obtain ⟨b1, F⟩ := F
    refine mv_ias rfl (sh_372) b1 ?_
    have F := F _ rfl
    refine ev_bk 1 (S' := (816, [some (.ref 367), some (vI x1), some (vI x2), some (vI x3), some (vI x4)], [.ref 367], hp (wI S 372 (w32 x1) x2), 85, 801753)) rfl ?_
    refine mv_gfR rfl rfl (sh_367) (by decide) rfl ?_
    refine ev_bk 2 (S' := (821, [some (.ref 367), some (vI x1), some (vI x2), some (vI x3), some (vI x4)], [vI x3, vI x1, .ref 373], hp (wI S 372 (w32 x1) x2), 85, 801753)) rfl ?_
    obtain ⟨b3, F⟩ := F
    refine mv_ias rfl (sh_373) b3 ?_
    have F := F _ rfl
    refine mv_inc (lv' := [some (.ref 367), some (vI (x1 + 1)), some (vI x2), some (vI x3), some (vI x4)]) 1 1 rfl rfl rfl rfl ?_
    refine mv_goto 739 rfl rfl ?_
    exact ev_wk (le_s (le_s (le_n (le_n (le_n le_0))))) F
  · have F := F.2 c
    refine ev_bk 2 (S' := (765, [some (.ref 367), some (vI x1), some (vI x2), some (vI x3), some (vI x4)], [vI 1, vI x2], hp S, 85, 801753)) rfl ?_
    refine mv_iandm 2 1 (by decide) rfl rfl rfl ?_
    refine ev_bk 1 (S' := (767, [some (.ref 367), some (vI x1), some (vI x2), some (vI x3), some (vI x4)], [vI 1, vI (x2 % 2)], hp S, 85, 801753)) rfl ?_
    refine mv_icmp 780 rfl rfl (fun c => ?_) (fun c => ?_)
    · have F := F.1 c
      refine ev_bk 2 (S' := (782, [some (.ref 367), some (vI x1), some (vI x2), some (vI x3), some (vI x4)], [vI 1, vI x2], hp S, 85, 801753)) rfl ?_
      refine mv_iushr 2 rfl rfl ?_
      exact F
    · have F := F.2 c
      refine ev_bk 2 (S' := (772, [some (.ref 367), some (vI x1), some (vI x2), some (vI x3), some (vI x4)], [vI 1, vI x2], hp S, 85, 801753)) rfl ?_
      refine mv_iushr 2 rfl rfl ?_
      refine ev_bk 1 (S' := (776, [some (.ref 367), some (vI x1), some (vI x2), some (vI x3), some (vI x4)], [vI ((-306674912)), vI (x2 % 4294967296 / 2)], hp S, 85, 801753)) rfl ?_
      refine mv_ixor rfl ?_
      refine mv_goto 783 rfl rfl ?_
      exact F
theorem vc_MD_ini_783 {q : Nat × (Nat → Int32)} {S S' : ms} {r : Option Value} (x1 x2 x3 x4 y0 : Int)
    (F : ((0 ≤ w32 x3) → EVC q 85 801753 255 801 [some (.ref 367), some (vI x1), some (vI y0), some (vI x3), some (vI x4)] [vI (x3 * 2)] S r S') ∧ ((¬ 0 ≤ w32 x3) → EVC q 85 801753 255 801 [some (.ref 367), some (vI x1), some (vI y0), some (vI x3), some (vI x4)] [vI (bX (x3 * 2) 79764919)] S r S')) : EVC q 85 801753 255 783 [some (.ref 367), some (vI x1), some (vI x2), some (vI x3), some (vI x4)] [vI y0] S r S' := by
  unfold EVC
  refine ev_bk 2 (S' := (785, [some (.ref 367), some (vI x1), some (vI y0), some (vI x3), some (vI x4)], [vI x3], hp S, 85, 801753)) rfl ?_
  refine mv_if 798 rfl rfl (fun c => ?_) (fun c => ?_)
  · have F := F.1 c
    refine ev_bk 2 (S' := (800, [some (.ref 367), some (vI x1), some (vI y0), some (vI x3), some (vI x4)], [vI 1, vI x3], hp S, 85, 801753)) rfl ?_
    refine mv_ishl 2 rfl rfl ?_
    exact F
  · have F := F.2 c
    refine ev_bk 2 (S' := (790, [some (.ref 367), some (vI x1), some (vI y0), some (vI x3), some (vI x4)], [vI 1, vI x3], hp S, 85, 801753)) rfl ?_
    refine mv_ishl 2 rfl rfl ?_
    refine ev_bk 1 (S' := (794, [some (.ref 367), some (vI x1), some (vI y0), some (vI x3), some (vI x4)], [vI 79764919, vI (x3 * 2)], hp S, 85, 801753)) rfl ?_
    refine mv_ixor rfl ?_
    refine mv_goto 801 rfl rfl ?_
    exact F
theorem vc_MD_ini_801 {q : Nat × (Nat → Int32)} {S S' : ms} {r : Option Value} (x1 x2 x3 x4 y0 : Int)
    (F : EVC q 85 801753 255 756 [some (.ref 367), some (vI x1), some (vI x2), some (vI y0), some (vI (x4 + 1))] [] S r S') : EVC q 85 801753 255 801 [some (.ref 367), some (vI x1), some (vI x2), some (vI x3), some (vI x4)] [vI y0] S r S' := by
  unfold EVC
  refine ev_bk 1 (S' := (802, [some (.ref 367), some (vI x1), some (vI x2), some (vI y0), some (vI x4)], [], hp S, 85, 801753)) rfl ?_
  refine mv_inc (lv' := [some (.ref 367), some (vI x1), some (vI x2), some (vI y0), some (vI (x4 + 1))]) 4 1 rfl rfl rfl rfl ?_
  refine mv_goto 756 rfl rfl ?_
  exact F
theorem vc_MD_ini_832 {q : Nat × (Nat → Int32)} {S S' : ms} {r : Option Value} (x1 x2 : Int)
    (F : ((255 ≤ w32 x2) → r = none ∧ S' = S) ∧ ((¬ 255 ≤ w32 x2) → (0 ≤ w32 x2 ∧ w32 x2 < (510 : Nat)) ∧ ∀ S2 : ms, S2 = wI S 437 (w32 x2) x1 → (0 ≤ w32 (x2 + 255) ∧ w32 (x2 + 255) < (510 : Nat)) ∧ ∀ S4 : ms, S4 = wI S2 437 (w32 (x2 + 255)) x1 → (0 ≤ w32 x1 ∧ w32 x1 < (256 : Nat)) ∧ ∀ S6 : ms, S6 = wI S4 438 (w32 x1) x2 → ((w32 (bA x1 128) = 0) → EVC q 85 801753 255 882 [some (.ref 367), some (vI x1), some (vI x2), none, none] [vI 0, vI (x1 * 2)] S6 r S') ∧ ((¬ w32 (bA x1 128) = 0) → EVC q 85 801753 255 882 [some (.ref 367), some (vI x1), some (vI x2), none, none] [vI 285, vI (x1 * 2)] S6 r S'))) : EVC q 85 801753 255 832 [some (.ref 367), some (vI x1), some (vI x2), none, none] [] S r S' := by
  unfold EVC
  refine ev_bk 2 (S' := (836, [some (.ref 367), some (vI x1), some (vI x2), none, none], [vI 255, vI x2], hp S, 85, 801753)) rfl ?_
  refine mv_icmp 890 rfl rfl (fun c => ?_) (fun c => ?_)
  · have F := F.1 c
    obtain ⟨rfl, rfl⟩ := F
    exact ev_ret rfl rfl
  · have F := F.2 c
    refine ev_bk 1 (S' := (840, [some (.ref 367), some (vI x1), some (vI x2), none, none], [.ref 367], hp S, 85, 801753)) rfl ?_
    refine mv_gfR rfl rfl (sh_367) (by decide) rfl ?_
    refine ev_bk 2 (S' := (845, [some (.ref 367), some (vI x1), some (vI x2), none, none], [vI x1, vI x2, .ref 437], hp S, 85, 801753)) rfl ?_
    obtain ⟨b1, F⟩ := F
    refine mv_ias rfl (sh_437) b1 ?_
    have F := F _ rfl
    refine ev_bk 1 (S' := (847, [some (.ref 367), some (vI x1), some (vI x2), none, none], [.ref 367], hp (wI S 437 (w32 x2) x1), 85, 801753)) rfl ?_
    refine mv_gfR rfl rfl (sh_367) (by decide) rfl ?_
    refine ev_bk 2 (S' := (854, [some (.ref 367), some (vI x1), some (vI x2), none, none], [vI 255, vI x2, .ref 437], hp (wI S 437 (w32 x2) x1), 85, 801753)) rfl ?_
    refine mv_iadd rfl ?_
    refine ev_bk 1 (S' := (856, [some (.ref 367), some (vI x1), some (vI x2), none, none], [vI x1, vI (x2 + 255), .ref 437], hp (wI S 437 (w32 x2) x1), 85, 801753)) rfl ?_
    obtain ⟨b3, F⟩ := F
    refine mv_ias rfl (sh_437) b3 ?_
    have F := F _ rfl
    refine ev_bk 1 (S' := (858, [some (.ref 367), some (vI x1), some (vI x2), none, none], [.ref 367], hp (wI (wI S 437 (w32 x2) x1) 437 (w32 (x2 + 255)) x1), 85, 801753)) rfl ?_
    refine mv_gfR rfl rfl (sh_367) (by decide) rfl ?_
    refine ev_bk 2 (S' := (863, [some (.ref 367), some (vI x1), some (vI x2), none, none], [vI x2, vI x1, .ref 438], hp (wI (wI S 437 (w32 x2) x1) 437 (w32 (x2 + 255)) x1), 85, 801753)) rfl ?_
    obtain ⟨b5, F⟩ := F
    refine mv_ias rfl (sh_438) b5 ?_
    have F := F _ rfl
    refine ev_bk 2 (S' := (866, [some (.ref 367), some (vI x1), some (vI x2), none, none], [vI 1, vI x1], hp (wI (wI (wI S 437 (w32 x2) x1) 437 (w32 (x2 + 255)) x1) 438 (w32 x1) x2), 85, 801753)) rfl ?_
    refine mv_ishl 2 rfl rfl ?_
    refine ev_bk 2 (S' := (871, [some (.ref 367), some (vI x1), some (vI x2), none, none], [vI 128, vI x1, vI (x1 * 2)], hp (wI (wI (wI S 437 (w32 x2) x1) 437 (w32 (x2 + 255)) x1) 438 (w32 x1) x2), 85, 801753)) rfl ?_
    refine mv_iand rfl ?_
    refine mv_if 881 rfl rfl (fun c => ?_) (fun c => ?_)
    · have F := F.1 c
      refine ev_bk 1 (S' := (882, [some (.ref 367), some (vI x1), some (vI x2), none, none], [vI 0, vI (x1 * 2)], hp (wI (wI (wI S 437 (w32 x2) x1) 437 (w32 (x2 + 255)) x1) 438 (w32 x1) x2), 85, 801753)) rfl ?_
      exact F
    · have F := F.2 c
      refine ev_bk 1 (S' := (878, [some (.ref 367), some (vI x1), some (vI x2), none, none], [vI 285, vI (x1 * 2)], hp (wI (wI (wI S 437 (w32 x2) x1) 437 (w32 (x2 + 255)) x1) 438 (w32 x1) x2), 85, 801753)) rfl ?_
      refine mv_goto 882 rfl rfl ?_
      exact F
theorem vc_MD_ini_882 {q : Nat × (Nat → Int32)} {S S' : ms} {r : Option Value} (x1 x2 y0 y1 : Int)
    (F : EVC q 85 801753 255 832 [some (.ref 367), some (vI (bX y1 y0)), some (vI (x2 + 1)), none, none] [] S r S') : EVC q 85 801753 255 882 [some (.ref 367), some (vI x1), some (vI x2), none, none] [vI y0, vI y1] S r S' := by
  unfold EVC
  refine mv_ixor rfl ?_
  refine ev_bk 1 (S' := (884, [some (.ref 367), some (vI (bX y1 y0)), some (vI x2), none, none], [], hp S, 85, 801753)) rfl ?_
  refine mv_inc (lv' := [some (.ref 367), some (vI (bX y1 y0)), some (vI (x2 + 1)), none, none]) 2 1 rfl rfl rfl rfl ?_
  refine mv_goto 832 rfl rfl ?_
  exact F
