/-! what is to be shown of each method, by program (wip/gen/vcall.py) -/
theorem vc_MD_store {q : Nat × (Nat → Int32)} {S S' : ms} {r : Option Value} (x1 : Int)
    (F : ∀ S1 : ms, S1 = wI S 367 0 0 → ((¬ w32 x1 = 0) → ((¬ w32 x1 = 1) → ((¬ w32 x1 = 2) → r = some (vI ((-2))) ∧ S' = S1) ∧ ((¬ (¬ w32 x1 = 2)) → r = some (vI (S1.1 367 129)) ∧ S' = S1)) ∧ ((¬ (¬ w32 x1 = 1)) → r = some (vI (S1.1 367 124)) ∧ S' = S1)) ∧ ((¬ (¬ w32 x1 = 0)) → r = some (vI (S1.1 367 123)) ∧ S' = S1)) : EV q 238 0 [some (.ref 367), some (vI x1)] [] S r S' := by
  unfold EV
  refine ev_bk 2 (S' := (2, [some (.ref 367), some (vI x1)], [vI 0, .ref 367], hp S, 0, 0)) rfl ?_
  refine mv_pfI rfl rfl (sh_367) (by decide) rfl rfl ?_
  have F := F _ rfl
  refine ev_bk 1 (S' := (6, [some (.ref 367), some (vI x1)], [vI x1], hp (wI S 367 0 0), 0, 0)) rfl ?_
  refine mv_if 16 rfl rfl (fun c => ?_) (fun c => ?_)
  · have F := F.1 c
    refine ev_bk 2 (S' := (18, [some (.ref 367), some (vI x1)], [vI 1, vI x1], hp (wI S 367 0 0), 0, 0)) rfl ?_
    refine mv_icmp 28 rfl rfl (fun c => ?_) (fun c => ?_)
    · have F := F.1 c
      refine ev_bk 2 (S' := (30, [some (.ref 367), some (vI x1)], [vI 2, vI x1], hp (wI S 367 0 0), 0, 0)) rfl ?_
      refine mv_icmp 40 rfl rfl (fun c => ?_) (fun c => ?_)
      · have F := F.1 c
        refine ev_bk 1 (S' := (42, [some (.ref 367), some (vI x1)], [vI ((-2))], hp (wI S 367 0 0), 0, 0)) rfl ?_
        obtain ⟨rfl, rfl⟩ := F
        exact ev_ret rfl rfl
      · have F := F.2 c
        refine ev_bk 1 (S' := (34, [some (.ref 367), some (vI x1)], [.ref 367], hp (wI S 367 0 0), 0, 0)) rfl ?_
        refine mv_gfI rfl rfl (sh_367) (by decide) rfl ?_
        refine mv_goto 42 rfl rfl ?_
        obtain ⟨rfl, rfl⟩ := F
        exact ev_ret rfl rfl
    · have F := F.2 c
      refine ev_bk 1 (S' := (22, [some (.ref 367), some (vI x1)], [.ref 367], hp (wI S 367 0 0), 0, 0)) rfl ?_
      refine mv_gfI rfl rfl (sh_367) (by decide) rfl ?_
      refine mv_goto 42 rfl rfl ?_
      obtain ⟨rfl, rfl⟩ := F
      exact ev_ret rfl rfl
  · have F := F.2 c
    refine ev_bk 1 (S' := (10, [some (.ref 367), some (vI x1)], [.ref 367], hp (wI S 367 0 0), 0, 0)) rfl ?_
    refine mv_gfI rfl rfl (sh_367) (by decide) rfl ?_
    refine mv_goto 42 rfl rfl ?_
    obtain ⟨rfl, rfl⟩ := F
    exact ev_ret rfl rfl
theorem vc_MD_feed {q : Nat × (Nat → Int32)} {S S' : ms} {r : Option Value} (x1 x3 : Int)
    (F : ∀ S1 : ms, S1 = wI S 367 0 0 → ∃ (z4 : Int) (S2 : ms), EV q 257 0 [some (vI x3), some (vI 1), some (vI 8)] [] S1 (some (vI z4)) S2 ∧ ((¬ w32 z4 = 0) → ((w32 (S2.1 367 2 + x3) ≤ 6000) → EV q 256 38 [some (.ref 367), some (vL x1), none, some (vI x3), some (vI (x3 - 1))] [] S2 r S') ∧ ((¬ w32 (S2.1 367 2 + x3) ≤ 6000) → r = some (vI ((-4))) ∧ S' = S2)) ∧ ((¬ (¬ w32 z4 = 0)) → r = some (vI ((-2))) ∧ S' = S2)) : EV q 256 0 [some (.ref 367), some (vL x1), none, some (vI x3), none] [] S r S' := by
  unfold EV
  refine ev_bk 2 (S' := (2, [some (.ref 367), some (vL x1), none, some (vI x3), none], [vI 0, .ref 367], hp S, 0, 0)) rfl ?_
  refine mv_pfI rfl rfl (sh_367) (by decide) rfl rfl ?_
  have F := F _ rfl
  refine ev_bk 3 (S' := (9, [some (.ref 367), some (vL x1), none, some (vI x3), none], [vI 8, vI 1, vI x3], hp (wI S 367 0 0), 0, 0)) rfl ?_
  obtain ⟨z4, S2, e3, F⟩ := F
  refine mv_cals (as := [vI x3, vI 1, vI 8]) (rest := []) e3 rfl rfl rfl ⟨rfl, rfl, rfl⟩ rfl rfl rfl rfl ?_
  refine mv_if 18 rfl rfl (fun c => ?_) (fun c => ?_)
  · have F := F.1 c
    refine ev_bk 1 (S' := (19, [some (.ref 367), some (vL x1), none, some (vI x3), none], [.ref 367], hp S2, 0, 0)) rfl ?_
    refine mv_gfI rfl rfl (sh_367) (by decide) rfl ?_
    refine ev_bk 1 (S' := (23, [some (.ref 367), some (vL x1), none, some (vI x3), none], [vI x3, vI (S2.1 367 2)], hp S2, 0, 0)) rfl ?_
    refine mv_iadd rfl ?_
    refine ev_bk 1 (S' := (27, [some (.ref 367), some (vL x1), none, some (vI x3), none], [vI 6000, vI (S2.1 367 2 + x3)], hp S2, 0, 0)) rfl ?_
    refine mv_icmp 33 rfl rfl (fun c => ?_) (fun c => ?_)
    · have F := F.1 c
      refine ev_bk 2 (S' := (35, [some (.ref 367), some (vL x1), none, some (vI x3), none], [vI 1, vI x3], hp S2, 0, 0)) rfl ?_
      refine mv_isub rfl ?_
      refine ev_bk 1 (S' := (38, [some (.ref 367), some (vL x1), none, some (vI x3), some (vI (x3 - 1))], [], hp S2, 0, 0)) rfl ?_
      exact F
    · have F := F.2 c
      refine ev_bk 1 (S' := (32, [some (.ref 367), some (vL x1), none, some (vI x3), none], [vI ((-4))], hp S2, 0, 0)) rfl ?_
      obtain ⟨rfl, rfl⟩ := F
      exact ev_ret rfl rfl
  · have F := F.2 c
    refine ev_bk 1 (S' := (17, [some (.ref 367), some (vL x1), none, some (vI x3), none], [vI ((-2))], hp S2, 0, 0)) rfl ?_
    obtain ⟨rfl, rfl⟩ := F
    exact ev_ret rfl rfl
theorem vc_MD_feed_38 {q : Nat × (Nat → Int32)} {S S' : ms} {r : Option Value} (x1 x3 x4 : Int)
    (F : ((w32 x4 < 0) → r = some (vI (S.1 367 2)) ∧ S' = S) ∧ ((¬ w32 x4 < 0) → (0 ≤ w32 (S.1 367 2) ∧ w32 (S.1 367 2) < (6000 : Nat)) ∧ ∀ S2 : ms, S2 = wI S 368 (w32 (S.1 367 2)) (b8 (b8 (w64 x1 / ((2 : Int) ^ ((8 * x4) % 64).toNat)))) → ∀ S3 : ms, S3 = wI S2 367 2 (S2.1 367 2 + 1) → EV q 256 38 [some (.ref 367), some (vL x1), none, some (vI x3), some (vI (x4 - 1))] [] S3 r S')) : EV q 256 38 [some (.ref 367), some (vL x1), none, some (vI x3), some (vI x4)] [] S r S' := by
  unfold EV
  refine ev_bk 1 (S' := (40, [some (.ref 367), some (vL x1), none, some (vI x3), some (vI x4)], [vI x4], hp S, 0, 0)) rfl ?_
  refine mv_if 77 rfl rfl (fun c => ?_) (fun c => ?_)
  · have F := F.1 c
    refine ev_bk 1 (S' := (78, [some (.ref 367), some (vL x1), none, some (vI x3), some (vI x4)], [.ref 367], hp S, 0, 0)) rfl ?_
    refine mv_gfI rfl rfl (sh_367) (by decide) rfl ?_
    obtain ⟨rfl, rfl⟩ := F
    exact ev_ret rfl rfl
  · have F := F.2 c
    refine ev_bk 1 (S' := (44, [some (.ref 367), some (vL x1), none, some (vI x3), some (vI x4)], [.ref 367], hp S, 0, 0)) rfl ?_
    refine mv_gfR rfl rfl (sh_367) (by decide) rfl ?_
    refine ev_bk 1 (S' := (48, [some (.ref 367), some (vL x1), none, some (vI x3), some (vI x4)], [.ref 367, .ref 368], hp S, 0, 0)) rfl ?_
    refine mv_gfI rfl rfl (sh_367) (by decide) rfl ?_
    refine ev_bk 3 (S' := (56, [some (.ref 367), some (vL x1), none, some (vI x3), some (vI x4)], [vI x4, vI 8, vL x1, vI (S.1 367 2), .ref 368], hp S, 0, 0)) rfl ?_
    refine mv_imul rfl ?_
    refine mv_lshr ((2 : Int) ^ ((8 * x4) % 64).toNat) rfl rfl ?_
    refine mv_l2i rfl ?_
    refine mv_i2b rfl ?_
    obtain ⟨b1, F⟩ := F
    refine mv_bas rfl (sh_368) b1 ?_
    have F := F _ rfl
    refine ev_bk 2 (S' := (63, [some (.ref 367), some (vL x1), none, some (vI x3), some (vI x4)], [.ref 367, .ref 367], hp (wI S 368 (w32 (S.1 367 2)) (b8 (b8 (w64 x1 / ((2 : Int) ^ ((8 * x4) % 64).toNat))))), 0, 0)) rfl ?_
    refine mv_gfI rfl rfl (sh_367) (by decide) rfl ?_
    refine ev_bk 1 (S' := (67, [some (.ref 367), some (vL x1), none, some (vI x3), some (vI x4)], [vI 1, vI ((wI S 368 (w32 (S.1 367 2)) (b8 (b8 (w64 x1 / ((2 : Int) ^ ((8 * x4) % 64).toNat))))).1 367 2), .ref 367], hp (wI S 368 (w32 (S.1 367 2)) (b8 (b8 (w64 x1 / ((2 : Int) ^ ((8 * x4) % 64).toNat))))), 0, 0)) rfl ?_
    refine mv_iadd rfl ?_
    refine mv_pfI rfl rfl (sh_367) (by decide) rfl rfl ?_
    have F := F _ rfl
    refine mv_inc (lv' := [some (.ref 367), some (vL x1), none, some (vI x3), some (vI (x4 - 1))]) 4 (-1) rfl rfl rfl (by omega) ?_
    refine mv_goto 38 rfl rfl ?_
    exact F
theorem vc_MD_in {q : Nat × (Nat → Int32)} {S S' : ms} {r : Option Value} (x0 x1 x2 : Int)
    (F : ((w32 x0 < w32 x1) → r = some (vI 0) ∧ S' = S) ∧ ((¬ w32 x0 < w32 x1) → ((w32 x2 < w32 x0) → r = some (vI 0) ∧ S' = S) ∧ ((¬ w32 x2 < w32 x0) → r = some (vI 1) ∧ S' = S))) : EV q 257 0 [some (vI x0), some (vI x1), some (vI x2)] [] S r S' := by
  unfold EV
  refine ev_bk 2 (S' := (2, [some (vI x0), some (vI x1), some (vI x2)], [vI x1, vI x0], hp S, 0, 0)) rfl ?_
  refine mv_icmp 14 rfl rfl (fun c => ?_) (fun c => ?_)
  · have F := F.1 c
    refine ev_bk 1 (S' := (15, [some (vI x0), some (vI x1), some (vI x2)], [vI 0], hp S, 0, 0)) rfl ?_
    obtain ⟨rfl, rfl⟩ := F
    exact ev_ret rfl rfl
  · have F := F.2 c
    refine ev_bk 2 (S' := (7, [some (vI x0), some (vI x1), some (vI x2)], [vI x2, vI x0], hp S, 0, 0)) rfl ?_
    refine mv_icmp 14 rfl rfl (fun c => ?_) (fun c => ?_)
    · have F := F.1 c
      refine ev_bk 1 (S' := (15, [some (vI x0), some (vI x1), some (vI x2)], [vI 0], hp S, 0, 0)) rfl ?_
      obtain ⟨rfl, rfl⟩ := F
      exact ev_ret rfl rfl
    · have F := F.2 c
      refine ev_bk 1 (S' := (11, [some (vI x0), some (vI x1), some (vI x2)], [vI 1], hp S, 0, 0)) rfl ?_
      refine mv_goto 15 rfl rfl ?_
      obtain ⟨rfl, rfl⟩ := F
      exact ev_ret rfl rfl
theorem vc_MD_fill {q : Nat × (Nat → Int32)} {S S' : ms} {r : Option Value} (x1 x2 x3 : Int)
    (F : ∀ S1 : ms, S1 = wI S 367 0 0 → ∃ (z4 : Int) (S2 : ms), EV q 257 0 [some (vI x1), some (vI 0), some (vI 3)] [] S1 (some (vI z4)) S2 ∧ ((w32 z4 = 0) → r = some (vI ((-2))) ∧ S' = S2) ∧ ((¬ w32 z4 = 0) → ((0 ≤ w32 x2) → ((w32 x2 ≤ w32 (6000 - (S2.1 367 2))) → EV q 258 42 [some (.ref 367), some (vI x1), some (vI x2), some (vI x3), some (vI x3), some (vI 0), none, none] [] S2 r S') ∧ ((¬ w32 x2 ≤ w32 (6000 - (S2.1 367 2))) → r = some (vI ((-4))) ∧ S' = S2)) ∧ ((¬ 0 ≤ w32 x2) → r = some (vI ((-2))) ∧ S' = S2))) : EV q 258 0 [some (.ref 367), some (vI x1), some (vI x2), some (vI x3), none, none, none, none] [] S r S' := by
  unfold EV
  refine ev_bk 2 (S' := (2, [some (.ref 367), some (vI x1), some (vI x2), some (vI x3), none, none, none, none], [vI 0, .ref 367], hp S, 0, 0)) rfl ?_
  refine mv_pfI rfl rfl (sh_367) (by decide) rfl rfl ?_
  have F := F _ rfl
  refine ev_bk 3 (S' := (8, [some (.ref 367), some (vI x1), some (vI x2), some (vI x3), none, none, none, none], [vI 3, vI 0, vI x1], hp (wI S 367 0 0), 0, 0)) rfl ?_
  obtain ⟨z4, S2, e3, F⟩ := F
  refine mv_cals (as := [vI x1, vI 0, vI 3]) (rest := []) e3 rfl rfl rfl ⟨rfl, rfl, rfl⟩ rfl rfl rfl rfl ?_
  refine mv_if 18 rfl rfl (fun c => ?_) (fun c => ?_)
  · have F := F.1 c
    refine ev_bk 1 (S' := (20, [some (.ref 367), some (vI x1), some (vI x2), some (vI x3), none, none, none, none], [vI ((-2))], hp S2, 0, 0)) rfl ?_
    obtain ⟨rfl, rfl⟩ := F
    exact ev_ret rfl rfl
  · have F := F.2 c
    refine ev_bk 1 (S' := (15, [some (.ref 367), some (vI x1), some (vI x2), some (vI x3), none, none, none, none], [vI x2], hp S2, 0, 0)) rfl ?_
    refine mv_if 21 rfl rfl (fun c => ?_) (fun c => ?_)
    · have F := F.1 c
      refine ev_bk 3 (S' := (26, [some (.ref 367), some (vI x1), some (vI x2), some (vI x3), none, none, none, none], [.ref 367, vI 6000, vI x2], hp S2, 0, 0)) rfl ?_
      refine mv_gfI rfl rfl (sh_367) (by decide) rfl ?_
      refine mv_isub rfl ?_
      refine mv_icmp 36 rfl rfl (fun c => ?_) (fun c => ?_)
      · have F := F.1 c
        refine ev_bk 4 (S' := (42, [some (.ref 367), some (vI x1), some (vI x2), some (vI x3), some (vI x3), some (vI 0), none, none], [], hp S2, 0, 0)) rfl ?_
        exact F
      · have F := F.2 c
        refine ev_bk 1 (S' := (35, [some (.ref 367), some (vI x1), some (vI x2), some (vI x3), none, none, none, none], [vI ((-4))], hp S2, 0, 0)) rfl ?_
        obtain ⟨rfl, rfl⟩ := F
        exact ev_ret rfl rfl
    · have F := F.2 c
      refine ev_bk 1 (S' := (20, [some (.ref 367), some (vI x1), some (vI x2), some (vI x3), none, none, none, none], [vI ((-2))], hp S2, 0, 0)) rfl ?_
      obtain ⟨rfl, rfl⟩ := F
      exact ev_ret rfl rfl
theorem vc_MD_fill_42 {q : Nat × (Nat → Int32)} {S S' : ms} {r : Option Value} (x1 x2 x3 x4 x5 : Int)
    (F : ((w32 x2 ≤ w32 x5) → r = some (vI (S.1 367 2)) ∧ S' = S) ∧ ((¬ w32 x2 ≤ w32 x5) → ((¬ w32 x1 = 1) → EV q 258 84 [some (.ref 367), some (vI x1), some (vI x2), some (vI x3), some (vI ((x4 * 1664525) + 1013904223)), some (vI x5), some (vI (((x4 * 1664525) + 1013904223) % 4294967296 / 16777216)), none] [vI (((x4 * 1664525) + 1013904223) % 4294967296 / 16777216)] S r S') ∧ ((¬ (¬ w32 x1 = 1)) → EV q 258 84 [some (.ref 367), some (vI x1), some (vI x2), some (vI x3), some (vI ((x4 * 1664525) + 1013904223)), some (vI x5), some (vI (((x4 * 1664525) + 1013904223) % 4294967296 / 16777216)), none] [vI (97 + (Int.tmod (w32 (((x4 * 1664525) + 1013904223) % 4294967296 / 16777216)) (w32 4)))] S r S'))) : EV q 258 42 [some (.ref 367), some (vI x1), some (vI x2), some (vI x3), some (vI x4), some (vI x5), none, none] [] S r S' := by
  unfold EV
  refine ev_bk 2 (S' := (45, [some (.ref 367), some (vI x1), some (vI x2), some (vI x3), some (vI x4), some (vI x5), none, none], [vI x2, vI x5], hp S, 0, 0)) rfl ?_
  refine mv_icmp 184 rfl rfl (fun c => ?_) (fun c => ?_)
  · have F := F.1 c
    refine ev_bk 1 (S' := (185, [some (.ref 367), some (vI x1), some (vI x2), some (vI x3), some (vI x4), some (vI x5), none, none], [.ref 367], hp S, 0, 0)) rfl ?_
    refine mv_gfI rfl rfl (sh_367) (by decide) rfl ?_
    obtain ⟨rfl, rfl⟩ := F
    exact ev_ret rfl rfl
  · have F := F.2 c
    refine ev_bk 2 (S' := (53, [some (.ref 367), some (vI x1), some (vI x2), some (vI x3), some (vI x4), some (vI x5), none, none], [vI 1664525, vI x4], hp S, 0, 0)) rfl ?_
    refine mv_imul rfl ?_
    refine ev_bk 1 (S' := (57, [some (.ref 367), some (vI x1), some (vI x2), some (vI x3), some (vI x4), some (vI x5), none, none], [vI 1013904223, vI (x4 * 1664525)], hp S, 0, 0)) rfl ?_
    refine mv_iadd rfl ?_
    refine ev_bk 3 (S' := (64, [some (.ref 367), some (vI x1), some (vI x2), some (vI x3), some (vI ((x4 * 1664525) + 1013904223)), some (vI x5), none, none], [vI 24, vI ((x4 * 1664525) + 1013904223)], hp S, 0, 0)) rfl ?_
    refine mv_iushr 16777216 rfl rfl ?_
    refine ev_bk 3 (S' := (69, [some (.ref 367), some (vI x1), some (vI x2), some (vI x3), some (vI ((x4 * 1664525) + 1013904223)), some (vI x5), some (vI (((x4 * 1664525) + 1013904223) % 4294967296 / 16777216)), none], [vI 1, vI x1], hp S, 0, 0)) rfl ?_
    refine mv_icmp 82 rfl rfl (fun c => ?_) (fun c => ?_)
    · have F := F.1 c
      refine ev_bk 1 (S' := (84, [some (.ref 367), some (vI x1), some (vI x2), some (vI x3), some (vI ((x4 * 1664525) + 1013904223)), some (vI x5), some (vI (((x4 * 1664525) + 1013904223) % 4294967296 / 16777216)), none], [vI (((x4 * 1664525) + 1013904223) % 4294967296 / 16777216)], hp S, 0, 0)) rfl ?_
      exact F
    · have F := F.2 c
      refine ev_bk 3 (S' := (77, [some (.ref 367), some (vI x1), some (vI x2), some (vI x3), some (vI ((x4 * 1664525) + 1013904223)), some (vI x5), some (vI (((x4 * 1664525) + 1013904223) % 4294967296 / 16777216)), none], [vI 4, vI (((x4 * 1664525) + 1013904223) % 4294967296 / 16777216), vI 97], hp S, 0, 0)) rfl ?_
      refine mv_irem (by decide) rfl ?_
      refine mv_iadd rfl ?_
      refine mv_goto 84 rfl rfl ?_
      exact F
theorem vc_MD_fill_84 {q : Nat × (Nat → Int32)} {S S' : ms} {r : Option Value} (x1 x2 x3 x4 x5 x6 y0 : Int)
    (F : ((¬ w32 x1 = 2) → EV q 258 122 [some (.ref 367), some (vI x1), some (vI x2), some (vI x3), some (vI x4), some (vI x5), some (vI x6), some (vI y0)] [] S r S') ∧ ((¬ (¬ w32 x1 = 2)) → ((w32 (S.1 367 2) < 17) → EV q 258 122 [some (.ref 367), some (vI x1), some (vI x2), some (vI x3), some (vI x4), some (vI x5), some (vI x6), some (vI y0)] [] S r S') ∧ ((¬ w32 (S.1 367 2) < 17) → ((240 ≤ w32 x6) → EV q 258 122 [some (.ref 367), some (vI x1), some (vI x2), some (vI x3), some (vI x4), some (vI x5), some (vI x6), some (vI y0)] [] S r S') ∧ ((¬ 240 ≤ w32 x6) → (0 ≤ w32 ((S.1 367 2) - 17) ∧ w32 ((S.1 367 2) - 17) < (6000 : Nat)) ∧ EV q 258 122 [some (.ref 367), some (vI x1), some (vI x2), some (vI x3), some (vI x4), some (vI x5), some (vI x6), some (vI (S.1 368 (w32 ((S.1 367 2) - 17))))] [] S r S')))) : EV q 258 84 [some (.ref 367), some (vI x1), some (vI x2), some (vI x3), some (vI x4), some (vI x5), some (vI x6), none] [vI y0] S r S' := by
  unfold EV
  refine ev_bk 3 (S' := (88, [some (.ref 367), some (vI x1), some (vI x2), some (vI x3), some (vI x4), some (vI x5), some (vI x6), some (vI y0)], [vI 2, vI x1], hp S, 0, 0)) rfl ?_
  refine mv_icmp 122 rfl rfl (fun c => ?_) (fun c => ?_)
  · have F := F.1 c
    exact F
  · have F := F.2 c
    refine ev_bk 1 (S' := (92, [some (.ref 367), some (vI x1), some (vI x2), some (vI x3), some (vI x4), some (vI x5), some (vI x6), some (vI y0)], [.ref 367], hp S, 0, 0)) rfl ?_
    refine mv_gfI rfl rfl (sh_367) (by decide) rfl ?_
    refine ev_bk 1 (S' := (97, [some (.ref 367), some (vI x1), some (vI x2), some (vI x3), some (vI x4), some (vI x5), some (vI x6), some (vI y0)], [vI 17, vI (S.1 367 2)], hp S, 0, 0)) rfl ?_
    refine mv_icmp 122 rfl rfl (fun c => ?_) (fun c => ?_)
    · have F := F.1 c
      exact F
    · have F := F.2 c
      refine ev_bk 2 (S' := (105, [some (.ref 367), some (vI x1), some (vI x2), some (vI x3), some (vI x4), some (vI x5), some (vI x6), some (vI y0)], [vI 240, vI x6], hp S, 0, 0)) rfl ?_
      refine mv_icmp 122 rfl rfl (fun c => ?_) (fun c => ?_)
      · have F := F.1 c
        exact F
      · have F := F.2 c
        refine ev_bk 1 (S' := (109, [some (.ref 367), some (vI x1), some (vI x2), some (vI x3), some (vI x4), some (vI x5), some (vI x6), some (vI y0)], [.ref 367], hp S, 0, 0)) rfl ?_
        refine mv_gfR rfl rfl (sh_367) (by decide) rfl ?_
        refine ev_bk 1 (S' := (113, [some (.ref 367), some (vI x1), some (vI x2), some (vI x3), some (vI x4), some (vI x5), some (vI x6), some (vI y0)], [.ref 367, .ref 368], hp S, 0, 0)) rfl ?_
        refine mv_gfI rfl rfl (sh_367) (by decide) rfl ?_
        refine ev_bk 1 (S' := (118, [some (.ref 367), some (vI x1), some (vI x2), some (vI x3), some (vI x4), some (vI x5), some (vI x6), some (vI y0)], [vI 17, vI (S.1 367 2), .ref 368], hp S, 0, 0)) rfl ?_
        refine mv_isub rfl ?_
        obtain ⟨b1, F⟩ := F
        refine mv_bal rfl (sh_368) b1 ?_
        refine ev_bk 1 (S' := (122, [some (.ref 367), some (vI x1), some (vI x2), some (vI x3), some (vI x4), some (vI x5), some (vI x6), some (vI (S.1 368 (w32 ((S.1 367 2) - 17))))], [], hp S, 0, 0)) rfl ?_
        exact F
theorem vc_MD_fill_122 {q : Nat × (Nat → Int32)} {S S' : ms} {r : Option Value} (x1 x2 x3 x4 x5 x6 x7 : Int)
    (F : ((¬ w32 x1 = 3) → EV q 258 156 [some (.ref 367), some (vI x1), some (vI x2), some (vI x3), some (vI x4), some (vI x5), some (vI x6), some (vI x7)] [] S r S') ∧ ((¬ (¬ w32 x1 = 3)) → ((w32 (S.1 367 2) < 1) → EV q 258 156 [some (.ref 367), some (vI x1), some (vI x2), some (vI x3), some (vI x4), some (vI x5), some (vI x6), some (vI x7)] [] S r S') ∧ ((¬ w32 (S.1 367 2) < 1) → ((230 ≤ w32 x6) → EV q 258 156 [some (.ref 367), some (vI x1), some (vI x2), some (vI x3), some (vI x4), some (vI x5), some (vI x6), some (vI x7)] [] S r S') ∧ ((¬ 230 ≤ w32 x6) → (0 ≤ w32 ((S.1 367 2) - 1) ∧ w32 ((S.1 367 2) - 1) < (6000 : Nat)) ∧ EV q 258 156 [some (.ref 367), some (vI x1), some (vI x2), some (vI x3), some (vI x4), some (vI x5), some (vI x6), some (vI (S.1 368 (w32 ((S.1 367 2) - 1))))] [] S r S')))) : EV q 258 122 [some (.ref 367), some (vI x1), some (vI x2), some (vI x3), some (vI x4), some (vI x5), some (vI x6), some (vI x7)] [] S r S' := by
  unfold EV
  refine ev_bk 2 (S' := (124, [some (.ref 367), some (vI x1), some (vI x2), some (vI x3), some (vI x4), some (vI x5), some (vI x6), some (vI x7)], [vI 3, vI x1], hp S, 0, 0)) rfl ?_
  refine mv_icmp 156 rfl rfl (fun c => ?_) (fun c => ?_)
  · have F := F.1 c
    exact F
  · have F := F.2 c
    refine ev_bk 1 (S' := (128, [some (.ref 367), some (vI x1), some (vI x2), some (vI x3), some (vI x4), some (vI x5), some (vI x6), some (vI x7)], [.ref 367], hp S, 0, 0)) rfl ?_
    refine mv_gfI rfl rfl (sh_367) (by decide) rfl ?_
    refine ev_bk 1 (S' := (132, [some (.ref 367), some (vI x1), some (vI x2), some (vI x3), some (vI x4), some (vI x5), some (vI x6), some (vI x7)], [vI 1, vI (S.1 367 2)], hp S, 0, 0)) rfl ?_
    refine mv_icmp 156 rfl rfl (fun c => ?_) (fun c => ?_)
    · have F := F.1 c
      exact F
    · have F := F.2 c
      refine ev_bk 2 (S' := (140, [some (.ref 367), some (vI x1), some (vI x2), some (vI x3), some (vI x4), some (vI x5), some (vI x6), some (vI x7)], [vI 230, vI x6], hp S, 0, 0)) rfl ?_
      refine mv_icmp 156 rfl rfl (fun c => ?_) (fun c => ?_)
      · have F := F.1 c
        exact F
      · have F := F.2 c
        refine ev_bk 1 (S' := (144, [some (.ref 367), some (vI x1), some (vI x2), some (vI x3), some (vI x4), some (vI x5), some (vI x6), some (vI x7)], [.ref 367], hp S, 0, 0)) rfl ?_
        refine mv_gfR rfl rfl (sh_367) (by decide) rfl ?_
        refine ev_bk 1 (S' := (148, [some (.ref 367), some (vI x1), some (vI x2), some (vI x3), some (vI x4), some (vI x5), some (vI x6), some (vI x7)], [.ref 367, .ref 368], hp S, 0, 0)) rfl ?_
        refine mv_gfI rfl rfl (sh_367) (by decide) rfl ?_
        refine ev_bk 1 (S' := (152, [some (.ref 367), some (vI x1), some (vI x2), some (vI x3), some (vI x4), some (vI x5), some (vI x6), some (vI x7)], [vI 1, vI (S.1 367 2), .ref 368], hp S, 0, 0)) rfl ?_
        refine mv_isub rfl ?_
        obtain ⟨b1, F⟩ := F
        refine mv_bal rfl (sh_368) b1 ?_
        refine ev_bk 1 (S' := (156, [some (.ref 367), some (vI x1), some (vI x2), some (vI x3), some (vI x4), some (vI x5), some (vI x6), some (vI (S.1 368 (w32 ((S.1 367 2) - 1))))], [], hp S, 0, 0)) rfl ?_
        exact F
theorem vc_MD_fill_156 {q : Nat × (Nat → Int32)} {S S' : ms} {r : Option Value} (x1 x2 x3 x4 x5 x6 x7 : Int)
    (F : (0 ≤ w32 (S.1 367 2) ∧ w32 (S.1 367 2) < (6000 : Nat)) ∧ ∀ S2 : ms, S2 = wI S 368 (w32 (S.1 367 2)) (b8 (b8 x7)) → ∀ S3 : ms, S3 = wI S2 367 2 (S2.1 367 2 + 1) → EV q 258 42 [some (.ref 367), some (vI x1), some (vI x2), some (vI x3), some (vI x4), some (vI (x5 + 1)), none, none] [] S3 r S') : EV q 258 156 [some (.ref 367), some (vI x1), some (vI x2), some (vI x3), some (vI x4), some (vI x5), some (vI x6), some (vI x7)] [] S r S' := by
  unfold EV
  refine ev_bk 1 (S' := (157, [some (.ref 367), some (vI x1), some (vI x2), some (vI x3), some (vI x4), some (vI x5), some (vI x6), some (vI x7)], [.ref 367], hp S, 0, 0)) rfl ?_
  refine mv_gfR rfl rfl (sh_367) (by decide) rfl ?_
  refine ev_bk 1 (S' := (161, [some (.ref 367), some (vI x1), some (vI x2), some (vI x3), some (vI x4), some (vI x5), some (vI x6), some (vI x7)], [.ref 367, .ref 368], hp S, 0, 0)) rfl ?_
  refine mv_gfI rfl rfl (sh_367) (by decide) rfl ?_
  refine ev_bk 1 (S' := (166, [some (.ref 367), some (vI x1), some (vI x2), some (vI x3), some (vI x4), some (vI x5), some (vI x6), some (vI x7)], [vI x7, vI (S.1 367 2), .ref 368], hp S, 0, 0)) rfl ?_
  refine mv_i2b rfl ?_
  obtain ⟨b1, F⟩ := F
  refine mv_bas rfl (sh_368) b1 ?_
  have F := F _ rfl
  refine ev_bk 2 (S' := (170, [some (.ref 367), some (vI x1), some (vI x2), some (vI x3), some (vI x4), some (vI x5), some (vI x6), some (vI x7)], [.ref 367, .ref 367], hp (wI S 368 (w32 (S.1 367 2)) (b8 (b8 x7))), 0, 0)) rfl ?_
  refine mv_gfI rfl rfl (sh_367) (by decide) rfl ?_
  refine ev_bk 1 (S' := (174, [some (.ref 367), some (vI x1), some (vI x2), some (vI x3), some (vI x4), some (vI x5), some (vI x6), some (vI x7)], [vI 1, vI ((wI S 368 (w32 (S.1 367 2)) (b8 (b8 x7))).1 367 2), .ref 367], hp (wI S 368 (w32 (S.1 367 2)) (b8 (b8 x7))), 0, 0)) rfl ?_
  refine mv_iadd rfl ?_
  refine mv_pfI rfl rfl (sh_367) (by decide) rfl rfl ?_
  have F := F _ rfl
  refine mv_inc (lv' := [some (.ref 367), some (vI x1), some (vI x2), some (vI x3), some (vI x4), some (vI (x5 + 1)), some (vI x6), some (vI x7)]) 5 1 rfl rfl rfl rfl ?_
  refine mv_goto 42 rfl rfl ?_
  exact ev_wk (le_s (le_s (le_s (le_s (le_s (le_s (le_n (le_n le_0)))))))) F
theorem vc_MD_cut {q : Nat × (Nat → Int32)} {S S' : ms} {r : Option Value} (x1 : Int)
    (F : ∀ S1 : ms, S1 = wI S 367 0 0 → ((w32 x1 < 0) → r = some (vI ((-2))) ∧ S' = S1) ∧ ((¬ w32 x1 < 0) → ((w32 x1 ≤ w32 (S1.1 367 2)) → ∀ S2 : ms, S2 = wI S1 367 2 x1 → r = some (vI (S1.1 367 2)) ∧ S' = S2) ∧ ((¬ w32 x1 ≤ w32 (S1.1 367 2)) → r = some (vI ((-2))) ∧ S' = S1))) : EV q 259 0 [some (.ref 367), some (vI x1), none] [] S r S' := by
  unfold EV
  refine ev_bk 2 (S' := (2, [some (.ref 367), some (vI x1), none], [vI 0, .ref 367], hp S, 0, 0)) rfl ?_
  refine mv_pfI rfl rfl (sh_367) (by decide) rfl rfl ?_
  have F := F _ rfl
  refine ev_bk 1 (S' := (6, [some (.ref 367), some (vI x1), none], [vI x1], hp (wI S 367 0 0), 0, 0)) rfl ?_
  refine mv_if 17 rfl rfl (fun c => ?_) (fun c => ?_)
  · have F := F.1 c
    refine ev_bk 1 (S' := (19, [some (.ref 367), some (vI x1), none], [vI ((-2))], hp (wI S 367 0 0), 0, 0)) rfl ?_
    obtain ⟨rfl, rfl⟩ := F
    exact ev_ret rfl rfl
  · have F := F.2 c
    refine ev_bk 2 (S' := (11, [some (.ref 367), some (vI x1), none], [.ref 367, vI x1], hp (wI S 367 0 0), 0, 0)) rfl ?_
    refine mv_gfI rfl rfl (sh_367) (by decide) rfl ?_
    refine mv_icmp 20 rfl rfl (fun c => ?_) (fun c => ?_)
    · have F := F.1 c
      refine ev_bk 1 (S' := (21, [some (.ref 367), some (vI x1), none], [.ref 367], hp (wI S 367 0 0), 0, 0)) rfl ?_
      refine mv_gfI rfl rfl (sh_367) (by decide) rfl ?_
      refine ev_bk 3 (S' := (27, [some (.ref 367), some (vI x1), some (vI ((wI S 367 0 0).1 367 2))], [vI x1, .ref 367], hp (wI S 367 0 0), 0, 0)) rfl ?_
      refine mv_pfI rfl rfl (sh_367) (by decide) rfl rfl ?_
      have F := F _ rfl
      refine ev_bk 1 (S' := (31, [some (.ref 367), some (vI x1), some (vI ((wI S 367 0 0).1 367 2))], [vI ((wI S 367 0 0).1 367 2)], hp (wI (wI S 367 0 0) 367 2 x1), 0, 0)) rfl ?_
      obtain ⟨rfl, rfl⟩ := F
      exact ev_ret rfl rfl
    · have F := F.2 c
      refine ev_bk 1 (S' := (19, [some (.ref 367), some (vI x1), none], [vI ((-2))], hp (wI S 367 0 0), 0, 0)) rfl ?_
      obtain ⟨rfl, rfl⟩ := F
      exact ev_ret rfl rfl
theorem vc_MD_alter {q : Nat × (Nat → Int32)} {S S' : ms} {r : Option Value} (x1 x2 : Int)
    (F : ∀ S1 : ms, S1 = wI S 367 0 0 → ((w32 x1 < 0) → r = some (vI ((-1))) ∧ S' = S1) ∧ ((¬ w32 x1 < 0) → ((w32 x1 < w32 (S1.1 367 2)) → ∃ (z4 : Int) (S2 : ms), EV q 257 0 [some (vI x2), some (vI 0), some (vI 255)] [] S1 (some (vI z4)) S2 ∧ ((¬ w32 z4 = 0) → (0 ≤ w32 x1 ∧ w32 x1 < (6000 : Nat)) ∧ (0 ≤ w32 x1 ∧ w32 x1 < (6000 : Nat)) ∧ ∀ S7 : ms, S7 = wI S2 368 (w32 x1) (b8 (b8 x2)) → r = some (vI ((S2.1 368 (w32 x1)) % 256)) ∧ S' = S7) ∧ ((¬ (¬ w32 z4 = 0)) → r = some (vI ((-2))) ∧ S' = S2)) ∧ ((¬ w32 x1 < w32 (S1.1 367 2)) → r = some (vI ((-1))) ∧ S' = S1))) : EV q 260 0 [some (.ref 367), some (vI x1), some (vI x2), none] [] S r S' := by
  unfold EV
  refine ev_bk 2 (S' := (2, [some (.ref 367), some (vI x1), some (vI x2), none], [vI 0, .ref 367], hp S, 0, 0)) rfl ?_
  refine mv_pfI rfl rfl (sh_367) (by decide) rfl rfl ?_
  have F := F _ rfl
  refine ev_bk 1 (S' := (6, [some (.ref 367), some (vI x1), some (vI x2), none], [vI x1], hp (wI S 367 0 0), 0, 0)) rfl ?_
  refine mv_if 17 rfl rfl (fun c => ?_) (fun c => ?_)
  · have F := F.1 c
    refine ev_bk 1 (S' := (18, [some (.ref 367), some (vI x1), some (vI x2), none], [vI ((-1))], hp (wI S 367 0 0), 0, 0)) rfl ?_
    obtain ⟨rfl, rfl⟩ := F
    exact ev_ret rfl rfl
  · have F := F.2 c
    refine ev_bk 2 (S' := (11, [some (.ref 367), some (vI x1), some (vI x2), none], [.ref 367, vI x1], hp (wI S 367 0 0), 0, 0)) rfl ?_
    refine mv_gfI rfl rfl (sh_367) (by decide) rfl ?_
    refine mv_icmp 19 rfl rfl (fun c => ?_) (fun c => ?_)
    · have F := F.1 c
      refine ev_bk 3 (S' := (24, [some (.ref 367), some (vI x1), some (vI x2), none], [vI 255, vI 0, vI x2], hp (wI S 367 0 0), 0, 0)) rfl ?_
      obtain ⟨z4, S2, e3, F⟩ := F
      refine mv_cals (as := [vI x2, vI 0, vI 255]) (rest := []) e3 rfl rfl rfl ⟨rfl, rfl, rfl⟩ rfl rfl rfl rfl ?_
      refine mv_if 33 rfl rfl (fun c => ?_) (fun c => ?_)
      · have F := F.1 c
        refine ev_bk 1 (S' := (34, [some (.ref 367), some (vI x1), some (vI x2), none], [.ref 367], hp S2, 0, 0)) rfl ?_
        refine mv_gfR rfl rfl (sh_367) (by decide) rfl ?_
        refine ev_bk 1 (S' := (38, [some (.ref 367), some (vI x1), some (vI x2), none], [vI x1, .ref 368], hp S2, 0, 0)) rfl ?_
        obtain ⟨b5, F⟩ := F
        refine mv_bal rfl (sh_368) b5 ?_
        refine ev_bk 1 (S' := (42, [some (.ref 367), some (vI x1), some (vI x2), none], [vI 255, vI (S2.1 368 (w32 x1))], hp S2, 0, 0)) rfl ?_
        refine mv_iandm 256 8 (by decide) rfl rfl rfl ?_
        refine ev_bk 2 (S' := (45, [some (.ref 367), some (vI x1), some (vI x2), some (vI ((S2.1 368 (w32 x1)) % 256))], [.ref 367], hp S2, 0, 0)) rfl ?_
        refine mv_gfR rfl rfl (sh_367) (by decide) rfl ?_
        refine ev_bk 2 (S' := (50, [some (.ref 367), some (vI x1), some (vI x2), some (vI ((S2.1 368 (w32 x1)) % 256))], [vI x2, vI x1, .ref 368], hp S2, 0, 0)) rfl ?_
        refine mv_i2b rfl ?_
        obtain ⟨b6, F⟩ := F
        refine mv_bas rfl (sh_368) b6 ?_
        have F := F _ rfl
        refine ev_bk 1 (S' := (53, [some (.ref 367), some (vI x1), some (vI x2), some (vI ((S2.1 368 (w32 x1)) % 256))], [vI ((S2.1 368 (w32 x1)) % 256)], hp (wI S2 368 (w32 x1) (b8 (b8 x2))), 0, 0)) rfl ?_
        obtain ⟨rfl, rfl⟩ := F
        exact ev_ret rfl rfl
      · have F := F.2 c
        refine ev_bk 1 (S' := (32, [some (.ref 367), some (vI x1), some (vI x2), none], [vI ((-2))], hp S2, 0, 0)) rfl ?_
        obtain ⟨rfl, rfl⟩ := F
        exact ev_ret rfl rfl
    · have F := F.2 c
      refine ev_bk 1 (S' := (18, [some (.ref 367), some (vI x1), some (vI x2), none], [vI ((-1))], hp (wI S 367 0 0), 0, 0)) rfl ?_
      obtain ⟨rfl, rfl⟩ := F
      exact ev_ret rfl rfl
theorem vc_MD_octet {q : Nat × (Nat → Int32)} {S S' : ms} {r : Option Value} (x1 : Int)
    (F : ∀ S1 : ms, S1 = wI S 367 0 0 → ((w32 x1 < 0) → EV q 261 17 [some (.ref 367), some (vI x1)] [] S1 r S') ∧ ((¬ w32 x1 < 0) → ((w32 x1 < w32 (S1.1 367 2)) → (0 ≤ w32 x1 ∧ w32 x1 < (6000 : Nat)) ∧ r = some (vI ((S1.1 368 (w32 x1)) % 256)) ∧ S' = S1) ∧ ((¬ w32 x1 < w32 (S1.1 367 2)) → EV q 261 17 [some (.ref 367), some (vI x1)] [] S1 r S'))) : EV q 261 0 [some (.ref 367), some (vI x1)] [] S r S' := by
  unfold EV
  refine ev_bk 2 (S' := (2, [some (.ref 367), some (vI x1)], [vI 0, .ref 367], hp S, 0, 0)) rfl ?_
  refine mv_pfI rfl rfl (sh_367) (by decide) rfl rfl ?_
  have F := F _ rfl
  refine ev_bk 1 (S' := (6, [some (.ref 367), some (vI x1)], [vI x1], hp (wI S 367 0 0), 0, 0)) rfl ?_
  refine mv_if 17 rfl rfl (fun c => ?_) (fun c => ?_)
  · have F := F.1 c
    exact F
  · have F := F.2 c
    refine ev_bk 2 (S' := (11, [some (.ref 367), some (vI x1)], [.ref 367, vI x1], hp (wI S 367 0 0), 0, 0)) rfl ?_
    refine mv_gfI rfl rfl (sh_367) (by decide) rfl ?_
    refine mv_icmp 21 rfl rfl (fun c => ?_) (fun c => ?_)
    · have F := F.1 c
      refine ev_bk 1 (S' := (22, [some (.ref 367), some (vI x1)], [.ref 367], hp (wI S 367 0 0), 0, 0)) rfl ?_
      refine mv_gfR rfl rfl (sh_367) (by decide) rfl ?_
      refine ev_bk 1 (S' := (26, [some (.ref 367), some (vI x1)], [vI x1, .ref 368], hp (wI S 367 0 0), 0, 0)) rfl ?_
      obtain ⟨b2, F⟩ := F
      refine mv_bal rfl (sh_368) b2 ?_
      refine ev_bk 1 (S' := (30, [some (.ref 367), some (vI x1)], [vI 255, vI ((wI S 367 0 0).1 368 (w32 x1))], hp (wI S 367 0 0), 0, 0)) rfl ?_
      refine mv_iandm 256 8 (by decide) rfl rfl rfl ?_
      obtain ⟨rfl, rfl⟩ := F
      exact ev_ret rfl rfl
    · have F := F.2 c
      exact F
theorem vc_MD_octet_17 {q : Nat × (Nat → Int32)} {S S' : ms} {r : Option Value} (x1 : Int)
    (F : r = some (vI ((-1))) ∧ S' = S) : EV q 261 17 [some (.ref 367), some (vI x1)] [] S r S' := by
  unfold EV
  refine ev_bk 1 (S' := (18, [some (.ref 367), some (vI x1)], [vI ((-1))], hp S, 0, 0)) rfl ?_
  refine mv_goto 31 rfl rfl ?_
  obtain ⟨rfl, rfl⟩ := F
  exact ev_ret rfl rfl
theorem vc_MD_sum {q : Nat × (Nat → Int32)} {S S' : ms} {r : Option Value} (x1 : Int)
    (F : ∀ S1 : ms, S1 = wI S 367 0 0 → ((w32 x1 = 0) → ∃ (z4 : Int) (S2 : ms), EV q 263 0 [some (.ref 368), some (vI 0), some (vI (S1.1 367 2)), none, none, none] [] S1 (some (vL z4)) S2 ∧ r = some (vL z4) ∧ S' = S2) ∧ ((w32 x1 = 1) → ∃ (z7 : Int) (S5 : ms), EV q 264 0 [some (.ref 367), some (.ref 368), some (vI 0), some (vI (S1.1 367 2)), none, none] [] S1 (some (vI z7)) S5 ∧ r = some (vL ((w32 z7) % 4294967296)) ∧ S' = S5) ∧ ((w32 x1 = 2) → ∃ (z10 : Int) (S8 : ms), EV q 265 0 [some (.ref 367), some (.ref 368), some (vI 0), some (vI (S1.1 367 2)), none, none] [] S1 (some (vI z10)) S8 ∧ r = some (vL ((w32 z10) % 4294967296)) ∧ S' = S8) ∧ ((w32 x1 = 3) → ∃ (z13 : Int) (S11 : ms), EV q 266 0 [some (.ref 368), some (vI 0), some (vI (S1.1 367 2)), none, none, none, none, none, none] [] S1 (some (vI z13)) S11 ∧ r = some (vL ((w32 z13) % 4294967296)) ∧ S' = S11) ∧ ((¬ w32 x1 = 0) → (¬ w32 x1 = 1) → (¬ w32 x1 = 2) → (¬ w32 x1 = 3) → r = some (vL ((-2))) ∧ S' = S1)) : EV q 262 0 [some (.ref 367), some (vI x1)] [] S r S' := by
  unfold EV
  refine ev_bk 2 (S' := (2, [some (.ref 367), some (vI x1)], [vI 0, .ref 367], hp S, 0, 0)) rfl ?_
  refine mv_pfI rfl rfl (sh_367) (by decide) rfl rfl ?_
  have F := F _ rfl
  refine ev_bk 1 (S' := (6, [some (.ref 367), some (vI x1)], [vI x1], hp (wI S 367 0 0), 0, 0)) rfl ?_
  by_cases d0 : w32 x1 < 0
  · have F := F.2.2.2.2 (ts_lo d0 (by decide)) (ts_lo d0 (by decide)) (ts_lo d0 (by decide)) (ts_lo d0 (by decide))
    refine mv_tout 105 (Or.inl d0) rfl rfl ?_
    refine ev_bk 1 (S' := (108, [some (.ref 367), some (vI x1)], [vL ((-2))], hp (wI S 367 0 0), 0, 0)) rfl ?_
    obtain ⟨rfl, rfl⟩ := F
    exact ev_ret rfl rfl
  by_cases d1 : w32 x1 < 1
  · have e := ts_eq d0 d1
    have F := F.1 e
    refine mv_tin 36 0 e rfl (by decide) rfl rfl ?_
    refine ev_bk 1 (S' := (37, [some (.ref 367), some (vI x1)], [.ref 367], hp (wI S 367 0 0), 0, 0)) rfl ?_
    refine mv_gfR rfl rfl (sh_367) (by decide) rfl ?_
    refine ev_bk 2 (S' := (42, [some (.ref 367), some (vI x1)], [.ref 367, vI 0, .ref 368], hp (wI S 367 0 0), 0, 0)) rfl ?_
    refine mv_gfI rfl rfl (sh_367) (by decide) rfl ?_
    obtain ⟨z4, S2, e3, F⟩ := F
    refine mv_cals (as := [.ref 368, vI 0, vI ((wI S 367 0 0).1 367 2)]) (rest := []) e3 rfl rfl rfl ⟨rfl, rfl, rfl⟩ rfl rfl rfl rfl ?_
    obtain ⟨rfl, rfl⟩ := F
    exact ev_ret rfl rfl
  by_cases d2 : w32 x1 < 2
  · have e := ts_eq d1 d2
    have F := F.2.1 e
    refine mv_tin 49 1 e rfl (by decide) rfl rfl ?_
    refine ev_bk 2 (S' := (51, [some (.ref 367), some (vI x1)], [.ref 367, .ref 367], hp (wI S 367 0 0), 0, 0)) rfl ?_
    refine mv_gfR rfl rfl (sh_367) (by decide) rfl ?_
    refine ev_bk 2 (S' := (56, [some (.ref 367), some (vI x1)], [.ref 367, vI 0, .ref 368, .ref 367], hp (wI S 367 0 0), 0, 0)) rfl ?_
    refine mv_gfI rfl rfl (sh_367) (by decide) rfl ?_
    obtain ⟨z7, S5, e6, F⟩ := F
    refine mv_calv (as := [.ref 368, vI 0, vI ((wI S 367 0 0).1 367 2)]) (rest := []) e6 (sh_367) rfl rfl rfl ⟨rfl, rfl⟩ rfl rfl rfl rfl rfl ?_
    refine mv_i2l rfl ?_
    refine ev_bk 1 (S' := (66, [some (.ref 367), some (vI x1)], [vL 4294967295, vL (w32 z7)], hp S5, 0, 0)) rfl ?_
    refine mv_landm 4294967296 32 (by decide) rfl rfl rfl ?_
    obtain ⟨rfl, rfl⟩ := F
    exact ev_ret rfl rfl
  by_cases d3 : w32 x1 < 3
  · have e := ts_eq d2 d3
    have F := F.2.2.1 e
    refine mv_tin 68 2 e rfl (by decide) rfl rfl ?_
    refine ev_bk 2 (S' := (70, [some (.ref 367), some (vI x1)], [.ref 367, .ref 367], hp (wI S 367 0 0), 0, 0)) rfl ?_
    refine mv_gfR rfl rfl (sh_367) (by decide) rfl ?_
    refine ev_bk 2 (S' := (75, [some (.ref 367), some (vI x1)], [.ref 367, vI 0, .ref 368, .ref 367], hp (wI S 367 0 0), 0, 0)) rfl ?_
    refine mv_gfI rfl rfl (sh_367) (by decide) rfl ?_
    obtain ⟨z10, S8, e9, F⟩ := F
    refine mv_calv (as := [.ref 368, vI 0, vI ((wI S 367 0 0).1 367 2)]) (rest := []) e9 (sh_367) rfl rfl rfl ⟨rfl, rfl⟩ rfl rfl rfl rfl rfl ?_
    refine mv_i2l rfl ?_
    refine ev_bk 1 (S' := (85, [some (.ref 367), some (vI x1)], [vL 4294967295, vL (w32 z10)], hp S8, 0, 0)) rfl ?_
    refine mv_landm 4294967296 32 (by decide) rfl rfl rfl ?_
    obtain ⟨rfl, rfl⟩ := F
    exact ev_ret rfl rfl
  by_cases d4 : w32 x1 < 4
  · have e := ts_eq d3 d4
    have F := F.2.2.2.1 e
    refine mv_tin 87 3 e rfl (by decide) rfl rfl ?_
    refine ev_bk 1 (S' := (88, [some (.ref 367), some (vI x1)], [.ref 367], hp (wI S 367 0 0), 0, 0)) rfl ?_
    refine mv_gfR rfl rfl (sh_367) (by decide) rfl ?_
    refine ev_bk 2 (S' := (93, [some (.ref 367), some (vI x1)], [.ref 367, vI 0, .ref 368], hp (wI S 367 0 0), 0, 0)) rfl ?_
    refine mv_gfI rfl rfl (sh_367) (by decide) rfl ?_
    obtain ⟨z13, S11, e12, F⟩ := F
    refine mv_cals (as := [.ref 368, vI 0, vI ((wI S 367 0 0).1 367 2)]) (rest := []) e12 rfl rfl rfl ⟨rfl, rfl, rfl⟩ rfl rfl rfl rfl ?_
    refine mv_i2l rfl ?_
    refine ev_bk 1 (S' := (103, [some (.ref 367), some (vI x1)], [vL 4294967295, vL (w32 z13)], hp S11, 0, 0)) rfl ?_
    refine mv_landm 4294967296 32 (by decide) rfl rfl rfl ?_
    obtain ⟨rfl, rfl⟩ := F
    exact ev_ret rfl rfl
  have F := F.2.2.2.2 (ts_hi d4 (by decide)) (ts_hi d4 (by decide)) (ts_hi d4 (by decide)) (ts_hi d4 (by decide))
  refine mv_tout 105 (Or.inr (ts_gt (hi := 3) d4)) rfl rfl ?_
  refine ev_bk 1 (S' := (108, [some (.ref 367), some (vI x1)], [vL ((-2))], hp (wI S 367 0 0), 0, 0)) rfl ?_
  obtain ⟨rfl, rfl⟩ := F
  exact ev_ret rfl rfl
theorem vc_MD_adler {q : Nat × (Nat → Int32)} {S S' : ms} {r : Option Value} (x1 x2 : Int) (a0 na0 : Nat) (ha0 : SH a0 = (1, na0, []))
    (F : EV q 263 8 [some (.ref a0), some (vI x1), some (vI x2), some (vI 1), some (vI 0), some (vI 0)] [] S r S') : EV q 263 0 [some (.ref a0), some (vI x1), some (vI x2), none, none, none] [] S r S' := by
  unfold EV
  refine ev_bk 6 (S' := (8, [some (.ref a0), some (vI x1), some (vI x2), some (vI 1), some (vI 0), some (vI 0)], [], hp S, 0, 0)) rfl ?_
  exact F
theorem vc_MD_adler_8 {q : Nat × (Nat → Int32)} {S S' : ms} {r : Option Value} (x1 x2 x3 x4 x5 : Int) (a0 na0 : Nat) (ha0 : SH a0 = (1, na0, []))
    (F : ((w32 x2 ≤ w32 x5) → r = some (vL (((w32 x4) * 65536) + (w32 x3))) ∧ S' = S) ∧ ((¬ w32 x2 ≤ w32 x5) → (0 ≤ w32 (x1 + x5) ∧ w32 (x1 + x5) < (na0 : Nat)) ∧ EV q 263 8 [some (.ref a0), some (vI x1), some (vI x2), some (vI (Int.tmod (w32 (x3 + ((S.1 a0 (w32 (x1 + x5))) % 256))) (w32 65521))), some (vI (Int.tmod (w32 (x4 + (Int.tmod (w32 (x3 + ((S.1 a0 (w32 (x1 + x5))) % 256))) (w32 65521)))) (w32 65521))), some (vI (x5 + 1))] [] S r S')) : EV q 263 8 [some (.ref a0), some (vI x1), some (vI x2), some (vI x3), some (vI x4), some (vI x5)] [] S r S' := by
  unfold EV
  refine ev_bk 2 (S' := (11, [some (.ref a0), some (vI x1), some (vI x2), some (vI x3), some (vI x4), some (vI x5)], [vI x2, vI x5], hp S, 0, 0)) rfl ?_
  refine mv_icmp 47 rfl rfl (fun c => ?_) (fun c => ?_)
  · have F := F.1 c
    refine ev_bk 1 (S' := (49, [some (.ref a0), some (vI x1), some (vI x2), some (vI x3), some (vI x4), some (vI x5)], [vI x4], hp S, 0, 0)) rfl ?_
    refine mv_i2l rfl ?_
    refine ev_bk 1 (S' := (53, [some (.ref a0), some (vI x1), some (vI x2), some (vI x3), some (vI x4), some (vI x5)], [vL 65536, vL (w32 x4)], hp S, 0, 0)) rfl ?_
    refine mv_lmul rfl ?_
    refine ev_bk 1 (S' := (55, [some (.ref a0), some (vI x1), some (vI x2), some (vI x3), some (vI x4), some (vI x5)], [vI x3, vL ((w32 x4) * 65536)], hp S, 0, 0)) rfl ?_
    refine mv_i2l rfl ?_
    refine mv_ladd rfl ?_
    obtain ⟨rfl, rfl⟩ := F
    exact ev_ret rfl rfl
  · have F := F.2 c
    refine ev_bk 4 (S' := (19, [some (.ref a0), some (vI x1), some (vI x2), some (vI x3), some (vI x4), some (vI x5)], [vI x5, vI x1, .ref a0, vI x3], hp S, 0, 0)) rfl ?_
    refine mv_iadd rfl ?_
    obtain ⟨b1, F⟩ := F
    refine mv_bal rfl (ha0) b1 ?_
    refine ev_bk 1 (S' := (24, [some (.ref a0), some (vI x1), some (vI x2), some (vI x3), some (vI x4), some (vI x5)], [vI 255, vI (S.1 a0 (w32 (x1 + x5))), vI x3], hp S, 0, 0)) rfl ?_
    refine mv_iandm 256 8 (by decide) rfl rfl rfl ?_
    refine mv_iadd rfl ?_
    refine ev_bk 1 (S' := (29, [some (.ref a0), some (vI x1), some (vI x2), some (vI x3), some (vI x4), some (vI x5)], [vI 65521, vI (x3 + ((S.1 a0 (w32 (x1 + x5))) % 256))], hp S, 0, 0)) rfl ?_
    refine mv_irem (by decide) rfl ?_
    refine ev_bk 3 (S' := (34, [some (.ref a0), some (vI x1), some (vI x2), some (vI (Int.tmod (w32 (x3 + ((S.1 a0 (w32 (x1 + x5))) % 256))) (w32 65521))), some (vI x4), some (vI x5)], [vI (Int.tmod (w32 (x3 + ((S.1 a0 (w32 (x1 + x5))) % 256))) (w32 65521)), vI x4], hp S, 0, 0)) rfl ?_
    refine mv_iadd rfl ?_
    refine ev_bk 1 (S' := (38, [some (.ref a0), some (vI x1), some (vI x2), some (vI (Int.tmod (w32 (x3 + ((S.1 a0 (w32 (x1 + x5))) % 256))) (w32 65521))), some (vI x4), some (vI x5)], [vI 65521, vI (x4 + (Int.tmod (w32 (x3 + ((S.1 a0 (w32 (x1 + x5))) % 256))) (w32 65521)))], hp S, 0, 0)) rfl ?_
    refine mv_irem (by decide) rfl ?_
    refine ev_bk 1 (S' := (41, [some (.ref a0), some (vI x1), some (vI x2), some (vI (Int.tmod (w32 (x3 + ((S.1 a0 (w32 (x1 + x5))) % 256))) (w32 65521))), some (vI (Int.tmod (w32 (x4 + (Int.tmod (w32 (x3 + ((S.1 a0 (w32 (x1 + x5))) % 256))) (w32 65521)))) (w32 65521))), some (vI x5)], [], hp S, 0, 0)) rfl ?_
    refine mv_inc (lv' := [some (.ref a0), some (vI x1), some (vI x2), some (vI (Int.tmod (w32 (x3 + ((S.1 a0 (w32 (x1 + x5))) % 256))) (w32 65521))), some (vI (Int.tmod (w32 (x4 + (Int.tmod (w32 (x3 + ((S.1 a0 (w32 (x1 + x5))) % 256))) (w32 65521)))) (w32 65521))), some (vI (x5 + 1))]) 5 1 rfl rfl rfl rfl ?_
    refine mv_goto 8 rfl rfl ?_
    exact F
theorem vc_MD_round {q : Nat × (Nat → Int32)} {S S' : ms} {r : Option Value} (x2 x3 : Int) (a1 na1 : Nat) (ha1 : SH a1 = (1, na1, []))
    (F : EV q 264 6 [some (.ref 367), some (.ref a1), some (vI x2), some (vI x3), some (vI ((-1))), some (vI 0)] [] S r S') : EV q 264 0 [some (.ref 367), some (.ref a1), some (vI x2), some (vI x3), none, none] [] S r S' := by
  unfold EV
  refine ev_bk 4 (S' := (6, [some (.ref 367), some (.ref a1), some (vI x2), some (vI x3), some (vI ((-1))), some (vI 0)], [], hp S, 0, 0)) rfl ?_
  exact F
theorem vc_MD_round_6 {q : Nat × (Nat → Int32)} {S S' : ms} {r : Option Value} (x2 x3 x4 x5 : Int) (a1 na1 : Nat) (ha1 : SH a1 = (1, na1, []))
    (F : ((w32 x3 ≤ w32 x5) → r = some (vI (-x4 - 1)) ∧ S' = S) ∧ ((¬ w32 x3 ≤ w32 x5) → (0 ≤ w32 (x2 + x5) ∧ w32 (x2 + x5) < (na1 : Nat)) ∧ (0 ≤ w32 ((bX x4 (S.1 a1 (w32 (x2 + x5)))) % 256) ∧ w32 ((bX x4 (S.1 a1 (w32 (x2 + x5)))) % 256) < (256 : Nat)) ∧ EV q 264 6 [some (.ref 367), some (.ref a1), some (vI x2), some (vI x3), some (vI (bX (S.1 372 (w32 ((bX x4 (S.1 a1 (w32 (x2 + x5)))) % 256))) (x4 % 4294967296 / 256))), some (vI (x5 + 1))] [] S r S')) : EV q 264 6 [some (.ref 367), some (.ref a1), some (vI x2), some (vI x3), some (vI x4), some (vI x5)] [] S r S' := by
  unfold EV
  refine ev_bk 2 (S' := (9, [some (.ref 367), some (.ref a1), some (vI x2), some (vI x3), some (vI x4), some (vI x5)], [vI x3, vI x5], hp S, 0, 0)) rfl ?_
  refine mv_icmp 44 rfl rfl (fun c => ?_) (fun c => ?_)
  · have F := F.1 c
    refine ev_bk 2 (S' := (47, [some (.ref 367), some (.ref a1), some (vI x2), some (vI x3), some (vI x4), some (vI x5)], [vI ((-1)), vI x4], hp S, 0, 0)) rfl ?_
    refine mv_inot rfl ?_
    obtain ⟨rfl, rfl⟩ := F
    exact ev_ret rfl rfl
  · have F := F.2 c
    refine ev_bk 1 (S' := (13, [some (.ref 367), some (.ref a1), some (vI x2), some (vI x3), some (vI x4), some (vI x5)], [.ref 367], hp S, 0, 0)) rfl ?_
    refine mv_gfR rfl rfl (sh_367) (by decide) rfl ?_
    refine ev_bk 4 (S' := (22, [some (.ref 367), some (.ref a1), some (vI x2), some (vI x3), some (vI x4), some (vI x5)], [vI x5, vI x2, .ref a1, vI x4, .ref 372], hp S, 0, 0)) rfl ?_
    refine mv_iadd rfl ?_
    obtain ⟨b1, F⟩ := F
    refine mv_bal rfl (ha1) b1 ?_
    refine mv_ixor rfl ?_
    refine ev_bk 1 (S' := (28, [some (.ref 367), some (.ref a1), some (vI x2), some (vI x3), some (vI x4), some (vI x5)], [vI 255, vI (bX x4 (S.1 a1 (w32 (x2 + x5)))), .ref 372], hp S, 0, 0)) rfl ?_
    refine mv_iandm 256 8 (by decide) rfl rfl rfl ?_
    obtain ⟨b2, F⟩ := F
    refine mv_ial rfl (sh_372) b2 ?_
    refine ev_bk 2 (S' := (34, [some (.ref 367), some (.ref a1), some (vI x2), some (vI x3), some (vI x4), some (vI x5)], [vI 8, vI x4, vI (S.1 372 (w32 ((bX x4 (S.1 a1 (w32 (x2 + x5)))) % 256)))], hp S, 0, 0)) rfl ?_
    refine mv_iushr 256 rfl rfl ?_
    refine mv_ixor rfl ?_
    refine ev_bk 1 (S' := (38, [some (.ref 367), some (.ref a1), some (vI x2), some (vI x3), some (vI (bX (S.1 372 (w32 ((bX x4 (S.1 a1 (w32 (x2 + x5)))) % 256))) (x4 % 4294967296 / 256))), some (vI x5)], [], hp S, 0, 0)) rfl ?_
    refine mv_inc (lv' := [some (.ref 367), some (.ref a1), some (vI x2), some (vI x3), some (vI (bX (S.1 372 (w32 ((bX x4 (S.1 a1 (w32 (x2 + x5)))) % 256))) (x4 % 4294967296 / 256))), some (vI (x5 + 1))]) 5 1 rfl rfl rfl rfl ?_
    refine mv_goto 6 rfl rfl ?_
    exact F
theorem vc_MD_turned {q : Nat × (Nat → Int32)} {S S' : ms} {r : Option Value} (x2 x3 : Int) (a1 na1 : Nat) (ha1 : SH a1 = (1, na1, []))
    (F : EV q 265 6 [some (.ref 367), some (.ref a1), some (vI x2), some (vI x3), some (vI ((-1))), some (vI 0)] [] S r S') : EV q 265 0 [some (.ref 367), some (.ref a1), some (vI x2), some (vI x3), none, none] [] S r S' := by
  unfold EV
  refine ev_bk 4 (S' := (6, [some (.ref 367), some (.ref a1), some (vI x2), some (vI x3), some (vI ((-1))), some (vI 0)], [], hp S, 0, 0)) rfl ?_
  exact F
theorem vc_MD_turned_6 {q : Nat × (Nat → Int32)} {S S' : ms} {r : Option Value} (x2 x3 x4 x5 : Int) (a1 na1 : Nat) (ha1 : SH a1 = (1, na1, []))
    (F : ((w32 x3 ≤ w32 x5) → r = some (vI (-x4 - 1)) ∧ S' = S) ∧ ((¬ w32 x3 ≤ w32 x5) → (0 ≤ w32 (x2 + x5) ∧ w32 (x2 + x5) < (na1 : Nat)) ∧ (0 ≤ w32 ((bX (x4 % 4294967296 / 16777216) (S.1 a1 (w32 (x2 + x5)))) % 256) ∧ w32 ((bX (x4 % 4294967296 / 16777216) (S.1 a1 (w32 (x2 + x5)))) % 256) < (256 : Nat)) ∧ EV q 265 6 [some (.ref 367), some (.ref a1), some (vI x2), some (vI x3), some (vI (bX (S.1 373 (w32 ((bX (x4 % 4294967296 / 16777216) (S.1 a1 (w32 (x2 + x5)))) % 256))) (x4 * 256))), some (vI (x5 + 1))] [] S r S')) : EV q 265 6 [some (.ref 367), some (.ref a1), some (vI x2), some (vI x3), some (vI x4), some (vI x5)] [] S r S' := by
  unfold EV
  refine ev_bk 2 (S' := (9, [some (.ref 367), some (.ref a1), some (vI x2), some (vI x3), some (vI x4), some (vI x5)], [vI x3, vI x5], hp S, 0, 0)) rfl ?_
  refine mv_icmp 47 rfl rfl (fun c => ?_) (fun c => ?_)
  · have F := F.1 c
    refine ev_bk 2 (S' := (50, [some (.ref 367), some (.ref a1), some (vI x2), some (vI x3), some (vI x4), some (vI x5)], [vI ((-1)), vI x4], hp S, 0, 0)) rfl ?_
    refine mv_inot rfl ?_
    obtain ⟨rfl, rfl⟩ := F
    exact ev_ret rfl rfl
  · have F := F.2 c
    refine ev_bk 1 (S' := (13, [some (.ref 367), some (.ref a1), some (vI x2), some (vI x3), some (vI x4), some (vI x5)], [.ref 367], hp S, 0, 0)) rfl ?_
    refine mv_gfR rfl rfl (sh_367) (by decide) rfl ?_
    refine ev_bk 2 (S' := (20, [some (.ref 367), some (.ref a1), some (vI x2), some (vI x3), some (vI x4), some (vI x5)], [vI 24, vI x4, .ref 373], hp S, 0, 0)) rfl ?_
    refine mv_iushr 16777216 rfl rfl ?_
    refine ev_bk 3 (S' := (25, [some (.ref 367), some (.ref a1), some (vI x2), some (vI x3), some (vI x4), some (vI x5)], [vI x5, vI x2, .ref a1, vI (x4 % 4294967296 / 16777216), .ref 373], hp S, 0, 0)) rfl ?_
    refine mv_iadd rfl ?_
    obtain ⟨b1, F⟩ := F
    refine mv_bal rfl (ha1) b1 ?_
    refine mv_ixor rfl ?_
    refine ev_bk 1 (S' := (31, [some (.ref 367), some (.ref a1), some (vI x2), some (vI x3), some (vI x4), some (vI x5)], [vI 255, vI (bX (x4 % 4294967296 / 16777216) (S.1 a1 (w32 (x2 + x5)))), .ref 373], hp S, 0, 0)) rfl ?_
    refine mv_iandm 256 8 (by decide) rfl rfl rfl ?_
    obtain ⟨b2, F⟩ := F
    refine mv_ial rfl (sh_373) b2 ?_
    refine ev_bk 2 (S' := (37, [some (.ref 367), some (.ref a1), some (vI x2), some (vI x3), some (vI x4), some (vI x5)], [vI 8, vI x4, vI (S.1 373 (w32 ((bX (x4 % 4294967296 / 16777216) (S.1 a1 (w32 (x2 + x5)))) % 256)))], hp S, 0, 0)) rfl ?_
    refine mv_ishl 256 rfl rfl ?_
    refine mv_ixor rfl ?_
    refine ev_bk 1 (S' := (41, [some (.ref 367), some (.ref a1), some (vI x2), some (vI x3), some (vI (bX (S.1 373 (w32 ((bX (x4 % 4294967296 / 16777216) (S.1 a1 (w32 (x2 + x5)))) % 256))) (x4 * 256))), some (vI x5)], [], hp S, 0, 0)) rfl ?_
    refine mv_inc (lv' := [some (.ref 367), some (.ref a1), some (vI x2), some (vI x3), some (vI (bX (S.1 373 (w32 ((bX (x4 % 4294967296 / 16777216) (S.1 a1 (w32 (x2 + x5)))) % 256))) (x4 * 256))), some (vI (x5 + 1))]) 5 1 rfl rfl rfl rfl ?_
    refine mv_goto 6 rfl rfl ?_
    exact F
theorem vc_MD_mixed {q : Nat × (Nat → Int32)} {S S' : ms} {r : Option Value} (x1 x2 : Int) (a0 na0 : Nat) (ha0 : SH a0 = (1, na0, []))
    (F : ((w32 x2 < 16) → EV q 266 141 [some (.ref a0), some (vI x1), some (vI x2), some (vI 0), some (vI 374761393), none, none, none, none] [] S r S') ∧ ((¬ w32 x2 < 16) → EV q 266 31 [some (.ref a0), some (vI x1), some (vI x2), some (vI 0), some (vI 374761393), some (vI 606290984), some (vI ((-2048144777))), some (vI 0), some (vI 1640531535)] [] S r S')) : EV q 266 0 [some (.ref a0), some (vI x1), some (vI x2), none, none, none, none, none, none] [] S r S' := by
  unfold EV
  refine ev_bk 6 (S' := (10, [some (.ref a0), some (vI x1), some (vI x2), some (vI 0), some (vI 374761393), none, none, none, none], [vI 16, vI x2], hp S, 0, 0)) rfl ?_
  refine mv_icmp 141 rfl rfl (fun c => ?_) (fun c => ?_)
  · have F := F.1 c
    exact F
  · have F := F.2 c
    refine ev_bk 8 (S' := (31, [some (.ref a0), some (vI x1), some (vI x2), some (vI 0), some (vI 374761393), some (vI 606290984), some (vI ((-2048144777))), some (vI 0), some (vI 1640531535)], [], hp S, 0, 0)) rfl ?_
    exact F
theorem vc_MD_mixed_31 {q : Nat × (Nat → Int32)} {S S' : ms} {r : Option Value} (x1 x2 x3 x4 x5 x6 x7 x8 : Int) (a0 na0 : Nat) (ha0 : SH a0 = (1, na0, []))
    (F : ((w32 x2 < w32 (x3 + 16)) → ∃ (z3 : Int) (S1 : ms), EV q 269 0 [some (vI x5), some (vI 1)] [] S (some (vI z3)) S1 ∧ ∃ (z6 : Int) (S4 : ms), EV q 269 0 [some (vI x6), some (vI 7)] [] S1 (some (vI z6)) S4 ∧ ∃ (z9 : Int) (S7 : ms), EV q 269 0 [some (vI x7), some (vI 12)] [] S4 (some (vI z9)) S7 ∧ ∃ (z12 : Int) (S10 : ms), EV q 269 0 [some (vI x8), some (vI 18)] [] S7 (some (vI z12)) S10 ∧ EV q 266 141 [some (.ref a0), some (vI x1), some (vI x2), some (vI x3), some (vI (z3 + z6 + z9 + z12)), none, none, none, none] [] S10 r S') ∧ ((¬ w32 x2 < w32 (x3 + 16)) → ∃ (z15 : Int) (S13 : ms), EV q 267 0 [some (.ref a0), some (vI (x1 + x3))] [] S (some (vI z15)) S13 ∧ ∃ (z18 : Int) (S16 : ms), EV q 268 0 [some (vI x5), some (vI z15)] [] S13 (some (vI z18)) S16 ∧ ∃ (z21 : Int) (S19 : ms), EV q 267 0 [some (.ref a0), some (vI (x1 + x3 + 4))] [] S16 (some (vI z21)) S19 ∧ ∃ (z24 : Int) (S22 : ms), EV q 268 0 [some (vI x6), some (vI z21)] [] S19 (some (vI z24)) S22 ∧ ∃ (z27 : Int) (S25 : ms), EV q 267 0 [some (.ref a0), some (vI (x1 + x3 + 8))] [] S22 (some (vI z27)) S25 ∧ ∃ (z30 : Int) (S28 : ms), EV q 268 0 [some (vI x7), some (vI z27)] [] S25 (some (vI z30)) S28 ∧ ∃ (z33 : Int) (S31 : ms), EV q 267 0 [some (.ref a0), some (vI (x1 + x3 + 12))] [] S28 (some (vI z33)) S31 ∧ ∃ (z36 : Int) (S34 : ms), EV q 268 0 [some (vI x8), some (vI z33)] [] S31 (some (vI z36)) S34 ∧ EV q 266 31 [some (.ref a0), some (vI x1), some (vI x2), some (vI (x3 + 16)), some (vI x4), some (vI z18), some (vI z24), some (vI z30), some (vI z36)] [] S34 r S')) : EV q 266 31 [some (.ref a0), some (vI x1), some (vI x2), some (vI x3), some (vI x4), some (vI x5), some (vI x6), some (vI x7), some (vI x8)] [] S r S' := by
  unfold EV
  refine ev_bk 2 (S' := (34, [some (.ref a0), some (vI x1), some (vI x2), some (vI x3), some (vI x4), some (vI x5), some (vI x6), some (vI x7), some (vI x8)], [vI 16, vI x3], hp S, 0, 0)) rfl ?_
  refine mv_iadd rfl ?_
  refine ev_bk 1 (S' := (36, [some (.ref a0), some (vI x1), some (vI x2), some (vI x3), some (vI x4), some (vI x5), some (vI x6), some (vI x7), some (vI x8)], [vI x2, vI (x3 + 16)], hp S, 0, 0)) rfl ?_
  refine mv_icmp 109 rfl rfl (fun c => ?_) (fun c => ?_)
  · have F := F.1 c
    refine ev_bk 2 (S' := (112, [some (.ref a0), some (vI x1), some (vI x2), some (vI x3), some (vI x4), some (vI x5), some (vI x6), some (vI x7), some (vI x8)], [vI 1, vI x5], hp S, 0, 0)) rfl ?_
    obtain ⟨z3, S1, e2, F⟩ := F
    refine mv_cals (as := [vI x5, vI 1]) (rest := []) e2 rfl rfl rfl ⟨rfl, rfl, rfl⟩ rfl rfl rfl rfl ?_
    refine ev_bk 2 (S' := (119, [some (.ref a0), some (vI x1), some (vI x2), some (vI x3), some (vI x4), some (vI x5), some (vI x6), some (vI x7), some (vI x8)], [vI 7, vI x6, vI z3], hp S1, 0, 0)) rfl ?_
    obtain ⟨z6, S4, e5, F⟩ := F
    refine mv_cals (as := [vI x6, vI 7]) (rest := [vI z3]) e5 rfl rfl rfl ⟨rfl, rfl, rfl⟩ rfl rfl rfl rfl ?_
    refine mv_iadd rfl ?_
    refine ev_bk 2 (S' := (127, [some (.ref a0), some (vI x1), some (vI x2), some (vI x3), some (vI x4), some (vI x5), some (vI x6), some (vI x7), some (vI x8)], [vI 12, vI x7, vI (z3 + z6)], hp S4, 0, 0)) rfl ?_
    obtain ⟨z9, S7, e8, F⟩ := F
    refine mv_cals (as := [vI x7, vI 12]) (rest := [vI (z3 + z6)]) e8 rfl rfl rfl ⟨rfl, rfl, rfl⟩ rfl rfl rfl rfl ?_
    refine mv_iadd rfl ?_
    refine ev_bk 2 (S' := (135, [some (.ref a0), some (vI x1), some (vI x2), some (vI x3), some (vI x4), some (vI x5), some (vI x6), some (vI x7), some (vI x8)], [vI 18, vI x8, vI (z3 + z6 + z9)], hp S7, 0, 0)) rfl ?_
    obtain ⟨z12, S10, e11, F⟩ := F
    refine mv_cals (as := [vI x8, vI 18]) (rest := [vI (z3 + z6 + z9)]) e11 rfl rfl rfl ⟨rfl, rfl, rfl⟩ rfl rfl rfl rfl ?_
    refine mv_iadd rfl ?_
    refine ev_bk 1 (S' := (141, [some (.ref a0), some (vI x1), some (vI x2), some (vI x3), some (vI (z3 + z6 + z9 + z12)), some (vI x5), some (vI x6), some (vI x7), some (vI x8)], [], hp S10, 0, 0)) rfl ?_
    exact ev_wk (le_s (le_s (le_s (le_s (le_s (le_n (le_n (le_n (le_n le_0))))))))) F
  · have F := F.2 c
    refine ev_bk 4 (S' := (44, [some (.ref a0), some (vI x1), some (vI x2), some (vI x3), some (vI x4), some (vI x5), some (vI x6), some (vI x7), some (vI x8)], [vI x3, vI x1, .ref a0, vI x5], hp S, 0, 0)) rfl ?_
    refine mv_iadd rfl ?_
    obtain ⟨z15, S13, e14, F⟩ := F
    refine mv_cals (as := [.ref a0, vI (x1 + x3)]) (rest := [vI x5]) e14 rfl rfl rfl ⟨rfl, rfl, rfl⟩ rfl rfl rfl rfl ?_
    obtain ⟨z18, S16, e17, F⟩ := F
    refine mv_cals (as := [vI x5, vI z15]) (rest := []) e17 rfl rfl rfl ⟨rfl, rfl, rfl⟩ rfl rfl rfl rfl ?_
    refine ev_bk 5 (S' := (58, [some (.ref a0), some (vI x1), some (vI x2), some (vI x3), some (vI x4), some (vI z18), some (vI x6), some (vI x7), some (vI x8)], [vI x3, vI x1, .ref a0, vI x6], hp S16, 0, 0)) rfl ?_
    refine mv_iadd rfl ?_
    refine ev_bk 1 (S' := (60, [some (.ref a0), some (vI x1), some (vI x2), some (vI x3), some (vI x4), some (vI z18), some (vI x6), some (vI x7), some (vI x8)], [vI 4, vI (x1 + x3), .ref a0, vI x6], hp S16, 0, 0)) rfl ?_
    refine mv_iadd rfl ?_
    obtain ⟨z21, S19, e20, F⟩ := F
    refine mv_cals (as := [.ref a0, vI (x1 + x3 + 4)]) (rest := [vI x6]) e20 rfl rfl rfl ⟨rfl, rfl, rfl⟩ rfl rfl rfl rfl ?_
    obtain ⟨z24, S22, e23, F⟩ := F
    refine mv_cals (as := [vI x6, vI z21]) (rest := []) e23 rfl rfl rfl ⟨rfl, rfl, rfl⟩ rfl rfl rfl rfl ?_
    refine ev_bk 5 (S' := (74, [some (.ref a0), some (vI x1), some (vI x2), some (vI x3), some (vI x4), some (vI z18), some (vI z24), some (vI x7), some (vI x8)], [vI x3, vI x1, .ref a0, vI x7], hp S22, 0, 0)) rfl ?_
    refine mv_iadd rfl ?_
    refine ev_bk 1 (S' := (77, [some (.ref a0), some (vI x1), some (vI x2), some (vI x3), some (vI x4), some (vI z18), some (vI z24), some (vI x7), some (vI x8)], [vI 8, vI (x1 + x3), .ref a0, vI x7], hp S22, 0, 0)) rfl ?_
    refine mv_iadd rfl ?_
    obtain ⟨z27, S25, e26, F⟩ := F
    refine mv_cals (as := [.ref a0, vI (x1 + x3 + 8)]) (rest := [vI x7]) e26 rfl rfl rfl ⟨rfl, rfl, rfl⟩ rfl rfl rfl rfl ?_
    obtain ⟨z30, S28, e29, F⟩ := F
    refine mv_cals (as := [vI x7, vI z27]) (rest := []) e29 rfl rfl rfl ⟨rfl, rfl, rfl⟩ rfl rfl rfl rfl ?_
    refine ev_bk 5 (S' := (91, [some (.ref a0), some (vI x1), some (vI x2), some (vI x3), some (vI x4), some (vI z18), some (vI z24), some (vI z30), some (vI x8)], [vI x3, vI x1, .ref a0, vI x8], hp S28, 0, 0)) rfl ?_
    refine mv_iadd rfl ?_
    refine ev_bk 1 (S' := (94, [some (.ref a0), some (vI x1), some (vI x2), some (vI x3), some (vI x4), some (vI z18), some (vI z24), some (vI z30), some (vI x8)], [vI 12, vI (x1 + x3), .ref a0, vI x8], hp S28, 0, 0)) rfl ?_
    refine mv_iadd rfl ?_
    obtain ⟨z33, S31, e32, F⟩ := F
    refine mv_cals (as := [.ref a0, vI (x1 + x3 + 12)]) (rest := [vI x8]) e32 rfl rfl rfl ⟨rfl, rfl, rfl⟩ rfl rfl rfl rfl ?_
    obtain ⟨z36, S34, e35, F⟩ := F
    refine mv_cals (as := [vI x8, vI z33]) (rest := []) e35 rfl rfl rfl ⟨rfl, rfl, rfl⟩ rfl rfl rfl rfl ?_
    refine ev_bk 1 (S' := (103, [some (.ref a0), some (vI x1), some (vI x2), some (vI x3), some (vI x4), some (vI z18), some (vI z24), some (vI z30), some (vI z36)], [], hp S34, 0, 0)) rfl ?_
    refine mv_inc (lv' := [some (.ref a0), some (vI x1), some (vI x2), some (vI (x3 + 16)), some (vI x4), some (vI z18), some (vI z24), some (vI z30), some (vI z36)]) 3 16 rfl rfl rfl rfl ?_
    refine mv_goto 31 rfl rfl ?_
    exact F
theorem vc_MD_mixed_141 {q : Nat × (Nat → Int32)} {S S' : ms} {r : Option Value} (x1 x2 x3 x4 : Int) (a0 na0 : Nat) (ha0 : SH a0 = (1, na0, []))
    (F : EV q 266 147 [some (.ref a0), some (vI x1), some (vI x2), some (vI x3), some (vI (x4 + x2)), none, none, none, none] [] S r S') : EV q 266 141 [some (.ref a0), some (vI x1), some (vI x2), some (vI x3), some (vI x4), none, none, none, none] [] S r S' := by
  unfold EV
  refine ev_bk 2 (S' := (144, [some (.ref a0), some (vI x1), some (vI x2), some (vI x3), some (vI x4), none, none, none, none], [vI x2, vI x4], hp S, 0, 0)) rfl ?_
  refine mv_iadd rfl ?_
  refine ev_bk 1 (S' := (147, [some (.ref a0), some (vI x1), some (vI x2), some (vI x3), some (vI (x4 + x2)), none, none, none, none], [], hp S, 0, 0)) rfl ?_
  exact F
theorem vc_MD_mixed_147 {q : Nat × (Nat → Int32)} {S S' : ms} {r : Option Value} (x1 x2 x3 x4 : Int) (a0 na0 : Nat) (ha0 : SH a0 = (1, na0, []))
    (F : ((w32 x2 < w32 (x3 + 4)) → EV q 266 185 [some (.ref a0), some (vI x1), some (vI x2), some (vI x3), some (vI x4), none, none, none, none] [] S r S') ∧ ((¬ w32 x2 < w32 (x3 + 4)) → ∃ (z3 : Int) (S1 : ms), EV q 267 0 [some (.ref a0), some (vI (x1 + x3))] [] S (some (vI z3)) S1 ∧ ∃ (z6 : Int) (S4 : ms), EV q 269 0 [some (vI (x4 + (z3 * ((-1028477379))))), some (vI 17)] [] S1 (some (vI z6)) S4 ∧ EV q 266 147 [some (.ref a0), some (vI x1), some (vI x2), some (vI (x3 + 4)), some (vI (z6 * 668265263)), none, none, none, none] [] S4 r S')) : EV q 266 147 [some (.ref a0), some (vI x1), some (vI x2), some (vI x3), some (vI x4), none, none, none, none] [] S r S' := by
  unfold EV
  refine ev_bk 2 (S' := (149, [some (.ref a0), some (vI x1), some (vI x2), some (vI x3), some (vI x4), none, none, none, none], [vI 4, vI x3], hp S, 0, 0)) rfl ?_
  refine mv_iadd rfl ?_
  refine ev_bk 1 (S' := (151, [some (.ref a0), some (vI x1), some (vI x2), some (vI x3), some (vI x4), none, none, none, none], [vI x2, vI (x3 + 4)], hp S, 0, 0)) rfl ?_
  refine mv_icmp 185 rfl rfl (fun c => ?_) (fun c => ?_)
  · have F := F.1 c
    exact F
  · have F := F.2 c
    refine ev_bk 4 (S' := (159, [some (.ref a0), some (vI x1), some (vI x2), some (vI x3), some (vI x4), none, none, none, none], [vI x3, vI x1, .ref a0, vI x4], hp S, 0, 0)) rfl ?_
    refine mv_iadd rfl ?_
    obtain ⟨z3, S1, e2, F⟩ := F
    refine mv_cals (as := [.ref a0, vI (x1 + x3)]) (rest := [vI x4]) e2 rfl rfl rfl ⟨rfl, rfl, rfl⟩ rfl rfl rfl rfl ?_
    refine ev_bk 1 (S' := (166, [some (.ref a0), some (vI x1), some (vI x2), some (vI x3), some (vI x4), none, none, none, none], [vI ((-1028477379)), vI z3, vI x4], hp S1, 0, 0)) rfl ?_
    refine mv_imul rfl ?_
    refine mv_iadd rfl ?_
    refine ev_bk 1 (S' := (170, [some (.ref a0), some (vI x1), some (vI x2), some (vI x3), some (vI x4), none, none, none, none], [vI 17, vI (x4 + (z3 * ((-1028477379))))], hp S1, 0, 0)) rfl ?_
    obtain ⟨z6, S4, e5, F⟩ := F
    refine mv_cals (as := [vI (x4 + (z3 * ((-1028477379)))), vI 17]) (rest := []) e5 rfl rfl rfl ⟨rfl, rfl, rfl⟩ rfl rfl rfl rfl ?_
    refine ev_bk 1 (S' := (176, [some (.ref a0), some (vI x1), some (vI x2), some (vI x3), some (vI x4), none, none, none, none], [vI 668265263, vI z6], hp S4, 0, 0)) rfl ?_
    refine mv_imul rfl ?_
    refine ev_bk 1 (S' := (179, [some (.ref a0), some (vI x1), some (vI x2), some (vI x3), some (vI (z6 * 668265263)), none, none, none, none], [], hp S4, 0, 0)) rfl ?_
    refine mv_inc (lv' := [some (.ref a0), some (vI x1), some (vI x2), some (vI (x3 + 4)), some (vI (z6 * 668265263)), none, none, none, none]) 3 4 rfl rfl rfl rfl ?_
    refine mv_goto 147 rfl rfl ?_
    exact F
theorem vc_MD_mixed_185 {q : Nat × (Nat → Int32)} {S S' : ms} {r : Option Value} (x1 x2 x3 x4 : Int) (a0 na0 : Nat) (ha0 : SH a0 = (1, na0, []))
    (F : ((w32 x2 ≤ w32 x3) → r = some (vI (bX ((bX ((bX x4 (x4 % 4294967296 / 32768)) * ((-2048144777))) (((bX x4 (x4 % 4294967296 / 32768)) * ((-2048144777))) % 4294967296 / 8192)) * ((-1028477379))) (((bX ((bX x4 (x4 % 4294967296 / 32768)) * ((-2048144777))) (((bX x4 (x4 % 4294967296 / 32768)) * ((-2048144777))) % 4294967296 / 8192)) * ((-1028477379))) % 4294967296 / 65536))) ∧ S' = S) ∧ ((¬ w32 x2 ≤ w32 x3) → (0 ≤ w32 (x1 + x3) ∧ w32 (x1 + x3) < (na0 : Nat)) ∧ ∃ (z4 : Int) (S2 : ms), EV q 269 0 [some (vI (x4 + (((S.1 a0 (w32 (x1 + x3))) % 256) * 374761393))), some (vI 11)] [] S (some (vI z4)) S2 ∧ EV q 266 185 [some (.ref a0), some (vI x1), some (vI x2), some (vI (x3 + 1)), some (vI (z4 * ((-1640531535)))), none, none, none, none] [] S2 r S')) : EV q 266 185 [some (.ref a0), some (vI x1), some (vI x2), some (vI x3), some (vI x4), none, none, none, none] [] S r S' := by
  unfold EV
  refine ev_bk 2 (S' := (187, [some (.ref a0), some (vI x1), some (vI x2), some (vI x3), some (vI x4), none, none, none, none], [vI x2, vI x3], hp S, 0, 0)) rfl ?_
  refine mv_icmp 223 rfl rfl (fun c => ?_) (fun c => ?_)
  · have F := F.1 c
    refine ev_bk 3 (S' := (229, [some (.ref a0), some (vI x1), some (vI x2), some (vI x3), some (vI x4), none, none, none, none], [vI 15, vI x4, vI x4], hp S, 0, 0)) rfl ?_
    refine mv_iushr 32768 rfl rfl ?_
    refine mv_ixor rfl ?_
    refine ev_bk 1 (S' := (234, [some (.ref a0), some (vI x1), some (vI x2), some (vI x3), some (vI x4), none, none, none, none], [vI ((-2048144777)), vI (bX x4 (x4 % 4294967296 / 32768))], hp S, 0, 0)) rfl ?_
    refine mv_imul rfl ?_
    refine ev_bk 4 (S' := (243, [some (.ref a0), some (vI x1), some (vI x2), some (vI x3), some (vI ((bX x4 (x4 % 4294967296 / 32768)) * ((-2048144777)))), none, none, none, none], [vI 13, vI ((bX x4 (x4 % 4294967296 / 32768)) * ((-2048144777))), vI ((bX x4 (x4 % 4294967296 / 32768)) * ((-2048144777)))], hp S, 0, 0)) rfl ?_
    refine mv_iushr 8192 rfl rfl ?_
    refine mv_ixor rfl ?_
    refine ev_bk 1 (S' := (248, [some (.ref a0), some (vI x1), some (vI x2), some (vI x3), some (vI ((bX x4 (x4 % 4294967296 / 32768)) * ((-2048144777)))), none, none, none, none], [vI ((-1028477379)), vI (bX ((bX x4 (x4 % 4294967296 / 32768)) * ((-2048144777))) (((bX x4 (x4 % 4294967296 / 32768)) * ((-2048144777))) % 4294967296 / 8192))], hp S, 0, 0)) rfl ?_
    refine mv_imul rfl ?_
    refine ev_bk 4 (S' := (257, [some (.ref a0), some (vI x1), some (vI x2), some (vI x3), some (vI ((bX ((bX x4 (x4 % 4294967296 / 32768)) * ((-2048144777))) (((bX x4 (x4 % 4294967296 / 32768)) * ((-2048144777))) % 4294967296 / 8192)) * ((-1028477379)))), none, none, none, none], [vI 16, vI ((bX ((bX x4 (x4 % 4294967296 / 32768)) * ((-2048144777))) (((bX x4 (x4 % 4294967296 / 32768)) * ((-2048144777))) % 4294967296 / 8192)) * ((-1028477379))), vI ((bX ((bX x4 (x4 % 4294967296 / 32768)) * ((-2048144777))) (((bX x4 (x4 % 4294967296 / 32768)) * ((-2048144777))) % 4294967296 / 8192)) * ((-1028477379)))], hp S, 0, 0)) rfl ?_
    refine mv_iushr 65536 rfl rfl ?_
    refine mv_ixor rfl ?_
    obtain ⟨rfl, rfl⟩ := F
    exact ev_ret rfl rfl
  · have F := F.2 c
    refine ev_bk 4 (S' := (195, [some (.ref a0), some (vI x1), some (vI x2), some (vI x3), some (vI x4), none, none, none, none], [vI x3, vI x1, .ref a0, vI x4], hp S, 0, 0)) rfl ?_
    refine mv_iadd rfl ?_
    obtain ⟨b1, F⟩ := F
    refine mv_bal rfl (ha0) b1 ?_
    refine ev_bk 1 (S' := (200, [some (.ref a0), some (vI x1), some (vI x2), some (vI x3), some (vI x4), none, none, none, none], [vI 255, vI (S.1 a0 (w32 (x1 + x3))), vI x4], hp S, 0, 0)) rfl ?_
    refine mv_iandm 256 8 (by decide) rfl rfl rfl ?_
    refine ev_bk 1 (S' := (204, [some (.ref a0), some (vI x1), some (vI x2), some (vI x3), some (vI x4), none, none, none, none], [vI 374761393, vI ((S.1 a0 (w32 (x1 + x3))) % 256), vI x4], hp S, 0, 0)) rfl ?_
    refine mv_imul rfl ?_
    refine mv_iadd rfl ?_
    refine ev_bk 1 (S' := (208, [some (.ref a0), some (vI x1), some (vI x2), some (vI x3), some (vI x4), none, none, none, none], [vI 11, vI (x4 + (((S.1 a0 (w32 (x1 + x3))) % 256) * 374761393))], hp S, 0, 0)) rfl ?_
    obtain ⟨z4, S2, e3, F⟩ := F
    refine mv_cals (as := [vI (x4 + (((S.1 a0 (w32 (x1 + x3))) % 256) * 374761393)), vI 11]) (rest := []) e3 rfl rfl rfl ⟨rfl, rfl, rfl⟩ rfl rfl rfl rfl ?_
    refine ev_bk 1 (S' := (214, [some (.ref a0), some (vI x1), some (vI x2), some (vI x3), some (vI x4), none, none, none, none], [vI ((-1640531535)), vI z4], hp S2, 0, 0)) rfl ?_
    refine mv_imul rfl ?_
    refine ev_bk 1 (S' := (217, [some (.ref a0), some (vI x1), some (vI x2), some (vI x3), some (vI (z4 * ((-1640531535)))), none, none, none, none], [], hp S2, 0, 0)) rfl ?_
    refine mv_inc (lv' := [some (.ref a0), some (vI x1), some (vI x2), some (vI (x3 + 1)), some (vI (z4 * ((-1640531535)))), none, none, none, none]) 3 1 rfl rfl rfl rfl ?_
    refine mv_goto 185 rfl rfl ?_
    exact F
theorem vc_MD_four {q : Nat × (Nat → Int32)} {S S' : ms} {r : Option Value} (x1 : Int) (a0 na0 : Nat) (ha0 : SH a0 = (1, na0, []))
    (F : (0 ≤ w32 x1 ∧ w32 x1 < (na0 : Nat)) ∧ (0 ≤ w32 (x1 + 1) ∧ w32 (x1 + 1) < (na0 : Nat)) ∧ (0 ≤ w32 (x1 + 2) ∧ w32 (x1 + 2) < (na0 : Nat)) ∧ (0 ≤ w32 (x1 + 3) ∧ w32 (x1 + 3) < (na0 : Nat)) ∧ r = some (vI (bO (bO (bO ((S.1 a0 (w32 x1)) % 256) (((S.1 a0 (w32 (x1 + 1))) % 256) * 256)) (((S.1 a0 (w32 (x1 + 2))) % 256) * 65536)) ((S.1 a0 (w32 (x1 + 3))) * 16777216))) ∧ S' = S) : EV q 267 0 [some (.ref a0), some (vI x1)] [] S r S' := by
  unfold EV
  refine ev_bk 2 (S' := (2, [some (.ref a0), some (vI x1)], [vI x1, .ref a0], hp S, 0, 0)) rfl ?_
  obtain ⟨b1, F⟩ := F
  refine mv_bal rfl (ha0) b1 ?_
  refine ev_bk 1 (S' := (6, [some (.ref a0), some (vI x1)], [vI 255, vI (S.1 a0 (w32 x1))], hp S, 0, 0)) rfl ?_
  refine mv_iandm 256 8 (by decide) rfl rfl rfl ?_
  refine ev_bk 3 (S' := (10, [some (.ref a0), some (vI x1)], [vI 1, vI x1, .ref a0, vI ((S.1 a0 (w32 x1)) % 256)], hp S, 0, 0)) rfl ?_
  refine mv_iadd rfl ?_
  obtain ⟨b2, F⟩ := F
  refine mv_bal rfl (ha0) b2 ?_
  refine ev_bk 1 (S' := (15, [some (.ref a0), some (vI x1)], [vI 255, vI (S.1 a0 (w32 (x1 + 1))), vI ((S.1 a0 (w32 x1)) % 256)], hp S, 0, 0)) rfl ?_
  refine mv_iandm 256 8 (by decide) rfl rfl rfl ?_
  refine ev_bk 1 (S' := (18, [some (.ref a0), some (vI x1)], [vI 8, vI ((S.1 a0 (w32 (x1 + 1))) % 256), vI ((S.1 a0 (w32 x1)) % 256)], hp S, 0, 0)) rfl ?_
  refine mv_ishl 256 rfl rfl ?_
  refine mv_ior rfl ?_
  refine ev_bk 3 (S' := (23, [some (.ref a0), some (vI x1)], [vI 2, vI x1, .ref a0, vI (bO ((S.1 a0 (w32 x1)) % 256) (((S.1 a0 (w32 (x1 + 1))) % 256) * 256))], hp S, 0, 0)) rfl ?_
  refine mv_iadd rfl ?_
  obtain ⟨b3, F⟩ := F
  refine mv_bal rfl (ha0) b3 ?_
  refine ev_bk 1 (S' := (28, [some (.ref a0), some (vI x1)], [vI 255, vI (S.1 a0 (w32 (x1 + 2))), vI (bO ((S.1 a0 (w32 x1)) % 256) (((S.1 a0 (w32 (x1 + 1))) % 256) * 256))], hp S, 0, 0)) rfl ?_
  refine mv_iandm 256 8 (by decide) rfl rfl rfl ?_
  refine ev_bk 1 (S' := (31, [some (.ref a0), some (vI x1)], [vI 16, vI ((S.1 a0 (w32 (x1 + 2))) % 256), vI (bO ((S.1 a0 (w32 x1)) % 256) (((S.1 a0 (w32 (x1 + 1))) % 256) * 256))], hp S, 0, 0)) rfl ?_
  refine mv_ishl 65536 rfl rfl ?_
  refine mv_ior rfl ?_
  refine ev_bk 3 (S' := (36, [some (.ref a0), some (vI x1)], [vI 3, vI x1, .ref a0, vI (bO (bO ((S.1 a0 (w32 x1)) % 256) (((S.1 a0 (w32 (x1 + 1))) % 256) * 256)) (((S.1 a0 (w32 (x1 + 2))) % 256) * 65536))], hp S, 0, 0)) rfl ?_
  refine mv_iadd rfl ?_
  obtain ⟨b4, F⟩ := F
  refine mv_bal rfl (ha0) b4 ?_
  refine ev_bk 1 (S' := (40, [some (.ref a0), some (vI x1)], [vI 24, vI (S.1 a0 (w32 (x1 + 3))), vI (bO (bO ((S.1 a0 (w32 x1)) % 256) (((S.1 a0 (w32 (x1 + 1))) % 256) * 256)) (((S.1 a0 (w32 (x1 + 2))) % 256) * 65536))], hp S, 0, 0)) rfl ?_
  refine mv_ishl 16777216 rfl rfl ?_
  refine mv_ior rfl ?_
  obtain ⟨rfl, rfl⟩ := F
  exact ev_ret rfl rfl
theorem vc_MD_lane {q : Nat × (Nat → Int32)} {S S' : ms} {r : Option Value} (x0 x1 : Int)
    (F : ∃ (z3 : Int) (S1 : ms), EV q 269 0 [some (vI (x0 + (x1 * ((-2048144777))))), some (vI 13)] [] S (some (vI z3)) S1 ∧ r = some (vI (z3 * ((-1640531535)))) ∧ S' = S1) : EV q 268 0 [some (vI x0), some (vI x1)] [] S r S' := by
  unfold EV
  refine ev_bk 3 (S' := (5, [some (vI x0), some (vI x1)], [vI ((-2048144777)), vI x1, vI x0], hp S, 0, 0)) rfl ?_
  refine mv_imul rfl ?_
  refine mv_iadd rfl ?_
  refine ev_bk 1 (S' := (9, [some (vI x0), some (vI x1)], [vI 13, vI (x0 + (x1 * ((-2048144777))))], hp S, 0, 0)) rfl ?_
  obtain ⟨z3, S1, e2, F⟩ := F
  refine mv_cals (as := [vI (x0 + (x1 * ((-2048144777)))), vI 13]) (rest := []) e2 rfl rfl rfl ⟨rfl, rfl, rfl⟩ rfl rfl rfl rfl ?_
  refine ev_bk 1 (S' := (15, [some (vI x0), some (vI x1)], [vI ((-1640531535)), vI z3], hp S1, 0, 0)) rfl ?_
  refine mv_imul rfl ?_
  obtain ⟨rfl, rfl⟩ := F
  exact ev_ret rfl rfl
theorem vc_MD_rotated {q : Nat × (Nat → Int32)} {S S' : ms} {r : Option Value} (x0 x1 : Int)
    (F : r = some (vI (bO (x0 * ((2 : Int) ^ (x1 % 32).toNat)) (x0 % 4294967296 / ((2 : Int) ^ ((32 - x1) % 32).toNat)))) ∧ S' = S) : EV q 269 0 [some (vI x0), some (vI x1)] [] S r S' := by
  unfold EV
  refine ev_bk 2 (S' := (2, [some (vI x0), some (vI x1)], [vI x1, vI x0], hp S, 0, 0)) rfl ?_
  refine mv_ishl ((2 : Int) ^ (x1 % 32).toNat) rfl rfl ?_
  refine ev_bk 3 (S' := (7, [some (vI x0), some (vI x1)], [vI x1, vI 32, vI x0, vI (x0 * ((2 : Int) ^ (x1 % 32).toNat))], hp S, 0, 0)) rfl ?_
  refine mv_isub rfl ?_
  refine mv_iushr ((2 : Int) ^ ((32 - x1) % 32).toNat) rfl rfl ?_
  refine mv_ior rfl ?_
  obtain ⟨rfl, rfl⟩ := F
  exact ev_ret rfl rfl
theorem vc_MD_length {q : Nat × (Nat → Int32)} {S S' : ms} {r : Option Value} (x1 : Int)
    (F : ∀ S1 : ms, S1 = wI S 367 0 0 → ∃ (z4 : Int) (S2 : ms), EV q 271 0 [some (.ref 367), some (vI x1)] [] S1 (some (vI z4)) S2 ∧ ((w32 z4 = 0) → (0 ≤ w32 x1 ∧ w32 x1 < (13 : Nat)) ∧ r = some (vI (S2.1 370 (w32 x1))) ∧ S' = S2) ∧ ((¬ w32 z4 = 0) → r = some (vI ((-1))) ∧ S' = S2)) : EV q 270 0 [some (.ref 367), some (vI x1)] [] S r S' := by
  unfold EV
  refine ev_bk 2 (S' := (2, [some (.ref 367), some (vI x1)], [vI 0, .ref 367], hp S, 0, 0)) rfl ?_
  refine mv_pfI rfl rfl (sh_367) (by decide) rfl rfl ?_
  have F := F _ rfl
  refine ev_bk 2 (S' := (7, [some (.ref 367), some (vI x1)], [vI x1, .ref 367], hp (wI S 367 0 0), 0, 0)) rfl ?_
  obtain ⟨z4, S2, e3, F⟩ := F
  refine mv_calv (as := [vI x1]) (rest := []) e3 (sh_367) rfl rfl rfl ⟨rfl, rfl⟩ rfl rfl rfl rfl rfl ?_
  refine mv_if 17 rfl rfl (fun c => ?_) (fun c => ?_)
  · have F := F.1 c
    refine ev_bk 1 (S' := (18, [some (.ref 367), some (vI x1)], [.ref 367], hp S2, 0, 0)) rfl ?_
    refine mv_gfR rfl rfl (sh_367) (by decide) rfl ?_
    refine ev_bk 1 (S' := (22, [some (.ref 367), some (vI x1)], [vI x1, .ref 370], hp S2, 0, 0)) rfl ?_
    obtain ⟨b5, F⟩ := F
    refine mv_ial rfl (sh_370) b5 ?_
    obtain ⟨rfl, rfl⟩ := F
    exact ev_ret rfl rfl
  · have F := F.2 c
    refine ev_bk 1 (S' := (14, [some (.ref 367), some (vI x1)], [vI ((-1))], hp S2, 0, 0)) rfl ?_
    refine mv_goto 23 rfl rfl ?_
    obtain ⟨rfl, rfl⟩ := F
    exact ev_ret rfl rfl
theorem vc_MD_noStream {q : Nat × (Nat → Int32)} {S S' : ms} {r : Option Value} (x1 : Int)
    (F : ∃ (z3 : Int) (S1 : ms), EV q 257 0 [some (vI x1), some (vI 1), some (vI 12)] [] S (some (vI z3)) S1 ∧ ((w32 z3 = 0) → EV q 271 19 [some (.ref 367), some (vI x1)] [] S1 r S') ∧ ((¬ w32 z3 = 0) → (0 ≤ w32 x1 ∧ w32 x1 < (13 : Nat)) ∧ ((¬ w32 (S1.1 371 (w32 x1)) = 0) → r = some (vI 0) ∧ S' = S1) ∧ ((¬ (¬ w32 (S1.1 371 (w32 x1)) = 0)) → EV q 271 19 [some (.ref 367), some (vI x1)] [] S1 r S'))) : EV q 271 0 [some (.ref 367), some (vI x1)] [] S r S' := by
  unfold EV
  refine ev_bk 3 (S' := (4, [some (.ref 367), some (vI x1)], [vI 12, vI 1, vI x1], hp S, 0, 0)) rfl ?_
  obtain ⟨z3, S1, e2, F⟩ := F
  refine mv_cals (as := [vI x1, vI 1, vI 12]) (rest := []) e2 rfl rfl rfl ⟨rfl, rfl, rfl⟩ rfl rfl rfl rfl ?_
  refine mv_if 19 rfl rfl (fun c => ?_) (fun c => ?_)
  · have F := F.1 c
    exact F
  · have F := F.2 c
    refine ev_bk 1 (S' := (11, [some (.ref 367), some (vI x1)], [.ref 367], hp S1, 0, 0)) rfl ?_
    refine mv_gfR rfl rfl (sh_367) (by decide) rfl ?_
    refine ev_bk 1 (S' := (15, [some (.ref 367), some (vI x1)], [vI x1, .ref 371], hp S1, 0, 0)) rfl ?_
    obtain ⟨b4, F⟩ := F
    refine mv_zal rfl (sh_371) b4 ?_
    refine mv_if 23 rfl rfl (fun c => ?_) (fun c => ?_)
    · have F := F.1 c
      refine ev_bk 1 (S' := (24, [some (.ref 367), some (vI x1)], [vI 0], hp S1, 0, 0)) rfl ?_
      obtain ⟨rfl, rfl⟩ := F
      exact ev_ret rfl rfl
    · have F := F.2 c
      exact F
theorem vc_MD_noStream_19 {q : Nat × (Nat → Int32)} {S S' : ms} {r : Option Value} (x1 : Int)
    (F : r = some (vI 1) ∧ S' = S) : EV q 271 19 [some (.ref 367), some (vI x1)] [] S r S' := by
  unfold EV
  refine ev_bk 1 (S' := (20, [some (.ref 367), some (vI x1)], [vI 1], hp S, 0, 0)) rfl ?_
  refine mv_goto 24 rfl rfl ?_
  obtain ⟨rfl, rfl⟩ := F
  exact ev_ret rfl rfl
theorem vc_MD_at {q : Nat × (Nat → Int32)} {S S' : ms} {r : Option Value} (x1 x2 : Int)
    (F : ∀ S1 : ms, S1 = wI S 367 0 0 → ∃ (z4 : Int) (S2 : ms), EV q 271 0 [some (.ref 367), some (vI x1)] [] S1 (some (vI z4)) S2 ∧ ((¬ w32 z4 = 0) → EV q 272 27 [some (.ref 367), some (vI x1), some (vI x2)] [] S2 r S') ∧ ((¬ (¬ w32 z4 = 0)) → ((w32 x2 < 0) → EV q 272 27 [some (.ref 367), some (vI x1), some (vI x2)] [] S2 r S') ∧ ((¬ w32 x2 < 0) → (0 ≤ w32 x1 ∧ w32 x1 < (13 : Nat)) ∧ ((w32 x2 < w32 (S2.1 370 (w32 x1))) → (0 ≤ w32 ((12000 * x1) + x2) ∧ w32 ((12000 * x1) + x2) < (156000 : Nat)) ∧ r = some (vI ((S2.1 369 (w32 ((12000 * x1) + x2))) % 256)) ∧ S' = S2) ∧ ((¬ w32 x2 < w32 (S2.1 370 (w32 x1))) → EV q 272 27 [some (.ref 367), some (vI x1), some (vI x2)] [] S2 r S')))) : EV q 272 0 [some (.ref 367), some (vI x1), some (vI x2)] [] S r S' := by
  unfold EV
  refine ev_bk 2 (S' := (2, [some (.ref 367), some (vI x1), some (vI x2)], [vI 0, .ref 367], hp S, 0, 0)) rfl ?_
  refine mv_pfI rfl rfl (sh_367) (by decide) rfl rfl ?_
  have F := F _ rfl
  refine ev_bk 2 (S' := (7, [some (.ref 367), some (vI x1), some (vI x2)], [vI x1, .ref 367], hp (wI S 367 0 0), 0, 0)) rfl ?_
  obtain ⟨z4, S2, e3, F⟩ := F
  refine mv_calv (as := [vI x1]) (rest := []) e3 (sh_367) rfl rfl rfl ⟨rfl, rfl⟩ rfl rfl rfl rfl rfl ?_
  refine mv_if 27 rfl rfl (fun c => ?_) (fun c => ?_)
  · have F := F.1 c
    exact F
  · have F := F.2 c
    refine ev_bk 1 (S' := (14, [some (.ref 367), some (vI x1), some (vI x2)], [vI x2], hp S2, 0, 0)) rfl ?_
    refine mv_if 27 rfl rfl (fun c => ?_) (fun c => ?_)
    · have F := F.1 c
      exact F
    · have F := F.2 c
      refine ev_bk 2 (S' := (19, [some (.ref 367), some (vI x1), some (vI x2)], [.ref 367, vI x2], hp S2, 0, 0)) rfl ?_
      refine mv_gfR rfl rfl (sh_367) (by decide) rfl ?_
      refine ev_bk 1 (S' := (23, [some (.ref 367), some (vI x1), some (vI x2)], [vI x1, .ref 370, vI x2], hp S2, 0, 0)) rfl ?_
      obtain ⟨b5, F⟩ := F
      refine mv_ial rfl (sh_370) b5 ?_
      refine mv_icmp 31 rfl rfl (fun c => ?_) (fun c => ?_)
      · have F := F.1 c
        refine ev_bk 1 (S' := (32, [some (.ref 367), some (vI x1), some (vI x2)], [.ref 367], hp S2, 0, 0)) rfl ?_
        refine mv_gfR rfl rfl (sh_367) (by decide) rfl ?_
        refine ev_bk 2 (S' := (39, [some (.ref 367), some (vI x1), some (vI x2)], [vI x1, vI 12000, .ref 369], hp S2, 0, 0)) rfl ?_
        refine mv_imul rfl ?_
        refine ev_bk 1 (S' := (41, [some (.ref 367), some (vI x1), some (vI x2)], [vI x2, vI (12000 * x1), .ref 369], hp S2, 0, 0)) rfl ?_
        refine mv_iadd rfl ?_
        obtain ⟨b6, F⟩ := F
        refine mv_bal rfl (sh_369) b6 ?_
        refine ev_bk 1 (S' := (46, [some (.ref 367), some (vI x1), some (vI x2)], [vI 255, vI (S2.1 369 (w32 ((12000 * x1) + x2)))], hp S2, 0, 0)) rfl ?_
        refine mv_iandm 256 8 (by decide) rfl rfl rfl ?_
        obtain ⟨rfl, rfl⟩ := F
        exact ev_ret rfl rfl
      · have F := F.2 c
        exact F
theorem vc_MD_at_27 {q : Nat × (Nat → Int32)} {S S' : ms} {r : Option Value} (x1 x2 : Int)
    (F : r = some (vI ((-1))) ∧ S' = S) : EV q 272 27 [some (.ref 367), some (vI x1), some (vI x2)] [] S r S' := by
  unfold EV
  refine ev_bk 1 (S' := (28, [some (.ref 367), some (vI x1), some (vI x2)], [vI ((-1))], hp S, 0, 0)) rfl ?_
  refine mv_goto 47 rfl rfl ?_
  obtain ⟨rfl, rfl⟩ := F
  exact ev_ret rfl rfl
theorem vc_MD_load {q : Nat × (Nat → Int32)} {S S' : ms} {r : Option Value} (x1 : Int)
    (F : ∀ S1 : ms, S1 = wI S 367 0 0 → ∃ (z4 : Int) (S2 : ms), EV q 271 0 [some (.ref 367), some (vI x1)] [] S1 (some (vI z4)) S2 ∧ ((w32 z4 = 0) → (0 ≤ w32 x1 ∧ w32 x1 < (13 : Nat)) ∧ ((w32 (S2.1 370 (w32 x1)) ≤ 6000) → (0 ≤ w32 x1 ∧ w32 x1 < (13 : Nat)) ∧ ∀ S7 : ms, S7 = wI S2 367 2 (S2.1 370 (w32 x1)) → EV q 273 42 [some (.ref 367), some (vI x1), some (vI 0)] [] S7 r S') ∧ ((¬ w32 (S2.1 370 (w32 x1)) ≤ 6000) → r = some (vI ((-4))) ∧ S' = S2)) ∧ ((¬ w32 z4 = 0) → r = some (vI ((-1))) ∧ S' = S2)) : EV q 273 0 [some (.ref 367), some (vI x1), none] [] S r S' := by
  unfold EV
  refine ev_bk 2 (S' := (2, [some (.ref 367), some (vI x1), none], [vI 0, .ref 367], hp S, 0, 0)) rfl ?_
  refine mv_pfI rfl rfl (sh_367) (by decide) rfl rfl ?_
  have F := F _ rfl
  refine ev_bk 2 (S' := (7, [some (.ref 367), some (vI x1), none], [vI x1, .ref 367], hp (wI S 367 0 0), 0, 0)) rfl ?_
  obtain ⟨z4, S2, e3, F⟩ := F
  refine mv_calv (as := [vI x1]) (rest := []) e3 (sh_367) rfl rfl rfl ⟨rfl, rfl⟩ rfl rfl rfl rfl rfl ?_
  refine mv_if 15 rfl rfl (fun c => ?_) (fun c => ?_)
  · have F := F.1 c
    refine ev_bk 1 (S' := (16, [some (.ref 367), some (vI x1), none], [.ref 367], hp S2, 0, 0)) rfl ?_
    refine mv_gfR rfl rfl (sh_367) (by decide) rfl ?_
    refine ev_bk 1 (S' := (20, [some (.ref 367), some (vI x1), none], [vI x1, .ref 370], hp S2, 0, 0)) rfl ?_
    obtain ⟨b5, F⟩ := F
    refine mv_ial rfl (sh_370) b5 ?_
    refine ev_bk 1 (S' := (24, [some (.ref 367), some (vI x1), none], [vI 6000, vI (S2.1 370 (w32 x1))], hp S2, 0, 0)) rfl ?_
    refine mv_icmp 30 rfl rfl (fun c => ?_) (fun c => ?_)
    · have F := F.1 c
      refine ev_bk 2 (S' := (32, [some (.ref 367), some (vI x1), none], [.ref 367, .ref 367], hp S2, 0, 0)) rfl ?_
      refine mv_gfR rfl rfl (sh_367) (by decide) rfl ?_
      refine ev_bk 1 (S' := (36, [some (.ref 367), some (vI x1), none], [vI x1, .ref 370, .ref 367], hp S2, 0, 0)) rfl ?_
      obtain ⟨b6, F⟩ := F
      refine mv_ial rfl (sh_370) b6 ?_
      refine mv_pfI rfl rfl (sh_367) (by decide) rfl rfl ?_
      have F := F _ rfl
      refine ev_bk 2 (S' := (42, [some (.ref 367), some (vI x1), some (vI 0)], [], hp (wI S2 367 2 (S2.1 370 (w32 x1))), 0, 0)) rfl ?_
      exact F
    · have F := F.2 c
      refine ev_bk 1 (S' := (29, [some (.ref 367), some (vI x1), none], [vI ((-4))], hp S2, 0, 0)) rfl ?_
      obtain ⟨rfl, rfl⟩ := F
      exact ev_ret rfl rfl
  · have F := F.2 c
    refine ev_bk 1 (S' := (14, [some (.ref 367), some (vI x1), none], [vI ((-1))], hp S2, 0, 0)) rfl ?_
    obtain ⟨rfl, rfl⟩ := F
    exact ev_ret rfl rfl
theorem vc_MD_load_42 {q : Nat × (Nat → Int32)} {S S' : ms} {r : Option Value} (x1 x2 : Int)
    (F : ((w32 (S.1 367 2) ≤ w32 x2) → r = some (vI (S.1 367 2)) ∧ S' = S) ∧ ((¬ w32 (S.1 367 2) ≤ w32 x2) → (0 ≤ w32 ((12000 * x1) + x2) ∧ w32 ((12000 * x1) + x2) < (156000 : Nat)) ∧ (0 ≤ w32 x2 ∧ w32 x2 < (6000 : Nat)) ∧ ∀ S3 : ms, S3 = wI S 368 (w32 x2) (b8 (S.1 369 (w32 ((12000 * x1) + x2)))) → EV q 273 42 [some (.ref 367), some (vI x1), some (vI (x2 + 1))] [] S3 r S')) : EV q 273 42 [some (.ref 367), some (vI x1), some (vI x2)] [] S r S' := by
  unfold EV
  refine ev_bk 2 (S' := (44, [some (.ref 367), some (vI x1), some (vI x2)], [.ref 367, vI x2], hp S, 0, 0)) rfl ?_
  refine mv_gfI rfl rfl (sh_367) (by decide) rfl ?_
  refine mv_icmp 74 rfl rfl (fun c => ?_) (fun c => ?_)
  · have F := F.1 c
    refine ev_bk 1 (S' := (75, [some (.ref 367), some (vI x1), some (vI x2)], [.ref 367], hp S, 0, 0)) rfl ?_
    refine mv_gfI rfl rfl (sh_367) (by decide) rfl ?_
    obtain ⟨rfl, rfl⟩ := F
    exact ev_ret rfl rfl
  · have F := F.2 c
    refine ev_bk 1 (S' := (51, [some (.ref 367), some (vI x1), some (vI x2)], [.ref 367], hp S, 0, 0)) rfl ?_
    refine mv_gfR rfl rfl (sh_367) (by decide) rfl ?_
    refine ev_bk 2 (S' := (56, [some (.ref 367), some (vI x1), some (vI x2)], [.ref 367, vI x2, .ref 368], hp S, 0, 0)) rfl ?_
    refine mv_gfR rfl rfl (sh_367) (by decide) rfl ?_
    refine ev_bk 2 (S' := (63, [some (.ref 367), some (vI x1), some (vI x2)], [vI x1, vI 12000, .ref 369, vI x2, .ref 368], hp S, 0, 0)) rfl ?_
    refine mv_imul rfl ?_
    refine ev_bk 1 (S' := (65, [some (.ref 367), some (vI x1), some (vI x2)], [vI x2, vI (12000 * x1), .ref 369, vI x2, .ref 368], hp S, 0, 0)) rfl ?_
    refine mv_iadd rfl ?_
    obtain ⟨b1, F⟩ := F
    refine mv_bal rfl (sh_369) b1 ?_
    obtain ⟨b2, F⟩ := F
    refine mv_bas rfl (sh_368) b2 ?_
    have F := F _ rfl
    refine mv_inc (lv' := [some (.ref 367), some (vI x1), some (vI (x2 + 1))]) 2 1 rfl rfl rfl rfl ?_
    refine mv_goto 42 rfl rfl ?_
    exact F
theorem vc_MD_drop {q : Nat × (Nat → Int32)} {S S' : ms} {r : Option Value} (x1 : Int)
    (F : ∀ S1 : ms, S1 = wI S 367 0 0 → ∃ (z4 : Int) (S2 : ms), EV q 271 0 [some (.ref 367), some (vI x1)] [] S1 (some (vI z4)) S2 ∧ ((w32 z4 = 0) → (0 ≤ w32 x1 ∧ w32 x1 < (13 : Nat)) ∧ ∀ S6 : ms, S6 = wI S2 371 (w32 x1) (0 % 2) → (0 ≤ w32 x1 ∧ w32 x1 < (13 : Nat)) ∧ r = some (vI (S6.1 370 (w32 x1))) ∧ S' = S6) ∧ ((¬ w32 z4 = 0) → r = some (vI ((-1))) ∧ S' = S2)) : EV q 274 0 [some (.ref 367), some (vI x1)] [] S r S' := by
  unfold EV
  refine ev_bk 2 (S' := (2, [some (.ref 367), some (vI x1)], [vI 0, .ref 367], hp S, 0, 0)) rfl ?_
  refine mv_pfI rfl rfl (sh_367) (by decide) rfl rfl ?_
  have F := F _ rfl
  refine ev_bk 2 (S' := (7, [some (.ref 367), some (vI x1)], [vI x1, .ref 367], hp (wI S 367 0 0), 0, 0)) rfl ?_
  obtain ⟨z4, S2, e3, F⟩ := F
  refine mv_calv (as := [vI x1]) (rest := []) e3 (sh_367) rfl rfl rfl ⟨rfl, rfl⟩ rfl rfl rfl rfl rfl ?_
  refine mv_if 15 rfl rfl (fun c => ?_) (fun c => ?_)
  · have F := F.1 c
    refine ev_bk 1 (S' := (16, [some (.ref 367), some (vI x1)], [.ref 367], hp S2, 0, 0)) rfl ?_
    refine mv_gfR rfl rfl (sh_367) (by decide) rfl ?_
    refine ev_bk 2 (S' := (21, [some (.ref 367), some (vI x1)], [vI 0, vI x1, .ref 371], hp S2, 0, 0)) rfl ?_
    obtain ⟨b5, F⟩ := F
    refine mv_zas rfl (sh_371) b5 ?_
    have F := F _ rfl
    refine ev_bk 1 (S' := (23, [some (.ref 367), some (vI x1)], [.ref 367], hp (wI S2 371 (w32 x1) (0 % 2)), 0, 0)) rfl ?_
    refine mv_gfR rfl rfl (sh_367) (by decide) rfl ?_
    refine ev_bk 1 (S' := (27, [some (.ref 367), some (vI x1)], [vI x1, .ref 370], hp (wI S2 371 (w32 x1) (0 % 2)), 0, 0)) rfl ?_
    obtain ⟨b7, F⟩ := F
    refine mv_ial rfl (sh_370) b7 ?_
    obtain ⟨rfl, rfl⟩ := F
    exact ev_ret rfl rfl
  · have F := F.2 c
    refine ev_bk 1 (S' := (14, [some (.ref 367), some (vI x1)], [vI ((-1))], hp S2, 0, 0)) rfl ?_
    obtain ⟨rfl, rfl⟩ := F
    exact ev_ret rfl rfl
theorem vc_MD_differ {q : Nat × (Nat → Int32)} {S S' : ms} {r : Option Value} (x1 x2 : Int)
    (F : ∀ S1 : ms, S1 = wI S 367 0 0 → ∃ (z4 : Int) (S2 : ms), EV q 271 0 [some (.ref 367), some (vI x1)] [] S1 (some (vI z4)) S2 ∧ ((¬ w32 z4 = 0) → r = some (vI ((-1))) ∧ S' = S2) ∧ ((¬ (¬ w32 z4 = 0)) → ∃ (z7 : Int) (S5 : ms), EV q 271 0 [some (.ref 367), some (vI x2)] [] S2 (some (vI z7)) S5 ∧ ((w32 z7 = 0) → EV q 275 25 [some (.ref 367), some (vI x1), some (vI x2), some (vI 0)] [] S5 r S') ∧ ((¬ w32 z7 = 0) → r = some (vI ((-1))) ∧ S' = S5))) : EV q 275 0 [some (.ref 367), some (vI x1), some (vI x2), none] [] S r S' := by
  unfold EV
  refine ev_bk 2 (S' := (2, [some (.ref 367), some (vI x1), some (vI x2), none], [vI 0, .ref 367], hp S, 0, 0)) rfl ?_
  refine mv_pfI rfl rfl (sh_367) (by decide) rfl rfl ?_
  have F := F _ rfl
  refine ev_bk 2 (S' := (7, [some (.ref 367), some (vI x1), some (vI x2), none], [vI x1, .ref 367], hp (wI S 367 0 0), 0, 0)) rfl ?_
  obtain ⟨z4, S2, e3, F⟩ := F
  refine mv_calv (as := [vI x1]) (rest := []) e3 (sh_367) rfl rfl rfl ⟨rfl, rfl⟩ rfl rfl rfl rfl rfl ?_
  refine mv_if 21 rfl rfl (fun c => ?_) (fun c => ?_)
  · have F := F.1 c
    refine ev_bk 1 (S' := (22, [some (.ref 367), some (vI x1), some (vI x2), none], [vI ((-1))], hp S2, 0, 0)) rfl ?_
    obtain ⟨rfl, rfl⟩ := F
    exact ev_ret rfl rfl
  · have F := F.2 c
    refine ev_bk 2 (S' := (15, [some (.ref 367), some (vI x1), some (vI x2), none], [vI x2, .ref 367], hp S2, 0, 0)) rfl ?_
    obtain ⟨z7, S5, e6, F⟩ := F
    refine mv_calv (as := [vI x2]) (rest := []) e6 (sh_367) rfl rfl rfl ⟨rfl, rfl⟩ rfl rfl rfl rfl rfl ?_
    refine mv_if 23 rfl rfl (fun c => ?_) (fun c => ?_)
    · have F := F.1 c
      refine ev_bk 2 (S' := (25, [some (.ref 367), some (vI x1), some (vI x2), some (vI 0)], [], hp S5, 0, 0)) rfl ?_
      exact F
    · have F := F.2 c
      refine ev_bk 1 (S' := (22, [some (.ref 367), some (vI x1), some (vI x2), none], [vI ((-1))], hp S5, 0, 0)) rfl ?_
      obtain ⟨rfl, rfl⟩ := F
      exact ev_ret rfl rfl
theorem vc_MD_differ_25 {q : Nat × (Nat → Int32)} {S S' : ms} {r : Option Value} (x1 x2 x3 : Int)
    (F : (0 ≤ w32 x1 ∧ w32 x1 < (13 : Nat)) ∧ ((w32 (S.1 370 (w32 x1)) ≤ w32 x3) → EV q 275 78 [some (.ref 367), some (vI x1), some (vI x2), some (vI x3)] [] S r S') ∧ ((¬ w32 (S.1 370 (w32 x1)) ≤ w32 x3) → (0 ≤ w32 x2 ∧ w32 x2 < (13 : Nat)) ∧ ((w32 (S.1 370 (w32 x2)) ≤ w32 x3) → EV q 275 78 [some (.ref 367), some (vI x1), some (vI x2), some (vI x3)] [] S r S') ∧ ((¬ w32 (S.1 370 (w32 x2)) ≤ w32 x3) → (0 ≤ w32 ((12000 * x1) + x3) ∧ w32 ((12000 * x1) + x3) < (156000 : Nat)) ∧ (0 ≤ w32 ((12000 * x2) + x3) ∧ w32 ((12000 * x2) + x3) < (156000 : Nat)) ∧ ((¬ w32 (S.1 369 (w32 ((12000 * x1) + x3))) = w32 (S.1 369 (w32 ((12000 * x2) + x3)))) → EV q 275 78 [some (.ref 367), some (vI x1), some (vI x2), some (vI x3)] [] S r S') ∧ ((¬ (¬ w32 (S.1 369 (w32 ((12000 * x1) + x3))) = w32 (S.1 369 (w32 ((12000 * x2) + x3))))) → EV q 275 25 [some (.ref 367), some (vI x1), some (vI x2), some (vI (x3 + 1))] [] S r S')))) : EV q 275 25 [some (.ref 367), some (vI x1), some (vI x2), some (vI x3)] [] S r S' := by
  unfold EV
  refine ev_bk 2 (S' := (27, [some (.ref 367), some (vI x1), some (vI x2), some (vI x3)], [.ref 367, vI x3], hp S, 0, 0)) rfl ?_
  refine mv_gfR rfl rfl (sh_367) (by decide) rfl ?_
  refine ev_bk 1 (S' := (31, [some (.ref 367), some (vI x1), some (vI x2), some (vI x3)], [vI x1, .ref 370, vI x3], hp S, 0, 0)) rfl ?_
  obtain ⟨b1, F⟩ := F
  refine mv_ial rfl (sh_370) b1 ?_
  refine mv_icmp 78 rfl rfl (fun c => ?_) (fun c => ?_)
  · have F := F.1 c
    exact F
  · have F := F.2 c
    refine ev_bk 2 (S' := (37, [some (.ref 367), some (vI x1), some (vI x2), some (vI x3)], [.ref 367, vI x3], hp S, 0, 0)) rfl ?_
    refine mv_gfR rfl rfl (sh_367) (by decide) rfl ?_
    refine ev_bk 1 (S' := (41, [some (.ref 367), some (vI x1), some (vI x2), some (vI x3)], [vI x2, .ref 370, vI x3], hp S, 0, 0)) rfl ?_
    obtain ⟨b2, F⟩ := F
    refine mv_ial rfl (sh_370) b2 ?_
    refine mv_icmp 78 rfl rfl (fun c => ?_) (fun c => ?_)
    · have F := F.1 c
      exact F
    · have F := F.2 c
      refine ev_bk 1 (S' := (46, [some (.ref 367), some (vI x1), some (vI x2), some (vI x3)], [.ref 367], hp S, 0, 0)) rfl ?_
      refine mv_gfR rfl rfl (sh_367) (by decide) rfl ?_
      refine ev_bk 2 (S' := (53, [some (.ref 367), some (vI x1), some (vI x2), some (vI x3)], [vI x1, vI 12000, .ref 369], hp S, 0, 0)) rfl ?_
      refine mv_imul rfl ?_
      refine ev_bk 1 (S' := (55, [some (.ref 367), some (vI x1), some (vI x2), some (vI x3)], [vI x3, vI (12000 * x1), .ref 369], hp S, 0, 0)) rfl ?_
      refine mv_iadd rfl ?_
      obtain ⟨b3, F⟩ := F
      refine mv_bal rfl (sh_369) b3 ?_
      refine ev_bk 1 (S' := (58, [some (.ref 367), some (vI x1), some (vI x2), some (vI x3)], [.ref 367, vI (S.1 369 (w32 ((12000 * x1) + x3)))], hp S, 0, 0)) rfl ?_
      refine mv_gfR rfl rfl (sh_367) (by decide) rfl ?_
      refine ev_bk 2 (S' := (65, [some (.ref 367), some (vI x1), some (vI x2), some (vI x3)], [vI x2, vI 12000, .ref 369, vI (S.1 369 (w32 ((12000 * x1) + x3)))], hp S, 0, 0)) rfl ?_
      refine mv_imul rfl ?_
      refine ev_bk 1 (S' := (67, [some (.ref 367), some (vI x1), some (vI x2), some (vI x3)], [vI x3, vI (12000 * x2), .ref 369, vI (S.1 369 (w32 ((12000 * x1) + x3)))], hp S, 0, 0)) rfl ?_
      refine mv_iadd rfl ?_
      obtain ⟨b4, F⟩ := F
      refine mv_bal rfl (sh_369) b4 ?_
      refine mv_icmp 78 rfl rfl (fun c => ?_) (fun c => ?_)
      · have F := F.1 c
        exact F
      · have F := F.2 c
        refine mv_inc (lv' := [some (.ref 367), some (vI x1), some (vI x2), some (vI (x3 + 1))]) 3 1 rfl rfl rfl rfl ?_
        refine mv_goto 25 rfl rfl ?_
        exact F
theorem vc_MD_differ_78 {q : Nat × (Nat → Int32)} {S S' : ms} {r : Option Value} (x1 x2 x3 : Int)
    (F : (0 ≤ w32 x1 ∧ w32 x1 < (13 : Nat)) ∧ ((¬ w32 x3 = w32 (S.1 370 (w32 x1))) → r = some (vI x3) ∧ S' = S) ∧ ((¬ (¬ w32 x3 = w32 (S.1 370 (w32 x1)))) → (0 ≤ w32 x2 ∧ w32 x2 < (13 : Nat)) ∧ ((¬ w32 x3 = w32 (S.1 370 (w32 x2))) → r = some (vI x3) ∧ S' = S) ∧ ((¬ (¬ w32 x3 = w32 (S.1 370 (w32 x2)))) → r = some (vI ((-1))) ∧ S' = S))) : EV q 275 78 [some (.ref 367), some (vI x1), some (vI x2), some (vI x3)] [] S r S' := by
  unfold EV
  refine ev_bk 2 (S' := (80, [some (.ref 367), some (vI x1), some (vI x2), some (vI x3)], [.ref 367, vI x3], hp S, 0, 0)) rfl ?_
  refine mv_gfR rfl rfl (sh_367) (by decide) rfl ?_
  refine ev_bk 1 (S' := (84, [some (.ref 367), some (vI x1), some (vI x2), some (vI x3)], [vI x1, .ref 370, vI x3], hp S, 0, 0)) rfl ?_
  obtain ⟨b1, F⟩ := F
  refine mv_ial rfl (sh_370) b1 ?_
  refine mv_icmp 102 rfl rfl (fun c => ?_) (fun c => ?_)
  · have F := F.1 c
    refine ev_bk 1 (S' := (103, [some (.ref 367), some (vI x1), some (vI x2), some (vI x3)], [vI x3], hp S, 0, 0)) rfl ?_
    obtain ⟨rfl, rfl⟩ := F
    exact ev_ret rfl rfl
  · have F := F.2 c
    refine ev_bk 2 (S' := (90, [some (.ref 367), some (vI x1), some (vI x2), some (vI x3)], [.ref 367, vI x3], hp S, 0, 0)) rfl ?_
    refine mv_gfR rfl rfl (sh_367) (by decide) rfl ?_
    refine ev_bk 1 (S' := (94, [some (.ref 367), some (vI x1), some (vI x2), some (vI x3)], [vI x2, .ref 370, vI x3], hp S, 0, 0)) rfl ?_
    obtain ⟨b2, F⟩ := F
    refine mv_ial rfl (sh_370) b2 ?_
    refine mv_icmp 102 rfl rfl (fun c => ?_) (fun c => ?_)
    · have F := F.1 c
      refine ev_bk 1 (S' := (103, [some (.ref 367), some (vI x1), some (vI x2), some (vI x3)], [vI x3], hp S, 0, 0)) rfl ?_
      obtain ⟨rfl, rfl⟩ := F
      exact ev_ret rfl rfl
    · have F := F.2 c
      refine ev_bk 1 (S' := (99, [some (.ref 367), some (vI x1), some (vI x2), some (vI x3)], [vI ((-1))], hp S, 0, 0)) rfl ?_
      refine mv_goto 103 rfl rfl ?_
      obtain ⟨rfl, rfl⟩ := F
      exact ev_ret rfl rfl
theorem vc_MD_pack {q : Nat × (Nat → Int32)} {S S' : ms} {r : Option Value} (x1 x2 : Int)
    (F : ∀ S1 : ms, S1 = wI S 367 0 0 → ∃ (z4 : Int) (S2 : ms), EV q 257 0 [some (vI x1), some (vI 3), some (vI 5)] [] S1 (some (vI z4)) S2 ∧ ∃ (z7 : Int) (S5 : ms), EV q 257 0 [some (vI x1), some (vI 1), some (vI 10)] [] S2 (some (vI z7)) S5 ∧ ((w32 z7 = 0) → r = some (vI ((-2))) ∧ S' = S5) ∧ ((¬ w32 z7 = 0) → ((w32 z4 = 0) → EV q 276 33 [some (.ref 367), some (vI x1), some (vI x2), some (vI z4), none] [vI 0, vI 0, vI x2] S5 r S') ∧ ((¬ w32 z4 = 0) → EV q 276 33 [some (.ref 367), some (vI x1), some (vI x2), some (vI z4), none] [vI 4, vI 0, vI x2] S5 r S'))) : EV q 276 0 [some (.ref 367), some (vI x1), some (vI x2), none, none] [] S r S' := by
  unfold EV
  refine ev_bk 2 (S' := (2, [some (.ref 367), some (vI x1), some (vI x2), none, none], [vI 0, .ref 367], hp S, 0, 0)) rfl ?_
  refine mv_pfI rfl rfl (sh_367) (by decide) rfl rfl ?_
  have F := F _ rfl
  refine ev_bk 3 (S' := (8, [some (.ref 367), some (vI x1), some (vI x2), none, none], [vI 5, vI 3, vI x1], hp (wI S 367 0 0), 0, 0)) rfl ?_
  obtain ⟨z4, S2, e3, F⟩ := F
  refine mv_cals (as := [vI x1, vI 3, vI 5]) (rest := []) e3 rfl rfl rfl ⟨rfl, rfl, rfl⟩ rfl rfl rfl rfl ?_
  refine ev_bk 4 (S' := (16, [some (.ref 367), some (vI x1), some (vI x2), some (vI z4), none], [vI 10, vI 1, vI x1], hp S2, 0, 0)) rfl ?_
  obtain ⟨z7, S5, e6, F⟩ := F
  refine mv_cals (as := [vI x1, vI 1, vI 10]) (rest := []) e6 rfl rfl rfl ⟨rfl, rfl, rfl⟩ rfl rfl rfl rfl ?_
  refine mv_if 39 rfl rfl (fun c => ?_) (fun c => ?_)
  · have F := F.1 c
    refine ev_bk 1 (S' := (41, [some (.ref 367), some (vI x1), some (vI x2), some (vI z4), none], [vI ((-2))], hp S5, 0, 0)) rfl ?_
    obtain ⟨rfl, rfl⟩ := F
    exact ev_ret rfl rfl
  · have F := F.2 c
    refine ev_bk 3 (S' := (25, [some (.ref 367), some (vI x1), some (vI x2), some (vI z4), none], [vI z4, vI 0, vI x2], hp S5, 0, 0)) rfl ?_
    refine mv_if 32 rfl rfl (fun c => ?_) (fun c => ?_)
    · have F := F.1 c
      refine ev_bk 1 (S' := (33, [some (.ref 367), some (vI x1), some (vI x2), some (vI z4), none], [vI 0, vI 0, vI x2], hp S5, 0, 0)) rfl ?_
      exact F
    · have F := F.2 c
      refine ev_bk 1 (S' := (29, [some (.ref 367), some (vI x1), some (vI x2), some (vI z4), none], [vI 4, vI 0, vI x2], hp S5, 0, 0)) rfl ?_
      refine mv_goto 33 rfl rfl ?_
      exact F
theorem vc_MD_pack_33 {q : Nat × (Nat → Int32)} {S S' : ms} {r : Option Value} (x1 x2 x3 y0 y1 y2 : Int)
    (F : ∃ (z3 : Int) (S1 : ms), EV q 257 0 [some (vI y2), some (vI y1), some (vI y0)] [] S (some (vI z3)) S1 ∧ ((¬ w32 z3 = 0) → ∃ (z6 : Int) (S4 : ms), EV q 277 0 [some (.ref 367), none] [] S1 (some (vI z6)) S4 ∧ ((0 ≤ w32 z6) → ∃ (S7 : ms), EV q 278 0 [some (.ref 367), some (vI 0)] [] S4 none S7 ∧ ∃ (S9 : ms), EV q 279 0 [some (.ref 367), some (vI x1), some (vI x2)] [] S7 none S9 ∧ ((w32 (S9.1 367 9) ≤ 12000) → ((w32 x3 = 0) → EV q 276 85 [some (.ref 367), some (vI x1), some (vI x2), some (vI x3), none] [.ref 367] S9 r S') ∧ ((¬ w32 x3 = 0) → ((0 < w32 x2) → EV q 276 96 [some (.ref 367), some (vI x1), some (vI x2), some (vI x3), none] [.ref 367] S9 r S') ∧ ((¬ 0 < w32 x2) → EV q 276 85 [some (.ref 367), some (vI x1), some (vI x2), some (vI x3), none] [.ref 367] S9 r S'))) ∧ ((¬ w32 (S9.1 367 9) ≤ 12000) → r = some (vI ((-4))) ∧ S' = S9)) ∧ ((¬ 0 ≤ w32 z6) → r = some (vI ((-4))) ∧ S' = S4)) ∧ ((¬ (¬ w32 z3 = 0)) → r = some (vI ((-2))) ∧ S' = S1)) : EV q 276 33 [some (.ref 367), some (vI x1), some (vI x2), some (vI x3), none] [vI y0, vI y1, vI y2] S r S' := by
  unfold EV
  obtain ⟨z3, S1, e2, F⟩ := F
  refine mv_cals (as := [vI y2, vI y1, vI y0]) (rest := []) e2 rfl rfl rfl ⟨rfl, rfl, rfl⟩ rfl rfl rfl rfl ?_
  refine mv_if 42 rfl rfl (fun c => ?_) (fun c => ?_)
  · have F := F.1 c
    refine ev_bk 1 (S' := (43, [some (.ref 367), some (vI x1), some (vI x2), some (vI x3), none], [.ref 367], hp S1, 0, 0)) rfl ?_
    obtain ⟨z6, S4, e5, F⟩ := F
    refine mv_calv (as := []) (rest := []) e5 (sh_367) rfl rfl rfl ⟨rfl, rfl⟩ rfl rfl rfl rfl rfl ?_
    refine mv_if 52 rfl rfl (fun c => ?_) (fun c => ?_)
    · have F := F.1 c
      refine ev_bk 2 (S' := (54, [some (.ref 367), some (vI x1), some (vI x2), some (vI x3), none], [vI 0, .ref 367], hp S4, 0, 0)) rfl ?_
      obtain ⟨S7, e8, F⟩ := F
      refine mv_calv (as := [vI 0]) (rest := []) e8 (sh_367) rfl rfl rfl ⟨rfl, rfl⟩ rfl rfl rfl rfl rfl ?_
      refine ev_bk 3 (S' := (60, [some (.ref 367), some (vI x1), some (vI x2), some (vI x3), none], [vI x2, vI x1, .ref 367], hp S7, 0, 0)) rfl ?_
      obtain ⟨S9, e10, F⟩ := F
      refine mv_calv (as := [vI x1, vI x2]) (rest := []) e10 (sh_367) rfl rfl rfl ⟨rfl, rfl⟩ rfl rfl rfl rfl rfl ?_
      refine ev_bk 1 (S' := (64, [some (.ref 367), some (vI x1), some (vI x2), some (vI x3), none], [.ref 367], hp S9, 0, 0)) rfl ?_
      refine mv_gfI rfl rfl (sh_367) (by decide) rfl ?_
      refine ev_bk 1 (S' := (70, [some (.ref 367), some (vI x1), some (vI x2), some (vI x3), none], [vI 12000, vI (S9.1 367 9)], hp S9, 0, 0)) rfl ?_
      refine mv_icmp 76 rfl rfl (fun c => ?_) (fun c => ?_)
      · have F := F.1 c
        refine ev_bk 2 (S' := (78, [some (.ref 367), some (vI x1), some (vI x2), some (vI x3), none], [vI x3, .ref 367], hp S9, 0, 0)) rfl ?_
        refine mv_if 85 rfl rfl (fun c => ?_) (fun c => ?_)
        · have F := F.1 c
          exact F
        · have F := F.2 c
          refine ev_bk 1 (S' := (82, [some (.ref 367), some (vI x1), some (vI x2), some (vI x3), none], [vI x2, .ref 367], hp S9, 0, 0)) rfl ?_
          refine mv_if 96 rfl rfl (fun c => ?_) (fun c => ?_)
          · have F := F.1 c
            exact F
          · have F := F.2 c
            exact F
      · have F := F.2 c
        refine ev_bk 1 (S' := (75, [some (.ref 367), some (vI x1), some (vI x2), some (vI x3), none], [vI ((-4))], hp S9, 0, 0)) rfl ?_
        obtain ⟨rfl, rfl⟩ := F
        exact ev_ret rfl rfl
    · have F := F.2 c
      refine ev_bk 1 (S' := (51, [some (.ref 367), some (vI x1), some (vI x2), some (vI x3), none], [vI ((-4))], hp S4, 0, 0)) rfl ?_
      obtain ⟨rfl, rfl⟩ := F
      exact ev_ret rfl rfl
  · have F := F.2 c
    refine ev_bk 1 (S' := (41, [some (.ref 367), some (vI x1), some (vI x2), some (vI x3), none], [vI ((-2))], hp S1, 0, 0)) rfl ?_
    obtain ⟨rfl, rfl⟩ := F
    exact ev_ret rfl rfl
theorem vc_MD_pack_85 {q : Nat × (Nat → Int32)} {S S' : ms} {r : Option Value} (x1 x2 x3 : Int)
    (F : ∃ (z3 : Int) (S1 : ms), EV q 257 0 [some (vI x1), some (vI 6), some (vI 8)] [] S (some (vI z3)) S1 ∧ ((w32 z3 = 0) → EV q 276 101 [some (.ref 367), some (vI x1), some (vI x2), some (vI x3), none] [vI 0, .ref 367] S1 r S') ∧ ((¬ w32 z3 = 0) → EV q 276 96 [some (.ref 367), some (vI x1), some (vI x2), some (vI x3), none] [.ref 367] S1 r S')) : EV q 276 85 [some (.ref 367), some (vI x1), some (vI x2), some (vI x3), none] [.ref 367] S r S' := by
  unfold EV
  refine ev_bk 3 (S' := (90, [some (.ref 367), some (vI x1), some (vI x2), some (vI x3), none], [vI 8, vI 6, vI x1, .ref 367], hp S, 0, 0)) rfl ?_
  obtain ⟨z3, S1, e2, F⟩ := F
  refine mv_cals (as := [vI x1, vI 6, vI 8]) (rest := [.ref 367]) e2 rfl rfl rfl ⟨rfl, rfl, rfl⟩ rfl rfl rfl rfl ?_
  refine mv_if 100 rfl rfl (fun c => ?_) (fun c => ?_)
  · have F := F.1 c
    refine ev_bk 1 (S' := (101, [some (.ref 367), some (vI x1), some (vI x2), some (vI x3), none], [vI 0, .ref 367], hp S1, 0, 0)) rfl ?_
    exact F
  · have F := F.2 c
    exact F
theorem vc_MD_pack_96 {q : Nat × (Nat → Int32)} {S S' : ms} {r : Option Value} (x1 x2 x3 : Int)
    (F : EV q 276 101 [some (.ref 367), some (vI x1), some (vI x2), some (vI x3), none] [vI x1, .ref 367] S r S') : EV q 276 96 [some (.ref 367), some (vI x1), some (vI x2), some (vI x3), none] [.ref 367] S r S' := by
  unfold EV
  refine ev_bk 1 (S' := (97, [some (.ref 367), some (vI x1), some (vI x2), some (vI x3), none], [vI x1, .ref 367], hp S, 0, 0)) rfl ?_
  refine mv_goto 101 rfl rfl ?_
  exact F
theorem vc_MD_pack_101 {q : Nat × (Nat → Int32)} {S S' : ms} {r : Option Value} (x1 x2 x3 y0 : Int)
    (F : ∀ S1 : ms, S1 = wI S 367 82 y0 → ((w32 x3 = 0) → EV q 276 117 [some (.ref 367), some (vI x1), some (vI x2), some (vI x3), none] [vI 0, .ref 367] S1 r S') ∧ ((¬ w32 x3 = 0) → EV q 276 117 [some (.ref 367), some (vI x1), some (vI x2), some (vI x3), none] [vI (S1.1 367 56), .ref 367] S1 r S')) : EV q 276 101 [some (.ref 367), some (vI x1), some (vI x2), some (vI x3), none] [vI y0, .ref 367] S r S' := by
  unfold EV
  refine mv_pfI rfl rfl (sh_367) (by decide) rfl rfl ?_
  have F := F _ rfl
  refine ev_bk 2 (S' := (106, [some (.ref 367), some (vI x1), some (vI x2), some (vI x3), none], [vI x3, .ref 367], hp (wI S 367 82 y0), 0, 0)) rfl ?_
  refine mv_if 116 rfl rfl (fun c => ?_) (fun c => ?_)
  · have F := F.1 c
    refine ev_bk 1 (S' := (117, [some (.ref 367), some (vI x1), some (vI x2), some (vI x3), none], [vI 0, .ref 367], hp (wI S 367 82 y0), 0, 0)) rfl ?_
    exact F
  · have F := F.2 c
    refine ev_bk 1 (S' := (110, [some (.ref 367), some (vI x1), some (vI x2), some (vI x3), none], [.ref 367, .ref 367], hp (wI S 367 82 y0), 0, 0)) rfl ?_
    refine mv_gfI rfl rfl (sh_367) (by decide) rfl ?_
    refine mv_goto 117 rfl rfl ?_
    exact F
theorem vc_MD_pack_117 {q : Nat × (Nat → Int32)} {S S' : ms} {r : Option Value} (x1 x2 x3 y0 : Int)
    (F : ∀ S1 : ms, S1 = wI S 367 83 y0 → ((w32 (S1.1 367 82) ≤ 0) → EV q 276 136 [some (.ref 367), some (vI x1), some (vI x2), some (vI x3), none] [vI 0, .ref 367] S1 r S') ∧ ((¬ w32 (S1.1 367 82) ≤ 0) → EV q 276 136 [some (.ref 367), some (vI x1), some (vI x2), some (vI x3), none] [vI (S1.1 367 29), .ref 367] S1 r S')) : EV q 276 117 [some (.ref 367), some (vI x1), some (vI x2), some (vI x3), none] [vI y0, .ref 367] S r S' := by
  unfold EV
  refine mv_pfI rfl rfl (sh_367) (by decide) rfl rfl ?_
  have F := F _ rfl
  refine ev_bk 2 (S' := (122, [some (.ref 367), some (vI x1), some (vI x2), some (vI x3), none], [.ref 367, .ref 367], hp (wI S 367 83 y0), 0, 0)) rfl ?_
  refine mv_gfI rfl rfl (sh_367) (by decide) rfl ?_
  refine mv_if 135 rfl rfl (fun c => ?_) (fun c => ?_)
  · have F := F.1 c
    refine ev_bk 1 (S' := (136, [some (.ref 367), some (vI x1), some (vI x2), some (vI x3), none], [vI 0, .ref 367], hp (wI S 367 83 y0), 0, 0)) rfl ?_
    exact F
  · have F := F.2 c
    refine ev_bk 1 (S' := (129, [some (.ref 367), some (vI x1), some (vI x2), some (vI x3), none], [.ref 367, .ref 367], hp (wI S 367 83 y0), 0, 0)) rfl ?_
    refine mv_gfI rfl rfl (sh_367) (by decide) rfl ?_
    refine mv_goto 136 rfl rfl ?_
    exact F
theorem vc_MD_pack_136 {q : Nat × (Nat → Int32)} {S S' : ms} {r : Option Value} (x1 x2 x3 y0 : Int)
    (F : ∀ S1 : ms, S1 = wI S 367 84 y0 → EV q 276 142 [some (.ref 367), some (vI x1), some (vI x2), some (vI x3), some (vI 0)] [] S1 r S') : EV q 276 136 [some (.ref 367), some (vI x1), some (vI x2), some (vI x3), none] [vI y0, .ref 367] S r S' := by
  unfold EV
  refine mv_pfI rfl rfl (sh_367) (by decide) rfl rfl ?_
  have F := F _ rfl
  refine ev_bk 2 (S' := (142, [some (.ref 367), some (vI x1), some (vI x2), some (vI x3), some (vI 0)], [], hp (wI S 367 84 y0), 0, 0)) rfl ?_
  exact F
theorem vc_MD_pack_142 {q : Nat × (Nat → Int32)} {S S' : ms} {r : Option Value} (x1 x2 x3 x4 : Int)
    (F : ((w32 (S.1 367 84) ≤ w32 x4) → ∃ (z3 : Int) (S1 : ms), EV q 328 0 [some (.ref 367), some (.ref 374), some (vI 0), some (vI (S.1 367 9)), none, none] [] S (some (vI z3)) S1 ∧ r = some (vI z3) ∧ S' = S1) ∧ ((¬ w32 (S.1 367 84) ≤ w32 x4) → (0 ≤ w32 x4 ∧ w32 x4 < (6000 : Nat)) ∧ (0 ≤ w32 x4 ∧ w32 x4 < (6000 : Nat)) ∧ ∀ S6 : ms, S6 = wI S 416 (w32 x4) (S.1 380 (w32 x4)) → (0 ≤ w32 x4 ∧ w32 x4 < (6000 : Nat)) ∧ (0 ≤ w32 x4 ∧ w32 x4 < (6000 : Nat)) ∧ ∀ S9 : ms, S9 = wI S6 417 (w32 x4) (S6.1 381 (w32 x4)) → (0 ≤ w32 x4 ∧ w32 x4 < (6000 : Nat)) ∧ (0 ≤ w32 x4 ∧ w32 x4 < (6000 : Nat)) ∧ ∀ S12 : ms, S12 = wI S9 418 (w32 x4) (S9.1 382 (w32 x4)) → EV q 276 142 [some (.ref 367), some (vI x1), some (vI x2), some (vI x3), some (vI (x4 + 1))] [] S12 r S')) : EV q 276 142 [some (.ref 367), some (vI x1), some (vI x2), some (vI x3), some (vI x4)] [] S r S' := by
  unfold EV
  refine ev_bk 2 (S' := (145, [some (.ref 367), some (vI x1), some (vI x2), some (vI x3), some (vI x4)], [.ref 367, vI x4], hp S, 0, 0)) rfl ?_
  refine mv_gfI rfl rfl (sh_367) (by decide) rfl ?_
  refine mv_icmp 199 rfl rfl (fun c => ?_) (fun c => ?_)
  · have F := F.1 c
    refine ev_bk 2 (S' := (201, [some (.ref 367), some (vI x1), some (vI x2), some (vI x3), some (vI x4)], [.ref 367, .ref 367], hp S, 0, 0)) rfl ?_
    refine mv_gfR rfl rfl (sh_367) (by decide) rfl ?_
    refine ev_bk 2 (S' := (206, [some (.ref 367), some (vI x1), some (vI x2), some (vI x3), some (vI x4)], [.ref 367, vI 0, .ref 374, .ref 367], hp S, 0, 0)) rfl ?_
    refine mv_gfI rfl rfl (sh_367) (by decide) rfl ?_
    obtain ⟨z3, S1, e2, F⟩ := F
    refine mv_calv (as := [.ref 374, vI 0, vI (S.1 367 9)]) (rest := []) e2 (sh_367) rfl rfl rfl ⟨rfl, rfl⟩ rfl rfl rfl rfl rfl ?_
    obtain ⟨rfl, rfl⟩ := F
    exact ev_ret rfl rfl
  · have F := F.2 c
    refine ev_bk 1 (S' := (152, [some (.ref 367), some (vI x1), some (vI x2), some (vI x3), some (vI x4)], [.ref 367], hp S, 0, 0)) rfl ?_
    refine mv_gfR rfl rfl (sh_367) (by decide) rfl ?_
    refine ev_bk 2 (S' := (158, [some (.ref 367), some (vI x1), some (vI x2), some (vI x3), some (vI x4)], [.ref 367, vI x4, .ref 416], hp S, 0, 0)) rfl ?_
    refine mv_gfR rfl rfl (sh_367) (by decide) rfl ?_
    refine ev_bk 1 (S' := (163, [some (.ref 367), some (vI x1), some (vI x2), some (vI x3), some (vI x4)], [vI x4, .ref 380, vI x4, .ref 416], hp S, 0, 0)) rfl ?_
    obtain ⟨b4, F⟩ := F
    refine mv_ial rfl (sh_380) b4 ?_
    obtain ⟨b5, F⟩ := F
    refine mv_ias rfl (sh_416) b5 ?_
    have F := F _ rfl
    refine ev_bk 1 (S' := (166, [some (.ref 367), some (vI x1), some (vI x2), some (vI x3), some (vI x4)], [.ref 367], hp (wI S 416 (w32 x4) (S.1 380 (w32 x4))), 0, 0)) rfl ?_
    refine mv_gfR rfl rfl (sh_367) (by decide) rfl ?_
    refine ev_bk 2 (S' := (172, [some (.ref 367), some (vI x1), some (vI x2), some (vI x3), some (vI x4)], [.ref 367, vI x4, .ref 417], hp (wI S 416 (w32 x4) (S.1 380 (w32 x4))), 0, 0)) rfl ?_
    refine mv_gfR rfl rfl (sh_367) (by decide) rfl ?_
    refine ev_bk 1 (S' := (177, [some (.ref 367), some (vI x1), some (vI x2), some (vI x3), some (vI x4)], [vI x4, .ref 381, vI x4, .ref 417], hp (wI S 416 (w32 x4) (S.1 380 (w32 x4))), 0, 0)) rfl ?_
    obtain ⟨b7, F⟩ := F
    refine mv_ial rfl (sh_381) b7 ?_
    obtain ⟨b8, F⟩ := F
    refine mv_ias rfl (sh_417) b8 ?_
    have F := F _ rfl
    refine ev_bk 1 (S' := (180, [some (.ref 367), some (vI x1), some (vI x2), some (vI x3), some (vI x4)], [.ref 367], hp (wI (wI S 416 (w32 x4) (S.1 380 (w32 x4))) 417 (w32 x4) ((wI S 416 (w32 x4) (S.1 380 (w32 x4))).1 381 (w32 x4))), 0, 0)) rfl ?_
    refine mv_gfR rfl rfl (sh_367) (by decide) rfl ?_
    refine ev_bk 2 (S' := (186, [some (.ref 367), some (vI x1), some (vI x2), some (vI x3), some (vI x4)], [.ref 367, vI x4, .ref 418], hp (wI (wI S 416 (w32 x4) (S.1 380 (w32 x4))) 417 (w32 x4) ((wI S 416 (w32 x4) (S.1 380 (w32 x4))).1 381 (w32 x4))), 0, 0)) rfl ?_
    refine mv_gfR rfl rfl (sh_367) (by decide) rfl ?_
    refine ev_bk 1 (S' := (191, [some (.ref 367), some (vI x1), some (vI x2), some (vI x3), some (vI x4)], [vI x4, .ref 382, vI x4, .ref 418], hp (wI (wI S 416 (w32 x4) (S.1 380 (w32 x4))) 417 (w32 x4) ((wI S 416 (w32 x4) (S.1 380 (w32 x4))).1 381 (w32 x4))), 0, 0)) rfl ?_
    obtain ⟨b10, F⟩ := F
    refine mv_ial rfl (sh_382) b10 ?_
    obtain ⟨b11, F⟩ := F
    refine mv_ias rfl (sh_418) b11 ?_
    have F := F _ rfl
    refine mv_inc (lv' := [some (.ref 367), some (vI x1), some (vI x2), some (vI x3), some (vI (x4 + 1))]) 4 1 rfl rfl rfl rfl ?_
    refine mv_goto 142 rfl rfl ?_
    exact F
theorem vc_MD_freeStream {q : Nat × (Nat → Int32)} {S S' : ms} {r : Option Value}
    (F : EV q 277 2 [some (.ref 367), some (vI 1)] [] S r S') : EV q 277 0 [some (.ref 367), none] [] S r S' := by
  unfold EV
  refine ev_bk 2 (S' := (2, [some (.ref 367), some (vI 1)], [], hp S, 0, 0)) rfl ?_
  exact F
theorem vc_MD_freeStream_2 {q : Nat × (Nat → Int32)} {S S' : ms} {r : Option Value} (x1 : Int)
    (F : ((13 ≤ w32 x1) → EV q 277 23 [some (.ref 367), some (vI x1)] [] S r S') ∧ ((¬ 13 ≤ w32 x1) → (0 ≤ w32 x1 ∧ w32 x1 < (13 : Nat)) ∧ ((w32 (S.1 371 (w32 x1)) = 0) → EV q 277 23 [some (.ref 367), some (vI x1)] [] S r S') ∧ ((¬ w32 (S.1 371 (w32 x1)) = 0) → EV q 277 2 [some (.ref 367), some (vI (x1 + 1))] [] S r S'))) : EV q 277 2 [some (.ref 367), some (vI x1)] [] S r S' := by
  unfold EV
  refine ev_bk 2 (S' := (5, [some (.ref 367), some (vI x1)], [vI 13, vI x1], hp S, 0, 0)) rfl ?_
  refine mv_icmp 23 rfl rfl (fun c => ?_) (fun c => ?_)
  · have F := F.1 c
    exact F
  · have F := F.2 c
    refine ev_bk 1 (S' := (9, [some (.ref 367), some (vI x1)], [.ref 367], hp S, 0, 0)) rfl ?_
    refine mv_gfR rfl rfl (sh_367) (by decide) rfl ?_
    refine ev_bk 1 (S' := (13, [some (.ref 367), some (vI x1)], [vI x1, .ref 371], hp S, 0, 0)) rfl ?_
    obtain ⟨b1, F⟩ := F
    refine mv_zal rfl (sh_371) b1 ?_
    refine mv_if 23 rfl rfl (fun c => ?_) (fun c => ?_)
    · have F := F.1 c
      exact F
    · have F := F.2 c
      refine mv_inc (lv' := [some (.ref 367), some (vI (x1 + 1))]) 1 1 rfl rfl rfl rfl ?_
      refine mv_goto 2 rfl rfl ?_
      exact F
theorem vc_MD_freeStream_23 {q : Nat × (Nat → Int32)} {S S' : ms} {r : Option Value} (x1 : Int)
    (F : ((13 ≤ w32 x1) → r = some (vI ((-4))) ∧ S' = S) ∧ ((¬ 13 ≤ w32 x1) → r = some (vI x1) ∧ S' = S)) : EV q 277 23 [some (.ref 367), some (vI x1)] [] S r S' := by
  unfold EV
  refine ev_bk 2 (S' := (26, [some (.ref 367), some (vI x1)], [vI 13, vI x1], hp S, 0, 0)) rfl ?_
  refine mv_icmp 33 rfl rfl (fun c => ?_) (fun c => ?_)
  · have F := F.1 c
    refine ev_bk 1 (S' := (35, [some (.ref 367), some (vI x1)], [vI ((-4))], hp S, 0, 0)) rfl ?_
    obtain ⟨rfl, rfl⟩ := F
    exact ev_ret rfl rfl
  · have F := F.2 c
    refine ev_bk 1 (S' := (30, [some (.ref 367), some (vI x1)], [vI x1], hp S, 0, 0)) rfl ?_
    refine mv_goto 35 rfl rfl ?_
    obtain ⟨rfl, rfl⟩ := F
    exact ev_ret rfl rfl
theorem vc_MD_begin {q : Nat × (Nat → Int32)} {S S' : ms} {r : Option Value} (x1 : Int)
    (F : ∀ S1 : ms, S1 = wI S 367 9 0 → ∀ S2 : ms, S2 = wI S1 367 10 0 → (x1 = 0 ∨ x1 = 1) ∧ ∀ S4 : ms, S4 = wI S2 367 11 x1 → r = none ∧ S' = S4) : EV q 278 0 [some (.ref 367), some (vI x1)] [] S r S' := by
  unfold EV
  refine ev_bk 2 (S' := (2, [some (.ref 367), some (vI x1)], [vI 0, .ref 367], hp S, 0, 0)) rfl ?_
  refine mv_pfI rfl rfl (sh_367) (by decide) rfl rfl ?_
  have F := F _ rfl
  refine ev_bk 2 (S' := (7, [some (.ref 367), some (vI x1)], [vI 0, .ref 367], hp (wI S 367 9 0), 0, 0)) rfl ?_
  refine mv_pfI rfl rfl (sh_367) (by decide) rfl rfl ?_
  have F := F _ rfl
  refine ev_bk 2 (S' := (12, [some (.ref 367), some (vI x1)], [vI x1, .ref 367], hp (wI (wI S 367 9 0) 367 10 0), 0, 0)) rfl ?_
  obtain ⟨b3, F⟩ := F
  refine mv_pfI rfl rfl (sh_367) (by decide) rfl (by rw [show (en_pY pg_P 12 11).1 = .boolean from rfl, nf_z b3]; rfl) ?_
  have F := F _ rfl
  obtain ⟨rfl, rfl⟩ := F
  exact ev_ret rfl rfl
theorem vc_MD_packAs {q : Nat × (Nat → Int32)} {S S' : ms} {r : Option Value} (x1 x2 : Int)
    (F : ((w32 x1 = 1) → ∃ (S3 : ms), EV q 280 0 [some (.ref 367), none, none, none] [] S none S3 ∧ r = none ∧ S' = S3) ∧ ((w32 x1 = 2) → ∃ (S5 : ms), EV q 283 0 [some (.ref 367), none, none, none, none, none, none, none] [] S none S5 ∧ r = none ∧ S' = S5) ∧ ((w32 x1 = 3) → ∃ (S7 : ms), EV q 289 0 [some (.ref 367), some (vI x2), none, none, none, none, none] [] S none S7 ∧ r = none ∧ S' = S7) ∧ ((w32 x1 = 4) → ∃ (S9 : ms), EV q 308 0 [some (.ref 367), some (vI x2), none] [] S none S9 ∧ r = none ∧ S' = S9) ∧ ((w32 x1 = 5) → ∃ (S11 : ms), EV q 310 0 [some (.ref 367), some (vI x2)] [] S none S11 ∧ r = none ∧ S' = S11) ∧ ((w32 x1 = 6) → ∃ (S13 : ms), EV q 311 0 [some (.ref 367), none, none, none] [] S none S13 ∧ r = none ∧ S' = S13) ∧ ((w32 x1 = 7) → ∃ (S15 : ms), EV q 314 0 [some (.ref 367), none, none, none, none] [] S none S15 ∧ r = none ∧ S' = S15) ∧ ((w32 x1 = 8) → ∃ (S17 : ms), EV q 315 0 [some (.ref 367), none, none, none, none] [] S none S17 ∧ r = none ∧ S' = S17) ∧ ((w32 x1 = 9) → ∃ (S19 : ms), EV q 318 0 [some (.ref 367), none, none, none, none, none, none, none] [] S none S19 ∧ r = none ∧ S' = S19) ∧ ((¬ w32 x1 = 1) → (¬ w32 x1 = 2) → (¬ w32 x1 = 3) → (¬ w32 x1 = 4) → (¬ w32 x1 = 5) → (¬ w32 x1 = 6) → (¬ w32 x1 = 7) → (¬ w32 x1 = 8) → (¬ w32 x1 = 9) → ∃ (S1 : ms), EV q 326 0 [some (.ref 367), none, none, none, none, none, none, none, none, none, none] [] S none S1 ∧ r = none ∧ S' = S1)) : EV q 279 0 [some (.ref 367), some (vI x1), some (vI x2)] [] S r S' := by
  unfold EV
  refine ev_bk 1 (S' := (1, [some (.ref 367), some (vI x1), some (vI x2)], [vI x1], hp S, 0, 0)) rfl ?_
  by_cases d0 : w32 x1 < 1
  · have F := F.2.2.2.2.2.2.2.2.2 (ts_lo d0 (by decide)) (ts_lo d0 (by decide)) (ts_lo d0 (by decide)) (ts_lo d0 (by decide)) (ts_lo d0 (by decide)) (ts_lo d0 (by decide)) (ts_lo d0 (by decide)) (ts_lo d0 (by decide)) (ts_lo d0 (by decide))
    refine mv_tout 118 (Or.inl d0) rfl rfl ?_
    refine ev_bk 1 (S' := (119, [some (.ref 367), some (vI x1), some (vI x2)], [.ref 367], hp S, 0, 0)) rfl ?_
    obtain ⟨S1, e2, F⟩ := F
    refine mv_calv (as := []) (rest := []) e2 (sh_367) rfl rfl rfl ⟨rfl, rfl⟩ rfl rfl rfl rfl rfl ?_
    obtain ⟨rfl, rfl⟩ := F
    exact ev_ret rfl rfl
  by_cases d1 : w32 x1 < 2
  · have e := ts_eq d0 d1
    have F := F.1 e
    refine mv_tin 52 1 e rfl (by decide) rfl rfl ?_
    refine ev_bk 1 (S' := (53, [some (.ref 367), some (vI x1), some (vI x2)], [.ref 367], hp S, 0, 0)) rfl ?_
    obtain ⟨S3, e4, F⟩ := F
    refine mv_calv (as := []) (rest := []) e4 (sh_367) rfl rfl rfl ⟨rfl, rfl⟩ rfl rfl rfl rfl rfl ?_
    refine mv_goto 122 rfl rfl ?_
    obtain ⟨rfl, rfl⟩ := F
    exact ev_ret rfl rfl
  by_cases d2 : w32 x1 < 3
  · have e := ts_eq d1 d2
    have F := F.2.1 e
    refine mv_tin 59 2 e rfl (by decide) rfl rfl ?_
    refine ev_bk 1 (S' := (60, [some (.ref 367), some (vI x1), some (vI x2)], [.ref 367], hp S, 0, 0)) rfl ?_
    obtain ⟨S5, e6, F⟩ := F
    refine mv_calv (as := []) (rest := []) e6 (sh_367) rfl rfl rfl ⟨rfl, rfl⟩ rfl rfl rfl rfl rfl ?_
    refine mv_goto 122 rfl rfl ?_
    obtain ⟨rfl, rfl⟩ := F
    exact ev_ret rfl rfl
  by_cases d3 : w32 x1 < 4
  · have e := ts_eq d2 d3
    have F := F.2.2.1 e
    refine mv_tin 66 3 e rfl (by decide) rfl rfl ?_
    refine ev_bk 2 (S' := (68, [some (.ref 367), some (vI x1), some (vI x2)], [vI x2, .ref 367], hp S, 0, 0)) rfl ?_
    obtain ⟨S7, e8, F⟩ := F
    refine mv_calv (as := [vI x2]) (rest := []) e8 (sh_367) rfl rfl rfl ⟨rfl, rfl⟩ rfl rfl rfl rfl rfl ?_
    refine mv_goto 122 rfl rfl ?_
    obtain ⟨rfl, rfl⟩ := F
    exact ev_ret rfl rfl
  by_cases d4 : w32 x1 < 5
  · have e := ts_eq d3 d4
    have F := F.2.2.2.1 e
    refine mv_tin 74 4 e rfl (by decide) rfl rfl ?_
    refine ev_bk 2 (S' := (76, [some (.ref 367), some (vI x1), some (vI x2)], [vI x2, .ref 367], hp S, 0, 0)) rfl ?_
    obtain ⟨S9, e10, F⟩ := F
    refine mv_calv (as := [vI x2]) (rest := []) e10 (sh_367) rfl rfl rfl ⟨rfl, rfl⟩ rfl rfl rfl rfl rfl ?_
    refine mv_goto 122 rfl rfl ?_
    obtain ⟨rfl, rfl⟩ := F
    exact ev_ret rfl rfl
  by_cases d5 : w32 x1 < 6
  · have e := ts_eq d4 d5
    have F := F.2.2.2.2.1 e
    refine mv_tin 82 5 e rfl (by decide) rfl rfl ?_
    refine ev_bk 2 (S' := (84, [some (.ref 367), some (vI x1), some (vI x2)], [vI x2, .ref 367], hp S, 0, 0)) rfl ?_
    obtain ⟨S11, e12, F⟩ := F
    refine mv_calv (as := [vI x2]) (rest := []) e12 (sh_367) rfl rfl rfl ⟨rfl, rfl⟩ rfl rfl rfl rfl rfl ?_
    refine mv_goto 122 rfl rfl ?_
    obtain ⟨rfl, rfl⟩ := F
    exact ev_ret rfl rfl
  by_cases d6 : w32 x1 < 7
  · have e := ts_eq d5 d6
    have F := F.2.2.2.2.2.1 e
    refine mv_tin 90 6 e rfl (by decide) rfl rfl ?_
    refine ev_bk 1 (S' := (91, [some (.ref 367), some (vI x1), some (vI x2)], [.ref 367], hp S, 0, 0)) rfl ?_
    obtain ⟨S13, e14, F⟩ := F
    refine mv_calv (as := []) (rest := []) e14 (sh_367) rfl rfl rfl ⟨rfl, rfl⟩ rfl rfl rfl rfl rfl ?_
    refine mv_goto 122 rfl rfl ?_
    obtain ⟨rfl, rfl⟩ := F
    exact ev_ret rfl rfl
  by_cases d7 : w32 x1 < 8
  · have e := ts_eq d6 d7
    have F := F.2.2.2.2.2.2.1 e
    refine mv_tin 97 7 e rfl (by decide) rfl rfl ?_
    refine ev_bk 1 (S' := (98, [some (.ref 367), some (vI x1), some (vI x2)], [.ref 367], hp S, 0, 0)) rfl ?_
    obtain ⟨S15, e16, F⟩ := F
    refine mv_calv (as := []) (rest := []) e16 (sh_367) rfl rfl rfl ⟨rfl, rfl⟩ rfl rfl rfl rfl rfl ?_
    refine mv_goto 122 rfl rfl ?_
    obtain ⟨rfl, rfl⟩ := F
    exact ev_ret rfl rfl
  by_cases d8 : w32 x1 < 9
  · have e := ts_eq d7 d8
    have F := F.2.2.2.2.2.2.2.1 e
    refine mv_tin 104 8 e rfl (by decide) rfl rfl ?_
    refine ev_bk 1 (S' := (105, [some (.ref 367), some (vI x1), some (vI x2)], [.ref 367], hp S, 0, 0)) rfl ?_
    obtain ⟨S17, e18, F⟩ := F
    refine mv_calv (as := []) (rest := []) e18 (sh_367) rfl rfl rfl ⟨rfl, rfl⟩ rfl rfl rfl rfl rfl ?_
    refine mv_goto 122 rfl rfl ?_
    obtain ⟨rfl, rfl⟩ := F
    exact ev_ret rfl rfl
  by_cases d9 : w32 x1 < 10
  · have e := ts_eq d8 d9
    have F := F.2.2.2.2.2.2.2.2.1 e
    refine mv_tin 111 9 e rfl (by decide) rfl rfl ?_
    refine ev_bk 1 (S' := (112, [some (.ref 367), some (vI x1), some (vI x2)], [.ref 367], hp S, 0, 0)) rfl ?_
    obtain ⟨S19, e20, F⟩ := F
    refine mv_calv (as := []) (rest := []) e20 (sh_367) rfl rfl rfl ⟨rfl, rfl⟩ rfl rfl rfl rfl rfl ?_
    refine mv_goto 122 rfl rfl ?_
    obtain ⟨rfl, rfl⟩ := F
    exact ev_ret rfl rfl
  have F := F.2.2.2.2.2.2.2.2.2 (ts_hi d9 (by decide)) (ts_hi d9 (by decide)) (ts_hi d9 (by decide)) (ts_hi d9 (by decide)) (ts_hi d9 (by decide)) (ts_hi d9 (by decide)) (ts_hi d9 (by decide)) (ts_hi d9 (by decide)) (ts_hi d9 (by decide))
  refine mv_tout 118 (Or.inr (ts_gt (hi := 9) d9)) rfl rfl ?_
  refine ev_bk 1 (S' := (119, [some (.ref 367), some (vI x1), some (vI x2)], [.ref 367], hp S, 0, 0)) rfl ?_
  obtain ⟨S1, e2, F⟩ := F
  refine mv_calv (as := []) (rest := []) e2 (sh_367) rfl rfl rfl ⟨rfl, rfl⟩ rfl rfl rfl rfl rfl ?_
  obtain ⟨rfl, rfl⟩ := F
  exact ev_ret rfl rfl
theorem vc_MD_packRuns {q : Nat × (Nat → Int32)} {S S' : ms} {r : Option Value}
    (F : EV q 280 2 [some (.ref 367), some (vI 0), none, none] [] S r S') : EV q 280 0 [some (.ref 367), none, none, none] [] S r S' := by
  unfold EV
  refine ev_bk 2 (S' := (2, [some (.ref 367), some (vI 0), none, none], [], hp S, 0, 0)) rfl ?_
  exact F
theorem vc_MD_packRuns_2 {q : Nat × (Nat → Int32)} {S S' : ms} {r : Option Value} (x1 : Int)
    (F : ((w32 (S.1 367 2) ≤ w32 x1) → r = none ∧ S' = S) ∧ ((¬ w32 (S.1 367 2) ≤ w32 x1) → ∃ (z3 : Int) (S1 : ms), EV q 281 0 [some (.ref 368), some (vI x1), some (vI (S.1 367 2)), some (vI 128), none] [] S (some (vI z3)) S1 ∧ ((w32 z3 < 3) → EV q 280 59 [some (.ref 367), some (vI x1), some (vI z3), some (vI x1)] [] S1 r S') ∧ ((¬ w32 z3 < 3) → ∃ (S4 : ms), EV q 282 0 [some (.ref 367), some (vI (257 - z3))] [] S1 none S4 ∧ (0 ≤ w32 x1 ∧ w32 x1 < (6000 : Nat)) ∧ ∃ (S7 : ms), EV q 282 0 [some (.ref 367), some (vI (S4.1 368 (w32 x1)))] [] S4 none S7 ∧ EV q 280 2 [some (.ref 367), some (vI (x1 + z3)), none, none] [] S7 r S'))) : EV q 280 2 [some (.ref 367), some (vI x1), none, none] [] S r S' := by
  unfold EV
  refine ev_bk 2 (S' := (4, [some (.ref 367), some (vI x1), none, none], [.ref 367, vI x1], hp S, 0, 0)) rfl ?_
  refine mv_gfI rfl rfl (sh_367) (by decide) rfl ?_
  refine mv_icmp 132 rfl rfl (fun c => ?_) (fun c => ?_)
  · have F := F.1 c
    obtain ⟨rfl, rfl⟩ := F
    exact ev_ret rfl rfl
  · have F := F.2 c
    refine ev_bk 1 (S' := (11, [some (.ref 367), some (vI x1), none, none], [.ref 367], hp S, 0, 0)) rfl ?_
    refine mv_gfR rfl rfl (sh_367) (by decide) rfl ?_
    refine ev_bk 2 (S' := (16, [some (.ref 367), some (vI x1), none, none], [.ref 367, vI x1, .ref 368], hp S, 0, 0)) rfl ?_
    refine mv_gfI rfl rfl (sh_367) (by decide) rfl ?_
    refine ev_bk 1 (S' := (22, [some (.ref 367), some (vI x1), none, none], [vI 128, vI (S.1 367 2), vI x1, .ref 368], hp S, 0, 0)) rfl ?_
    obtain ⟨z3, S1, e2, F⟩ := F
    refine mv_cals (as := [.ref 368, vI x1, vI (S.1 367 2), vI 128]) (rest := []) e2 rfl rfl rfl ⟨rfl, rfl, rfl⟩ rfl rfl rfl rfl ?_
    refine ev_bk 3 (S' := (28, [some (.ref 367), some (vI x1), some (vI z3), none], [vI 3, vI z3], hp S1, 0, 0)) rfl ?_
    refine mv_icmp 57 rfl rfl (fun c => ?_) (fun c => ?_)
    · have F := F.1 c
      refine ev_bk 2 (S' := (59, [some (.ref 367), some (vI x1), some (vI z3), some (vI x1)], [], hp S1, 0, 0)) rfl ?_
      exact F
    · have F := F.2 c
      refine ev_bk 3 (S' := (36, [some (.ref 367), some (vI x1), some (vI z3), none], [vI z3, vI 257, .ref 367], hp S1, 0, 0)) rfl ?_
      refine mv_isub rfl ?_
      obtain ⟨S4, e5, F⟩ := F
      refine mv_calv (as := [vI (257 - z3)]) (rest := []) e5 (sh_367) rfl rfl rfl ⟨rfl, rfl⟩ rfl rfl rfl rfl rfl ?_
      refine ev_bk 2 (S' := (42, [some (.ref 367), some (vI x1), some (vI z3), none], [.ref 367, .ref 367], hp S4, 0, 0)) rfl ?_
      refine mv_gfR rfl rfl (sh_367) (by decide) rfl ?_
      refine ev_bk 1 (S' := (46, [some (.ref 367), some (vI x1), some (vI z3), none], [vI x1, .ref 368, .ref 367], hp S4, 0, 0)) rfl ?_
      obtain ⟨b6, F⟩ := F
      refine mv_bal rfl (sh_368) b6 ?_
      obtain ⟨S7, e8, F⟩ := F
      refine mv_calv (as := [vI (S4.1 368 (w32 x1))]) (rest := []) e8 (sh_367) rfl rfl rfl ⟨rfl, rfl⟩ rfl rfl rfl rfl rfl ?_
      refine ev_bk 2 (S' := (52, [some (.ref 367), some (vI x1), some (vI z3), none], [vI z3, vI x1], hp S7, 0, 0)) rfl ?_
      refine mv_iadd rfl ?_
      refine ev_bk 1 (S' := (54, [some (.ref 367), some (vI (x1 + z3)), some (vI z3), none], [], hp S7, 0, 0)) rfl ?_
      refine mv_goto 2 rfl rfl ?_
      exact ev_wk (le_s (le_s (le_n (le_s le_0)))) F
theorem vc_MD_packRuns_59 {q : Nat × (Nat → Int32)} {S S' : ms} {r : Option Value} (x1 x2 x3 : Int)
    (F : ((w32 (S.1 367 2) ≤ w32 x3) → EV q 280 99 [some (.ref 367), some (vI x1), some (vI x2), some (vI x3)] [] S r S') ∧ ((¬ w32 (S.1 367 2) ≤ w32 x3) → ((128 ≤ w32 (x3 - x1)) → EV q 280 99 [some (.ref 367), some (vI x1), some (vI x2), some (vI x3)] [] S r S') ∧ ((¬ 128 ≤ w32 (x3 - x1)) → ∃ (z3 : Int) (S1 : ms), EV q 281 0 [some (.ref 368), some (vI x3), some (vI (S.1 367 2)), some (vI 3), none] [] S (some (vI z3)) S1 ∧ ((3 ≤ w32 z3) → EV q 280 99 [some (.ref 367), some (vI x1), some (vI x2), some (vI x3)] [] S1 r S') ∧ ((¬ 3 ≤ w32 z3) → EV q 280 59 [some (.ref 367), some (vI x1), some (vI x2), some (vI (x3 + 1))] [] S1 r S')))) : EV q 280 59 [some (.ref 367), some (vI x1), some (vI x2), some (vI x3)] [] S r S' := by
  unfold EV
  refine ev_bk 2 (S' := (61, [some (.ref 367), some (vI x1), some (vI x2), some (vI x3)], [.ref 367, vI x3], hp S, 0, 0)) rfl ?_
  refine mv_gfI rfl rfl (sh_367) (by decide) rfl ?_
  refine mv_icmp 99 rfl rfl (fun c => ?_) (fun c => ?_)
  · have F := F.1 c
    exact F
  · have F := F.2 c
    refine ev_bk 2 (S' := (69, [some (.ref 367), some (vI x1), some (vI x2), some (vI x3)], [vI x1, vI x3], hp S, 0, 0)) rfl ?_
    refine mv_isub rfl ?_
    refine ev_bk 1 (S' := (73, [some (.ref 367), some (vI x1), some (vI x2), some (vI x3)], [vI 128, vI (x3 - x1)], hp S, 0, 0)) rfl ?_
    refine mv_icmp 99 rfl rfl (fun c => ?_) (fun c => ?_)
    · have F := F.1 c
      exact F
    · have F := F.2 c
      refine ev_bk 1 (S' := (77, [some (.ref 367), some (vI x1), some (vI x2), some (vI x3)], [.ref 367], hp S, 0, 0)) rfl ?_
      refine mv_gfR rfl rfl (sh_367) (by decide) rfl ?_
      refine ev_bk 2 (S' := (82, [some (.ref 367), some (vI x1), some (vI x2), some (vI x3)], [.ref 367, vI x3, .ref 368], hp S, 0, 0)) rfl ?_
      refine mv_gfI rfl rfl (sh_367) (by decide) rfl ?_
      refine ev_bk 1 (S' := (86, [some (.ref 367), some (vI x1), some (vI x2), some (vI x3)], [vI 3, vI (S.1 367 2), vI x3, .ref 368], hp S, 0, 0)) rfl ?_
      obtain ⟨z3, S1, e2, F⟩ := F
      refine mv_cals (as := [.ref 368, vI x3, vI (S.1 367 2), vI 3]) (rest := []) e2 rfl rfl rfl ⟨rfl, rfl, rfl⟩ rfl rfl rfl rfl ?_
      refine ev_bk 1 (S' := (90, [some (.ref 367), some (vI x1), some (vI x2), some (vI x3)], [vI 3, vI z3], hp S1, 0, 0)) rfl ?_
      refine mv_icmp 99 rfl rfl (fun c => ?_) (fun c => ?_)
      · have F := F.1 c
        exact F
      · have F := F.2 c
        refine mv_inc (lv' := [some (.ref 367), some (vI x1), some (vI x2), some (vI (x3 + 1))]) 3 1 rfl rfl rfl rfl ?_
        refine mv_goto 59 rfl rfl ?_
        exact F
theorem vc_MD_packRuns_99 {q : Nat × (Nat → Int32)} {S S' : ms} {r : Option Value} (x1 x2 x3 : Int)
    (F : ∃ (S1 : ms), EV q 282 0 [some (.ref 367), some (vI ((x3 - x1) - 1))] [] S none S1 ∧ EV q 280 108 [some (.ref 367), some (vI x1), some (vI x2), some (vI x3)] [] S1 r S') : EV q 280 99 [some (.ref 367), some (vI x1), some (vI x2), some (vI x3)] [] S r S' := by
  unfold EV
  refine ev_bk 3 (S' := (102, [some (.ref 367), some (vI x1), some (vI x2), some (vI x3)], [vI x1, vI x3, .ref 367], hp S, 0, 0)) rfl ?_
  refine mv_isub rfl ?_
  refine ev_bk 1 (S' := (104, [some (.ref 367), some (vI x1), some (vI x2), some (vI x3)], [vI 1, vI (x3 - x1), .ref 367], hp S, 0, 0)) rfl ?_
  refine mv_isub rfl ?_
  obtain ⟨S1, e2, F⟩ := F
  refine mv_calv (as := [vI ((x3 - x1) - 1)]) (rest := []) e2 (sh_367) rfl rfl rfl ⟨rfl, rfl⟩ rfl rfl rfl rfl rfl ?_
  exact F
theorem vc_MD_packRuns_108 {q : Nat × (Nat → Int32)} {S S' : ms} {r : Option Value} (x1 x2 x3 : Int)
    (F : ((w32 x3 ≤ w32 x1) → EV q 280 2 [some (.ref 367), some (vI x1), none, none] [] S r S') ∧ ((¬ w32 x3 ≤ w32 x1) → (0 ≤ w32 x1 ∧ w32 x1 < (6000 : Nat)) ∧ ∃ (S2 : ms), EV q 282 0 [some (.ref 367), some (vI (S.1 368 (w32 x1)))] [] S none S2 ∧ EV q 280 108 [some (.ref 367), some (vI (x1 + 1)), some (vI x2), some (vI x3)] [] S2 r S')) : EV q 280 108 [some (.ref 367), some (vI x1), some (vI x2), some (vI x3)] [] S r S' := by
  unfold EV
  refine ev_bk 2 (S' := (110, [some (.ref 367), some (vI x1), some (vI x2), some (vI x3)], [vI x3, vI x1], hp S, 0, 0)) rfl ?_
  refine mv_icmp 129 rfl rfl (fun c => ?_) (fun c => ?_)
  · have F := F.1 c
    refine mv_goto 2 rfl rfl ?_
    exact ev_wk (le_s (le_s (le_n (le_n le_0)))) F
  · have F := F.2 c
    refine ev_bk 2 (S' := (115, [some (.ref 367), some (vI x1), some (vI x2), some (vI x3)], [.ref 367, .ref 367], hp S, 0, 0)) rfl ?_
    refine mv_gfR rfl rfl (sh_367) (by decide) rfl ?_
    refine ev_bk 1 (S' := (119, [some (.ref 367), some (vI x1), some (vI x2), some (vI x3)], [vI x1, .ref 368, .ref 367], hp S, 0, 0)) rfl ?_
    obtain ⟨b1, F⟩ := F
    refine mv_bal rfl (sh_368) b1 ?_
    obtain ⟨S2, e3, F⟩ := F
    refine mv_calv (as := [vI (S.1 368 (w32 x1))]) (rest := []) e3 (sh_367) rfl rfl rfl ⟨rfl, rfl⟩ rfl rfl rfl rfl rfl ?_
    refine mv_inc (lv' := [some (.ref 367), some (vI (x1 + 1)), some (vI x2), some (vI x3)]) 1 1 rfl rfl rfl rfl ?_
    refine mv_goto 108 rfl rfl ?_
    exact F
theorem vc_MD_alike {q : Nat × (Nat → Int32)} {S S' : ms} {r : Option Value} (x1 x2 x3 : Int) (a0 na0 : Nat) (ha0 : SH a0 = (1, na0, []))
    (F : EV q 281 3 [some (.ref a0), some (vI x1), some (vI x2), some (vI x3), some (vI 1)] [] S r S') : EV q 281 0 [some (.ref a0), some (vI x1), some (vI x2), some (vI x3), none] [] S r S' := by
  unfold EV
  refine ev_bk 2 (S' := (3, [some (.ref a0), some (vI x1), some (vI x2), some (vI x3), some (vI 1)], [], hp S, 0, 0)) rfl ?_
  exact F
theorem vc_MD_alike_3 {q : Nat × (Nat → Int32)} {S S' : ms} {r : Option Value} (x1 x2 x3 x4 : Int) (a0 na0 : Nat) (ha0 : SH a0 = (1, na0, []))
    (F : ((w32 x2 ≤ w32 (x1 + x4)) → r = some (vI x4) ∧ S' = S) ∧ ((¬ w32 x2 ≤ w32 (x1 + x4)) → ((w32 x3 ≤ w32 x4) → r = some (vI x4) ∧ S' = S) ∧ ((¬ w32 x3 ≤ w32 x4) → (0 ≤ w32 (x1 + x4) ∧ w32 (x1 + x4) < (na0 : Nat)) ∧ (0 ≤ w32 x1 ∧ w32 x1 < (na0 : Nat)) ∧ ((¬ w32 (S.1 a0 (w32 (x1 + x4))) = w32 (S.1 a0 (w32 x1))) → r = some (vI x4) ∧ S' = S) ∧ ((¬ (¬ w32 (S.1 a0 (w32 (x1 + x4))) = w32 (S.1 a0 (w32 x1)))) → EV q 281 3 [some (.ref a0), some (vI x1), some (vI x2), some (vI x3), some (vI (x4 + 1))] [] S r S')))) : EV q 281 3 [some (.ref a0), some (vI x1), some (vI x2), some (vI x3), some (vI x4)] [] S r S' := by
  unfold EV
  refine ev_bk 2 (S' := (6, [some (.ref a0), some (vI x1), some (vI x2), some (vI x3), some (vI x4)], [vI x4, vI x1], hp S, 0, 0)) rfl ?_
  refine mv_iadd rfl ?_
  refine ev_bk 1 (S' := (8, [some (.ref a0), some (vI x1), some (vI x2), some (vI x3), some (vI x4)], [vI x2, vI (x1 + x4)], hp S, 0, 0)) rfl ?_
  refine mv_icmp 35 rfl rfl (fun c => ?_) (fun c => ?_)
  · have F := F.1 c
    refine ev_bk 1 (S' := (37, [some (.ref a0), some (vI x1), some (vI x2), some (vI x3), some (vI x4)], [vI x4], hp S, 0, 0)) rfl ?_
    obtain ⟨rfl, rfl⟩ := F
    exact ev_ret rfl rfl
  · have F := F.2 c
    refine ev_bk 2 (S' := (14, [some (.ref a0), some (vI x1), some (vI x2), some (vI x3), some (vI x4)], [vI x3, vI x4], hp S, 0, 0)) rfl ?_
    refine mv_icmp 35 rfl rfl (fun c => ?_) (fun c => ?_)
    · have F := F.1 c
      refine ev_bk 1 (S' := (37, [some (.ref a0), some (vI x1), some (vI x2), some (vI x3), some (vI x4)], [vI x4], hp S, 0, 0)) rfl ?_
      obtain ⟨rfl, rfl⟩ := F
      exact ev_ret rfl rfl
    · have F := F.2 c
      refine ev_bk 3 (S' := (21, [some (.ref a0), some (vI x1), some (vI x2), some (vI x3), some (vI x4)], [vI x4, vI x1, .ref a0], hp S, 0, 0)) rfl ?_
      refine mv_iadd rfl ?_
      obtain ⟨b1, F⟩ := F
      refine mv_bal rfl (ha0) b1 ?_
      refine ev_bk 2 (S' := (25, [some (.ref a0), some (vI x1), some (vI x2), some (vI x3), some (vI x4)], [vI x1, .ref a0, vI (S.1 a0 (w32 (x1 + x4)))], hp S, 0, 0)) rfl ?_
      obtain ⟨b2, F⟩ := F
      refine mv_bal rfl (ha0) b2 ?_
      refine mv_icmp 35 rfl rfl (fun c => ?_) (fun c => ?_)
      · have F := F.1 c
        refine ev_bk 1 (S' := (37, [some (.ref a0), some (vI x1), some (vI x2), some (vI x3), some (vI x4)], [vI x4], hp S, 0, 0)) rfl ?_
        obtain ⟨rfl, rfl⟩ := F
        exact ev_ret rfl rfl
      · have F := F.2 c
        refine mv_inc (lv' := [some (.ref a0), some (vI x1), some (vI x2), some (vI x3), some (vI (x4 + 1))]) 4 1 rfl rfl rfl rfl ?_
        refine mv_goto 3 rfl rfl ?_
        exact F
theorem vc_MD_put {q : Nat × (Nat → Int32)} {S S' : ms} {r : Option Value} (x1 : Int)
    (F : ((30000 ≤ w32 (S.1 367 9)) → EV q 282 21 [some (.ref 367), some (vI x1)] [] S r S') ∧ ((¬ 30000 ≤ w32 (S.1 367 9)) → (0 ≤ w32 (S.1 367 9) ∧ w32 (S.1 367 9) < (30000 : Nat)) ∧ ∀ S2 : ms, S2 = wI S 374 (w32 (S.1 367 9)) (b8 (b8 x1)) → EV q 282 21 [some (.ref 367), some (vI x1)] [] S2 r S')) : EV q 282 0 [some (.ref 367), some (vI x1)] [] S r S' := by
  unfold EV
  refine ev_bk 1 (S' := (1, [some (.ref 367), some (vI x1)], [.ref 367], hp S, 0, 0)) rfl ?_
  refine mv_gfI rfl rfl (sh_367) (by decide) rfl ?_
  refine ev_bk 1 (S' := (7, [some (.ref 367), some (vI x1)], [vI 30000, vI (S.1 367 9)], hp S, 0, 0)) rfl ?_
  refine mv_icmp 21 rfl rfl (fun c => ?_) (fun c => ?_)
  · have F := F.1 c
    exact F
  · have F := F.2 c
    refine ev_bk 1 (S' := (11, [some (.ref 367), some (vI x1)], [.ref 367], hp S, 0, 0)) rfl ?_
    refine mv_gfR rfl rfl (sh_367) (by decide) rfl ?_
    refine ev_bk 1 (S' := (15, [some (.ref 367), some (vI x1)], [.ref 367, .ref 374], hp S, 0, 0)) rfl ?_
    refine mv_gfI rfl rfl (sh_367) (by decide) rfl ?_
    refine ev_bk 1 (S' := (19, [some (.ref 367), some (vI x1)], [vI x1, vI (S.1 367 9), .ref 374], hp S, 0, 0)) rfl ?_
    refine mv_i2b rfl ?_
    obtain ⟨b1, F⟩ := F
    refine mv_bas rfl (sh_374) b1 ?_
    have F := F _ rfl
    exact F
theorem vc_MD_put_21 {q : Nat × (Nat → Int32)} {S S' : ms} {r : Option Value} (x1 : Int)
    (F : ∀ S1 : ms, S1 = wI S 367 9 (S.1 367 9 + 1) → r = none ∧ S' = S1) : EV q 282 21 [some (.ref 367), some (vI x1)] [] S r S' := by
  unfold EV
  refine ev_bk 2 (S' := (23, [some (.ref 367), some (vI x1)], [.ref 367, .ref 367], hp S, 0, 0)) rfl ?_
  refine mv_gfI rfl rfl (sh_367) (by decide) rfl ?_
  refine ev_bk 1 (S' := (27, [some (.ref 367), some (vI x1)], [vI 1, vI (S.1 367 9), .ref 367], hp S, 0, 0)) rfl ?_
  refine mv_iadd rfl ?_
  refine mv_pfI rfl rfl (sh_367) (by decide) rfl rfl ?_
  have F := F _ rfl
  obtain ⟨rfl, rfl⟩ := F
  exact ev_ret rfl rfl
theorem vc_MD_packWords {q : Nat × (Nat → Int32)} {S S' : ms} {r : Option Value}
    (F : ∃ (S1 : ms), EV q 284 0 [some (.ref 367), some (vL 256), none, some (vI 9), none] [] S none S1 ∧ EV q 283 18 [some (.ref 367), some (vI 0), some (vI 0), some (vI 0), some (vI 0), none, none, none] [] S1 r S') : EV q 283 0 [some (.ref 367), none, none, none, none, none, none, none] [] S r S' := by
  unfold EV
  refine ev_bk 3 (S' := (6, [some (.ref 367), none, none, none, none, none, none, none], [vI 9, vL 256, .ref 367], hp S, 0, 0)) rfl ?_
  obtain ⟨S1, e2, F⟩ := F
  refine mv_calv (as := [vL 256, vI 9]) (rest := []) e2 (sh_367) rfl rfl rfl ⟨rfl, rfl⟩ rfl rfl rfl rfl rfl ?_
  refine ev_bk 8 (S' := (18, [some (.ref 367), some (vI 0), some (vI 0), some (vI 0), some (vI 0), none, none, none], [], hp S1, 0, 0)) rfl ?_
  exact F
theorem vc_MD_packWords_18 {q : Nat × (Nat → Int32)} {S S' : ms} {r : Option Value} (x1 x2 x3 x4 : Int)
    (F : ((w32 (S.1 367 2) ≤ w32 x2) → ((¬ w32 x1 = 3838) → EV q 283 294 [some (.ref 367), some (vI x1), some (vI x2), some (vI x3), some (vI x4), none, none, none] [] S r S') ∧ ((¬ (¬ w32 x1 = 3838)) → ∃ (z3 : Int) (S1 : ms), EV q 286 0 [some (vI x1), none] [] S (some (vI z3)) S1 ∧ ∃ (S4 : ms), EV q 284 0 [some (.ref 367), some (vL 256), none, some (vI z3), none] [] S1 none S4 ∧ EV q 283 294 [some (.ref 367), some (vI 0), some (vI x2), some (vI x3), some (vI x4), none, none, none] [] S4 r S')) ∧ ((¬ w32 (S.1 367 2) ≤ w32 x2) → ((¬ w32 x1 = 3838) → EV q 283 46 [some (.ref 367), some (vI x1), some (vI x2), some (vI x3), some (vI x4), none, none, none] [] S r S') ∧ ((¬ (¬ w32 x1 = 3838)) → ∃ (z8 : Int) (S6 : ms), EV q 286 0 [some (vI x1), none] [] S (some (vI z8)) S6 ∧ ∃ (S9 : ms), EV q 284 0 [some (.ref 367), some (vL 256), none, some (vI z8), none] [] S6 none S9 ∧ EV q 283 46 [some (.ref 367), some (vI 0), some (vI x2), some (vI x3), some (vI x4), none, none, none] [] S9 r S'))) : EV q 283 18 [some (.ref 367), some (vI x1), some (vI x2), some (vI x3), some (vI x4), none, none, none] [] S r S' := by
  unfold EV
  refine ev_bk 2 (S' := (20, [some (.ref 367), some (vI x1), some (vI x2), some (vI x3), some (vI x4), none, none, none], [.ref 367, vI x2], hp S, 0, 0)) rfl ?_
  refine mv_gfI rfl rfl (sh_367) (by decide) rfl ?_
  refine mv_icmp 274 rfl rfl (fun c => ?_) (fun c => ?_)
  · have F := F.1 c
    refine ev_bk 2 (S' := (278, [some (.ref 367), some (vI x1), some (vI x2), some (vI x3), some (vI x4), none, none, none], [vI 3838, vI x1], hp S, 0, 0)) rfl ?_
    refine mv_icmp 294 rfl rfl (fun c => ?_) (fun c => ?_)
    · have F := F.1 c
      exact F
    · have F := F.2 c
      refine ev_bk 3 (S' := (286, [some (.ref 367), some (vI x1), some (vI x2), some (vI x3), some (vI x4), none, none, none], [vI x1, vL 256, .ref 367], hp S, 0, 0)) rfl ?_
      obtain ⟨z3, S1, e2, F⟩ := F
      refine mv_cals (as := [vI x1]) (rest := [vL 256, .ref 367]) e2 rfl rfl rfl ⟨rfl, rfl, rfl⟩ rfl rfl rfl rfl ?_
      obtain ⟨S4, e5, F⟩ := F
      refine mv_calv (as := [vL 256, vI z3]) (rest := []) e5 (sh_367) rfl rfl rfl ⟨rfl, rfl⟩ rfl rfl rfl rfl rfl ?_
      refine ev_bk 2 (S' := (294, [some (.ref 367), some (vI 0), some (vI x2), some (vI x3), some (vI x4), none, none, none], [], hp S4, 0, 0)) rfl ?_
      exact F
  · have F := F.2 c
    refine ev_bk 2 (S' := (30, [some (.ref 367), some (vI x1), some (vI x2), some (vI x3), some (vI x4), none, none, none], [vI 3838, vI x1], hp S, 0, 0)) rfl ?_
    refine mv_icmp 46 rfl rfl (fun c => ?_) (fun c => ?_)
    · have F := F.1 c
      exact F
    · have F := F.2 c
      refine ev_bk 3 (S' := (38, [some (.ref 367), some (vI x1), some (vI x2), some (vI x3), some (vI x4), none, none, none], [vI x1, vL 256, .ref 367], hp S, 0, 0)) rfl ?_
      obtain ⟨z8, S6, e7, F⟩ := F
      refine mv_cals (as := [vI x1]) (rest := [vL 256, .ref 367]) e7 rfl rfl rfl ⟨rfl, rfl, rfl⟩ rfl rfl rfl rfl ?_
      obtain ⟨S9, e10, F⟩ := F
      refine mv_calv (as := [vL 256, vI z8]) (rest := []) e10 (sh_367) rfl rfl rfl ⟨rfl, rfl⟩ rfl rfl rfl rfl rfl ?_
      refine ev_bk 2 (S' := (46, [some (.ref 367), some (vI 0), some (vI x2), some (vI x3), some (vI x4), none, none, none], [], hp S9, 0, 0)) rfl ?_
      exact F
theorem vc_MD_packWords_46 {q : Nat × (Nat → Int32)} {S S' : ms} {r : Option Value} (x1 x2 x3 x4 : Int)
    (F : (0 ≤ w32 x2 ∧ w32 x2 < (6000 : Nat)) ∧ EV q 283 64 [some (.ref 367), some (vI x1), some (vI x2), some (vI x3), some (vI x4), some (vI ((S.1 368 (w32 x2)) % 256)), some (vI 1), some (vI 0)] [] S r S') : EV q 283 46 [some (.ref 367), some (vI x1), some (vI x2), some (vI x3), some (vI x4), none, none, none] [] S r S' := by
  unfold EV
  refine ev_bk 1 (S' := (47, [some (.ref 367), some (vI x1), some (vI x2), some (vI x3), some (vI x4), none, none, none], [.ref 367], hp S, 0, 0)) rfl ?_
  refine mv_gfR rfl rfl (sh_367) (by decide) rfl ?_
  refine ev_bk 1 (S' := (51, [some (.ref 367), some (vI x1), some (vI x2), some (vI x3), some (vI x4), none, none, none], [vI x2, .ref 368], hp S, 0, 0)) rfl ?_
  obtain ⟨b1, F⟩ := F
  refine mv_bal rfl (sh_368) b1 ?_
  refine ev_bk 1 (S' := (55, [some (.ref 367), some (vI x1), some (vI x2), some (vI x3), some (vI x4), none, none, none], [vI 255, vI (S.1 368 (w32 x2))], hp S, 0, 0)) rfl ?_
  refine mv_iandm 256 8 (by decide) rfl rfl rfl ?_
  refine ev_bk 5 (S' := (64, [some (.ref 367), some (vI x1), some (vI x2), some (vI x3), some (vI x4), some (vI ((S.1 368 (w32 x2)) % 256)), some (vI 1), some (vI 0)], [], hp S, 0, 0)) rfl ?_
  exact F
theorem vc_MD_packWords_64 {q : Nat × (Nat → Int32)} {S S' : ms} {r : Option Value} (x1 x2 x3 x4 x5 x6 x7 : Int)
    (F : ((w32 (x1 - 1) ≤ w32 x7) → ((w32 x1 ≤ 0) → EV q 283 223 [some (.ref 367), some (vI x1), some (vI x2), some (vI x3), some (vI x4), some (vI x5), some (vI x6), some (vI (x4 + 1))] [] S r S') ∧ ((¬ w32 x1 ≤ 0) → ((w32 (x4 + 1) ≤ w32 x6) → EV q 283 223 [some (.ref 367), some (vI x1), some (vI x2), some (vI x3), some (vI x4), some (vI x5), some (vI x6), some (vI (x4 + 1))] [] S r S') ∧ ((¬ w32 (x4 + 1) ≤ w32 x6) → ((w32 (S.1 367 2) < w32 (x2 + (x4 + 1))) → EV q 283 223 [some (.ref 367), some (vI x1), some (vI x2), some (vI x3), some (vI x4), some (vI x5), some (vI x6), some (vI (x4 + 1))] [] S r S') ∧ ((¬ w32 (S.1 367 2) < w32 (x2 + (x4 + 1))) → ∃ (z3 : Int) (S1 : ms), EV q 287 0 [some (.ref 367), some (.ref 368), some (vI x3), some (vI x2), some (vI x4), none] [] S (some (vI z3)) S1 ∧ ((w32 z3 = 0) → EV q 283 223 [some (.ref 367), some (vI x1), some (vI x2), some (vI x3), some (vI x4), some (vI x5), some (vI x6), some (vI (x4 + 1))] [] S1 r S') ∧ ((¬ w32 z3 = 0) → (0 ≤ w32 (x2 + x4) ∧ w32 (x2 + x4) < (6000 : Nat)) ∧ (0 ≤ w32 x2 ∧ w32 x2 < (6000 : Nat)) ∧ ((¬ w32 (S1.1 368 (w32 (x2 + x4))) = w32 (S1.1 368 (w32 x2))) → EV q 283 223 [some (.ref 367), some (vI x1), some (vI x2), some (vI x3), some (vI x4), some (vI x5), some (vI x6), some (vI (x4 + 1))] [] S1 r S') ∧ ((¬ (¬ w32 (S1.1 368 (w32 (x2 + x4))) = w32 (S1.1 368 (w32 x2)))) → EV q 283 223 [some (.ref 367), some (vI x1), some (vI x2), some (vI x3), some (vI x4), some (vI ((258 + x1) - 1)), some (vI (x4 + 1)), some (vI (x4 + 1))] [] S1 r S')))))) ∧ ((¬ w32 (x1 - 1) ≤ w32 x7) → (0 ≤ w32 x7 ∧ w32 x7 < (4200 : Nat)) ∧ ((w32 (S.1 384 (w32 x7)) ≤ w32 x6) → EV q 283 143 [some (.ref 367), some (vI x1), some (vI x2), some (vI x3), some (vI x4), some (vI x5), some (vI x6), some (vI x7)] [] S r S') ∧ ((¬ w32 (S.1 384 (w32 x7)) ≤ w32 x6) → (0 ≤ w32 x7 ∧ w32 x7 < (4200 : Nat)) ∧ ((w32 (S.1 367 2) < w32 (x2 + (S.1 384 (w32 x7)))) → EV q 283 143 [some (.ref 367), some (vI x1), some (vI x2), some (vI x3), some (vI x4), some (vI x5), some (vI x6), some (vI x7)] [] S r S') ∧ ((¬ w32 (S.1 367 2) < w32 (x2 + (S.1 384 (w32 x7)))) → (0 ≤ w32 x7 ∧ w32 x7 < (4200 : Nat)) ∧ (0 ≤ w32 x7 ∧ w32 x7 < (4200 : Nat)) ∧ ∃ (z12 : Int) (S10 : ms), EV q 287 0 [some (.ref 367), some (.ref 368), some (vI (S.1 383 (w32 x7))), some (vI x2), some (vI (S.1 384 (w32 x7))), none] [] S (some (vI z12)) S10 ∧ ((w32 z12 = 0) → EV q 283 143 [some (.ref 367), some (vI x1), some (vI x2), some (vI x3), some (vI x4), some (vI x5), some (vI x6), some (vI x7)] [] S10 r S') ∧ ((¬ w32 z12 = 0) → (0 ≤ w32 x7 ∧ w32 x7 < (4200 : Nat)) ∧ EV q 283 143 [some (.ref 367), some (vI x1), some (vI x2), some (vI x3), some (vI x4), some (vI (258 + x7)), some (vI (S10.1 384 (w32 x7))), some (vI x7)] [] S10 r S'))))) : EV q 283 64 [some (.ref 367), some (vI x1), some (vI x2), some (vI x3), some (vI x4), some (vI x5), some (vI x6), some (vI x7)] [] S r S' := by
  unfold EV
  refine ev_bk 3 (S' := (68, [some (.ref 367), some (vI x1), some (vI x2), some (vI x3), some (vI x4), some (vI x5), some (vI x6), some (vI x7)], [vI 1, vI x1, vI x7], hp S, 0, 0)) rfl ?_
  refine mv_isub rfl ?_
  refine mv_icmp 149 rfl rfl (fun c => ?_) (fun c => ?_)
  · have F := F.1 c
    refine ev_bk 2 (S' := (152, [some (.ref 367), some (vI x1), some (vI x2), some (vI x3), some (vI x4), some (vI x5), some (vI x6), some (vI x7)], [vI 1, vI x4], hp S, 0, 0)) rfl ?_
    refine mv_iadd rfl ?_
    refine ev_bk 2 (S' := (156, [some (.ref 367), some (vI x1), some (vI x2), some (vI x3), some (vI x4), some (vI x5), some (vI x6), some (vI (x4 + 1))], [vI x1], hp S, 0, 0)) rfl ?_
    refine mv_if 223 rfl rfl (fun c => ?_) (fun c => ?_)
    · have F := F.1 c
      exact F
    · have F := F.2 c
      refine ev_bk 2 (S' := (163, [some (.ref 367), some (vI x1), some (vI x2), some (vI x3), some (vI x4), some (vI x5), some (vI x6), some (vI (x4 + 1))], [vI x6, vI (x4 + 1)], hp S, 0, 0)) rfl ?_
      refine mv_icmp 223 rfl rfl (fun c => ?_) (fun c => ?_)
      · have F := F.1 c
        exact F
      · have F := F.2 c
        refine ev_bk 2 (S' := (169, [some (.ref 367), some (vI x1), some (vI x2), some (vI x3), some (vI x4), some (vI x5), some (vI x6), some (vI (x4 + 1))], [vI (x4 + 1), vI x2], hp S, 0, 0)) rfl ?_
        refine mv_iadd rfl ?_
        refine ev_bk 1 (S' := (171, [some (.ref 367), some (vI x1), some (vI x2), some (vI x3), some (vI x4), some (vI x5), some (vI x6), some (vI (x4 + 1))], [.ref 367, vI (x2 + (x4 + 1))], hp S, 0, 0)) rfl ?_
        refine mv_gfI rfl rfl (sh_367) (by decide) rfl ?_
        refine mv_icmp 223 rfl rfl (fun c => ?_) (fun c => ?_)
        · have F := F.1 c
          exact F
        · have F := F.2 c
          refine ev_bk 2 (S' := (179, [some (.ref 367), some (vI x1), some (vI x2), some (vI x3), some (vI x4), some (vI x5), some (vI x6), some (vI (x4 + 1))], [.ref 367, .ref 367], hp S, 0, 0)) rfl ?_
          refine mv_gfR rfl rfl (sh_367) (by decide) rfl ?_
          refine ev_bk 3 (S' := (186, [some (.ref 367), some (vI x1), some (vI x2), some (vI x3), some (vI x4), some (vI x5), some (vI x6), some (vI (x4 + 1))], [vI x4, vI x2, vI x3, .ref 368, .ref 367], hp S, 0, 0)) rfl ?_
          obtain ⟨z3, S1, e2, F⟩ := F
          refine mv_calv (as := [.ref 368, vI x3, vI x2, vI x4]) (rest := []) e2 (sh_367) rfl rfl rfl ⟨rfl, rfl⟩ rfl rfl rfl rfl rfl ?_
          refine mv_if 223 rfl rfl (fun c => ?_) (fun c => ?_)
          · have F := F.1 c
            exact F
          · have F := F.2 c
            refine ev_bk 1 (S' := (193, [some (.ref 367), some (vI x1), some (vI x2), some (vI x3), some (vI x4), some (vI x5), some (vI x6), some (vI (x4 + 1))], [.ref 367], hp S1, 0, 0)) rfl ?_
            refine mv_gfR rfl rfl (sh_367) (by decide) rfl ?_
            refine ev_bk 2 (S' := (199, [some (.ref 367), some (vI x1), some (vI x2), some (vI x3), some (vI x4), some (vI x5), some (vI x6), some (vI (x4 + 1))], [vI x4, vI x2, .ref 368], hp S1, 0, 0)) rfl ?_
            refine mv_iadd rfl ?_
            obtain ⟨b4, F⟩ := F
            refine mv_bal rfl (sh_368) b4 ?_
            refine ev_bk 1 (S' := (202, [some (.ref 367), some (vI x1), some (vI x2), some (vI x3), some (vI x4), some (vI x5), some (vI x6), some (vI (x4 + 1))], [.ref 367, vI (S1.1 368 (w32 (x2 + x4)))], hp S1, 0, 0)) rfl ?_
            refine mv_gfR rfl rfl (sh_367) (by decide) rfl ?_
            refine ev_bk 1 (S' := (206, [some (.ref 367), some (vI x1), some (vI x2), some (vI x3), some (vI x4), some (vI x5), some (vI x6), some (vI (x4 + 1))], [vI x2, .ref 368, vI (S1.1 368 (w32 (x2 + x4)))], hp S1, 0, 0)) rfl ?_
            obtain ⟨b5, F⟩ := F
            refine mv_bal rfl (sh_368) b5 ?_
            refine mv_icmp 223 rfl rfl (fun c => ?_) (fun c => ?_)
            · have F := F.1 c
              exact F
            · have F := F.2 c
              refine ev_bk 4 (S' := (218, [some (.ref 367), some (vI x1), some (vI x2), some (vI x3), some (vI x4), some (vI x5), some (vI (x4 + 1)), some (vI (x4 + 1))], [vI x1, vI 258], hp S1, 0, 0)) rfl ?_
              refine mv_iadd rfl ?_
              refine ev_bk 1 (S' := (220, [some (.ref 367), some (vI x1), some (vI x2), some (vI x3), some (vI x4), some (vI x5), some (vI (x4 + 1)), some (vI (x4 + 1))], [vI 1, vI (258 + x1)], hp S1, 0, 0)) rfl ?_
              refine mv_isub rfl ?_
              refine ev_bk 1 (S' := (223, [some (.ref 367), some (vI x1), some (vI x2), some (vI x3), some (vI x4), some (vI ((258 + x1) - 1)), some (vI (x4 + 1)), some (vI (x4 + 1))], [], hp S1, 0, 0)) rfl ?_
              exact F
  · have F := F.2 c
    refine ev_bk 1 (S' := (73, [some (.ref 367), some (vI x1), some (vI x2), some (vI x3), some (vI x4), some (vI x5), some (vI x6), some (vI x7)], [.ref 367], hp S, 0, 0)) rfl ?_
    refine mv_gfR rfl rfl (sh_367) (by decide) rfl ?_
    refine ev_bk 1 (S' := (78, [some (.ref 367), some (vI x1), some (vI x2), some (vI x3), some (vI x4), some (vI x5), some (vI x6), some (vI x7)], [vI x7, .ref 384], hp S, 0, 0)) rfl ?_
    obtain ⟨b6, F⟩ := F
    refine mv_ial rfl (sh_384) b6 ?_
    refine ev_bk 1 (S' := (81, [some (.ref 367), some (vI x1), some (vI x2), some (vI x3), some (vI x4), some (vI x5), some (vI x6), some (vI x7)], [vI x6, vI (S.1 384 (w32 x7))], hp S, 0, 0)) rfl ?_
    refine mv_icmp 143 rfl rfl (fun c => ?_) (fun c => ?_)
    · have F := F.1 c
      exact F
    · have F := F.2 c
      refine ev_bk 2 (S' := (86, [some (.ref 367), some (vI x1), some (vI x2), some (vI x3), some (vI x4), some (vI x5), some (vI x6), some (vI x7)], [.ref 367, vI x2], hp S, 0, 0)) rfl ?_
      refine mv_gfR rfl rfl (sh_367) (by decide) rfl ?_
      refine ev_bk 1 (S' := (91, [some (.ref 367), some (vI x1), some (vI x2), some (vI x3), some (vI x4), some (vI x5), some (vI x6), some (vI x7)], [vI x7, .ref 384, vI x2], hp S, 0, 0)) rfl ?_
      obtain ⟨b7, F⟩ := F
      refine mv_ial rfl (sh_384) b7 ?_
      refine mv_iadd rfl ?_
      refine ev_bk 1 (S' := (94, [some (.ref 367), some (vI x1), some (vI x2), some (vI x3), some (vI x4), some (vI x5), some (vI x6), some (vI x7)], [.ref 367, vI (x2 + (S.1 384 (w32 x7)))], hp S, 0, 0)) rfl ?_
      refine mv_gfI rfl rfl (sh_367) (by decide) rfl ?_
      refine mv_icmp 143 rfl rfl (fun c => ?_) (fun c => ?_)
      · have F := F.1 c
        exact F
      · have F := F.2 c
        refine ev_bk 2 (S' := (102, [some (.ref 367), some (vI x1), some (vI x2), some (vI x3), some (vI x4), some (vI x5), some (vI x6), some (vI x7)], [.ref 367, .ref 367], hp S, 0, 0)) rfl ?_
        refine mv_gfR rfl rfl (sh_367) (by decide) rfl ?_
        refine ev_bk 1 (S' := (106, [some (.ref 367), some (vI x1), some (vI x2), some (vI x3), some (vI x4), some (vI x5), some (vI x6), some (vI x7)], [.ref 367, .ref 368, .ref 367], hp S, 0, 0)) rfl ?_
        refine mv_gfR rfl rfl (sh_367) (by decide) rfl ?_
        refine ev_bk 1 (S' := (111, [some (.ref 367), some (vI x1), some (vI x2), some (vI x3), some (vI x4), some (vI x5), some (vI x6), some (vI x7)], [vI x7, .ref 383, .ref 368, .ref 367], hp S, 0, 0)) rfl ?_
        obtain ⟨b8, F⟩ := F
        refine mv_ial rfl (sh_383) b8 ?_
        refine ev_bk 2 (S' := (114, [some (.ref 367), some (vI x1), some (vI x2), some (vI x3), some (vI x4), some (vI x5), some (vI x6), some (vI x7)], [.ref 367, vI x2, vI (S.1 383 (w32 x7)), .ref 368, .ref 367], hp S, 0, 0)) rfl ?_
        refine mv_gfR rfl rfl (sh_367) (by decide) rfl ?_
        refine ev_bk 1 (S' := (119, [some (.ref 367), some (vI x1), some (vI x2), some (vI x3), some (vI x4), some (vI x5), some (vI x6), some (vI x7)], [vI x7, .ref 384, vI x2, vI (S.1 383 (w32 x7)), .ref 368, .ref 367], hp S, 0, 0)) rfl ?_
        obtain ⟨b9, F⟩ := F
        refine mv_ial rfl (sh_384) b9 ?_
        obtain ⟨z12, S10, e11, F⟩ := F
        refine mv_calv (as := [.ref 368, vI (S.1 383 (w32 x7)), vI x2, vI (S.1 384 (w32 x7))]) (rest := []) e11 (sh_367) rfl rfl rfl ⟨rfl, rfl⟩ rfl rfl rfl rfl rfl ?_
        refine mv_if 143 rfl rfl (fun c => ?_) (fun c => ?_)
        · have F := F.1 c
          exact F
        · have F := F.2 c
          refine ev_bk 1 (S' := (127, [some (.ref 367), some (vI x1), some (vI x2), some (vI x3), some (vI x4), some (vI x5), some (vI x6), some (vI x7)], [.ref 367], hp S10, 0, 0)) rfl ?_
          refine mv_gfR rfl rfl (sh_367) (by decide) rfl ?_
          refine ev_bk 1 (S' := (132, [some (.ref 367), some (vI x1), some (vI x2), some (vI x3), some (vI x4), some (vI x5), some (vI x6), some (vI x7)], [vI x7, .ref 384], hp S10, 0, 0)) rfl ?_
          obtain ⟨b13, F⟩ := F
          refine mv_ial rfl (sh_384) b13 ?_
          refine ev_bk 3 (S' := (140, [some (.ref 367), some (vI x1), some (vI x2), some (vI x3), some (vI x4), some (vI x5), some (vI (S10.1 384 (w32 x7))), some (vI x7)], [vI x7, vI 258], hp S10, 0, 0)) rfl ?_
          refine mv_iadd rfl ?_
          refine ev_bk 1 (S' := (143, [some (.ref 367), some (vI x1), some (vI x2), some (vI x3), some (vI x4), some (vI (258 + x7)), some (vI (S10.1 384 (w32 x7))), some (vI x7)], [], hp S10, 0, 0)) rfl ?_
          exact F
theorem vc_MD_packWords_143 {q : Nat × (Nat → Int32)} {S S' : ms} {r : Option Value} (x1 x2 x3 x4 x5 x6 x7 : Int)
    (F : EV q 283 64 [some (.ref 367), some (vI x1), some (vI x2), some (vI x3), some (vI x4), some (vI x5), some (vI x6), some (vI (x7 + 1))] [] S r S') : EV q 283 143 [some (.ref 367), some (vI x1), some (vI x2), some (vI x3), some (vI x4), some (vI x5), some (vI x6), some (vI x7)] [] S r S' := by
  unfold EV
  refine mv_inc (lv' := [some (.ref 367), some (vI x1), some (vI x2), some (vI x3), some (vI x4), some (vI x5), some (vI x6), some (vI (x7 + 1))]) 7 1 rfl rfl rfl rfl ?_
  refine mv_goto 64 rfl rfl ?_
  exact F
theorem vc_MD_packWords_223 {q : Nat × (Nat → Int32)} {S S' : ms} {r : Option Value} (x1 x2 x3 x4 x5 x6 x7 : Int)
    (F : ∃ (z3 : Int) (S1 : ms), EV q 286 0 [some (vI x1), none] [] S (some (vI z3)) S1 ∧ ∃ (S4 : ms), EV q 284 0 [some (.ref 367), some (vL (w32 x5)), none, some (vI z3), none] [] S1 none S4 ∧ ((w32 x1 ≤ 0) → EV q 283 257 [some (.ref 367), some (vI x1), some (vI x2), some (vI x3), some (vI x4), some (vI x5), some (vI x6), some (vI x7)] [] S4 r S') ∧ ((¬ w32 x1 ≤ 0) → (0 ≤ w32 (x1 - 1) ∧ w32 (x1 - 1) < (4200 : Nat)) ∧ ∀ S7 : ms, S7 = wI S4 383 (w32 (x1 - 1)) x3 → (0 ≤ w32 (x1 - 1) ∧ w32 (x1 - 1) < (4200 : Nat)) ∧ ∀ S9 : ms, S9 = wI S7 384 (w32 (x1 - 1)) x7 → EV q 283 257 [some (.ref 367), some (vI x1), some (vI x2), some (vI x3), some (vI x4), some (vI x5), some (vI x6), some (vI x7)] [] S9 r S')) : EV q 283 223 [some (.ref 367), some (vI x1), some (vI x2), some (vI x3), some (vI x4), some (vI x5), some (vI x6), some (vI x7)] [] S r S' := by
  unfold EV
  refine ev_bk 2 (S' := (226, [some (.ref 367), some (vI x1), some (vI x2), some (vI x3), some (vI x4), some (vI x5), some (vI x6), some (vI x7)], [vI x5, .ref 367], hp S, 0, 0)) rfl ?_
  refine mv_i2l rfl ?_
  refine ev_bk 1 (S' := (228, [some (.ref 367), some (vI x1), some (vI x2), some (vI x3), some (vI x4), some (vI x5), some (vI x6), some (vI x7)], [vI x1, vL (w32 x5), .ref 367], hp S, 0, 0)) rfl ?_
  obtain ⟨z3, S1, e2, F⟩ := F
  refine mv_cals (as := [vI x1]) (rest := [vL (w32 x5), .ref 367]) e2 rfl rfl rfl ⟨rfl, rfl, rfl⟩ rfl rfl rfl rfl ?_
  obtain ⟨S4, e5, F⟩ := F
  refine mv_calv (as := [vL (w32 x5), vI z3]) (rest := []) e5 (sh_367) rfl rfl rfl ⟨rfl, rfl⟩ rfl rfl rfl rfl rfl ?_
  refine ev_bk 1 (S' := (235, [some (.ref 367), some (vI x1), some (vI x2), some (vI x3), some (vI x4), some (vI x5), some (vI x6), some (vI x7)], [vI x1], hp S4, 0, 0)) rfl ?_
  refine mv_if 257 rfl rfl (fun c => ?_) (fun c => ?_)
  · have F := F.1 c
    exact F
  · have F := F.2 c
    refine ev_bk 1 (S' := (239, [some (.ref 367), some (vI x1), some (vI x2), some (vI x3), some (vI x4), some (vI x5), some (vI x6), some (vI x7)], [.ref 367], hp S4, 0, 0)) rfl ?_
    refine mv_gfR rfl rfl (sh_367) (by decide) rfl ?_
    refine ev_bk 2 (S' := (244, [some (.ref 367), some (vI x1), some (vI x2), some (vI x3), some (vI x4), some (vI x5), some (vI x6), some (vI x7)], [vI 1, vI x1, .ref 383], hp S4, 0, 0)) rfl ?_
    refine mv_isub rfl ?_
    refine ev_bk 1 (S' := (246, [some (.ref 367), some (vI x1), some (vI x2), some (vI x3), some (vI x4), some (vI x5), some (vI x6), some (vI x7)], [vI x3, vI (x1 - 1), .ref 383], hp S4, 0, 0)) rfl ?_
    obtain ⟨b6, F⟩ := F
    refine mv_ias rfl (sh_383) b6 ?_
    have F := F _ rfl
    refine ev_bk 1 (S' := (248, [some (.ref 367), some (vI x1), some (vI x2), some (vI x3), some (vI x4), some (vI x5), some (vI x6), some (vI x7)], [.ref 367], hp (wI S4 383 (w32 (x1 - 1)) x3), 0, 0)) rfl ?_
    refine mv_gfR rfl rfl (sh_367) (by decide) rfl ?_
    refine ev_bk 2 (S' := (253, [some (.ref 367), some (vI x1), some (vI x2), some (vI x3), some (vI x4), some (vI x5), some (vI x6), some (vI x7)], [vI 1, vI x1, .ref 384], hp (wI S4 383 (w32 (x1 - 1)) x3), 0, 0)) rfl ?_
    refine mv_isub rfl ?_
    refine ev_bk 1 (S' := (256, [some (.ref 367), some (vI x1), some (vI x2), some (vI x3), some (vI x4), some (vI x5), some (vI x6), some (vI x7)], [vI x7, vI (x1 - 1), .ref 384], hp (wI S4 383 (w32 (x1 - 1)) x3), 0, 0)) rfl ?_
    obtain ⟨b8, F⟩ := F
    refine mv_ias rfl (sh_384) b8 ?_
    have F := F _ rfl
    exact F
theorem vc_MD_packWords_257 {q : Nat × (Nat → Int32)} {S S' : ms} {r : Option Value} (x1 x2 x3 x4 x5 x6 x7 : Int)
    (F : EV q 283 18 [some (.ref 367), some (vI (x1 + 1)), some (vI (x2 + x6)), some (vI x2), some (vI x6), none, none, none] [] S r S') : EV q 283 257 [some (.ref 367), some (vI x1), some (vI x2), some (vI x3), some (vI x4), some (vI x5), some (vI x6), some (vI x7)] [] S r S' := by
  unfold EV
  refine ev_bk 6 (S' := (266, [some (.ref 367), some (vI x1), some (vI x2), some (vI x2), some (vI x6), some (vI x5), some (vI x6), some (vI x7)], [vI x6, vI x2], hp S, 0, 0)) rfl ?_
  refine mv_iadd rfl ?_
  refine ev_bk 1 (S' := (268, [some (.ref 367), some (vI x1), some (vI (x2 + x6)), some (vI x2), some (vI x6), some (vI x5), some (vI x6), some (vI x7)], [], hp S, 0, 0)) rfl ?_
  refine mv_inc (lv' := [some (.ref 367), some (vI (x1 + 1)), some (vI (x2 + x6)), some (vI x2), some (vI x6), some (vI x5), some (vI x6), some (vI x7)]) 1 1 rfl rfl rfl rfl ?_
  refine mv_goto 18 rfl rfl ?_
  exact ev_wk (le_s (le_s (le_s (le_s (le_s (le_n (le_n (le_n le_0)))))))) F
theorem vc_MD_packWords_294 {q : Nat × (Nat → Int32)} {S S' : ms} {r : Option Value} (x1 x2 x3 x4 : Int)
    (F : ∃ (z3 : Int) (S1 : ms), EV q 286 0 [some (vI x1), none] [] S (some (vI z3)) S1 ∧ ∃ (S4 : ms), EV q 284 0 [some (.ref 367), some (vL 257), none, some (vI z3), none] [] S1 none S4 ∧ ∃ (S6 : ms), EV q 288 0 [some (.ref 367)] [] S4 none S6 ∧ r = none ∧ S' = S6) : EV q 283 294 [some (.ref 367), some (vI x1), some (vI x2), some (vI x3), some (vI x4), none, none, none] [] S r S' := by
  unfold EV
  refine ev_bk 3 (S' := (299, [some (.ref 367), some (vI x1), some (vI x2), some (vI x3), some (vI x4), none, none, none], [vI x1, vL 257, .ref 367], hp S, 0, 0)) rfl ?_
  obtain ⟨z3, S1, e2, F⟩ := F
  refine mv_cals (as := [vI x1]) (rest := [vL 257, .ref 367]) e2 rfl rfl rfl ⟨rfl, rfl, rfl⟩ rfl rfl rfl rfl ?_
  obtain ⟨S4, e5, F⟩ := F
  refine mv_calv (as := [vL 257, vI z3]) (rest := []) e5 (sh_367) rfl rfl rfl ⟨rfl, rfl⟩ rfl rfl rfl rfl rfl ?_
  refine ev_bk 1 (S' := (306, [some (.ref 367), some (vI x1), some (vI x2), some (vI x3), some (vI x4), none, none, none], [.ref 367], hp S4, 0, 0)) rfl ?_
  obtain ⟨S6, e7, F⟩ := F
  refine mv_calv (as := []) (rest := []) e7 (sh_367) rfl rfl rfl ⟨rfl, rfl⟩ rfl rfl rfl rfl rfl ?_
  obtain ⟨rfl, rfl⟩ := F
  exact ev_ret rfl rfl
theorem vc_MD_bitsOf {q : Nat × (Nat → Int32)} {S S' : ms} {r : Option Value} (x1 x3 : Int)
    (F : EV q 284 3 [some (.ref 367), some (vL x1), none, some (vI x3), some (vI 0)] [] S r S') : EV q 284 0 [some (.ref 367), some (vL x1), none, some (vI x3), none] [] S r S' := by
  unfold EV
  refine ev_bk 2 (S' := (3, [some (.ref 367), some (vL x1), none, some (vI x3), some (vI 0)], [], hp S, 0, 0)) rfl ?_
  exact F
theorem vc_MD_bitsOf_3 {q : Nat × (Nat → Int32)} {S S' : ms} {r : Option Value} (x1 x3 x4 : Int)
    (F : ((w32 x3 ≤ w32 x4) → r = none ∧ S' = S) ∧ ((¬ w32 x3 ≤ w32 x4) → ((w32 (S.1 367 11) = 0) → EV q 284 29 [some (.ref 367), some (vL x1), none, some (vI x3), some (vI x4)] [vI x4, vL x1, .ref 367] S r S') ∧ ((¬ w32 (S.1 367 11) = 0) → EV q 284 29 [some (.ref 367), some (vL x1), none, some (vI x3), some (vI x4)] [vI ((x3 - 1) - x4), vL x1, .ref 367] S r S'))) : EV q 284 3 [some (.ref 367), some (vL x1), none, some (vI x3), some (vI x4)] [] S r S' := by
  unfold EV
  refine ev_bk 2 (S' := (6, [some (.ref 367), some (vL x1), none, some (vI x3), some (vI x4)], [vI x3, vI x4], hp S, 0, 0)) rfl ?_
  refine mv_icmp 42 rfl rfl (fun c => ?_) (fun c => ?_)
  · have F := F.1 c
    obtain ⟨rfl, rfl⟩ := F
    exact ev_ret rfl rfl
  · have F := F.2 c
    refine ev_bk 3 (S' := (12, [some (.ref 367), some (vL x1), none, some (vI x3), some (vI x4)], [.ref 367, vL x1, .ref 367], hp S, 0, 0)) rfl ?_
    refine mv_gfI rfl rfl (sh_367) (by decide) rfl ?_
    refine mv_if 27 rfl rfl (fun c => ?_) (fun c => ?_)
    · have F := F.1 c
      refine ev_bk 1 (S' := (29, [some (.ref 367), some (vL x1), none, some (vI x3), some (vI x4)], [vI x4, vL x1, .ref 367], hp S, 0, 0)) rfl ?_
      exact F
    · have F := F.2 c
      refine ev_bk 2 (S' := (20, [some (.ref 367), some (vL x1), none, some (vI x3), some (vI x4)], [vI 1, vI x3, vL x1, .ref 367], hp S, 0, 0)) rfl ?_
      refine mv_isub rfl ?_
      refine ev_bk 1 (S' := (23, [some (.ref 367), some (vL x1), none, some (vI x3), some (vI x4)], [vI x4, vI (x3 - 1), vL x1, .ref 367], hp S, 0, 0)) rfl ?_
      refine mv_isub rfl ?_
      refine mv_goto 29 rfl rfl ?_
      exact F
theorem vc_MD_bitsOf_29 {q : Nat × (Nat → Int32)} {S S' : ms} {r : Option Value} (x1 x3 x4 y0 y1 : Int)
    (F : ∃ (S1 : ms), EV q 285 0 [some (.ref 367), some (vI ((w64 y1 / ((2 : Int) ^ (y0 % 64).toNat)) % 2))] [] S none S1 ∧ EV q 284 3 [some (.ref 367), some (vL x1), none, some (vI x3), some (vI (x4 + 1))] [] S1 r S') : EV q 284 29 [some (.ref 367), some (vL x1), none, some (vI x3), some (vI x4)] [vI y0, vL y1, .ref 367] S r S' := by
  unfold EV
  refine mv_lshr ((2 : Int) ^ (y0 % 64).toNat) rfl rfl ?_
  refine mv_l2i rfl ?_
  refine ev_bk 1 (S' := (32, [some (.ref 367), some (vL x1), none, some (vI x3), some (vI x4)], [vI 1, vI (w64 y1 / ((2 : Int) ^ (y0 % 64).toNat)), .ref 367], hp S, 0, 0)) rfl ?_
  refine mv_iandm 2 1 (by decide) rfl rfl rfl ?_
  obtain ⟨S1, e2, F⟩ := F
  refine mv_calv (as := [vI ((w64 y1 / ((2 : Int) ^ (y0 % 64).toNat)) % 2)]) (rest := []) e2 (sh_367) rfl rfl rfl ⟨rfl, rfl⟩ rfl rfl rfl rfl rfl ?_
  refine mv_inc (lv' := [some (.ref 367), some (vL x1), none, some (vI x3), some (vI (x4 + 1))]) 4 1 rfl rfl rfl rfl ?_
  refine mv_goto 3 rfl rfl ?_
  exact F
theorem vc_MD_bit {q : Nat × (Nat → Int32)} {S S' : ms} {r : Option Value} (x1 : Int)
    (F : ((¬ w32 (S.1 367 10) = 0) → EV q 285 12 [some (.ref 367), some (vI x1)] [] S r S') ∧ ((¬ (¬ w32 (S.1 367 10) = 0)) → ∃ (S1 : ms), EV q 282 0 [some (.ref 367), some (vI 0)] [] S none S1 ∧ EV q 285 12 [some (.ref 367), some (vI x1)] [] S1 r S')) : EV q 285 0 [some (.ref 367), some (vI x1)] [] S r S' := by
  unfold EV
  refine ev_bk 1 (S' := (1, [some (.ref 367), some (vI x1)], [.ref 367], hp S, 0, 0)) rfl ?_
  refine mv_gfI rfl rfl (sh_367) (by decide) rfl ?_
  refine mv_if 12 rfl rfl (fun c => ?_) (fun c => ?_)
  · have F := F.1 c
    exact F
  · have F := F.2 c
    refine ev_bk 2 (S' := (9, [some (.ref 367), some (vI x1)], [vI 0, .ref 367], hp S, 0, 0)) rfl ?_
    obtain ⟨S1, e2, F⟩ := F
    refine mv_calv (as := [vI 0]) (rest := []) e2 (sh_367) rfl rfl rfl ⟨rfl, rfl⟩ rfl rfl rfl rfl rfl ?_
    exact F
theorem vc_MD_bit_12 {q : Nat × (Nat → Int32)} {S S' : ms} {r : Option Value} (x1 : Int)
    (F : ((30000 < w32 (S.1 367 9)) → EV q 285 61 [some (.ref 367), some (vI x1)] [] S r S') ∧ ((¬ 30000 < w32 (S.1 367 9)) → (0 ≤ w32 ((S.1 367 9) - 1) ∧ w32 ((S.1 367 9) - 1) < (30000 : Nat)) ∧ ((w32 (S.1 367 11) = 0) → EV q 285 56 [some (.ref 367), some (vI x1)] [vI (S.1 367 10), vI x1, vI (S.1 374 (w32 ((S.1 367 9) - 1))), vI ((S.1 367 9) - 1), .ref 374] S r S') ∧ ((¬ w32 (S.1 367 11) = 0) → EV q 285 56 [some (.ref 367), some (vI x1)] [vI (7 - (S.1 367 10)), vI x1, vI (S.1 374 (w32 ((S.1 367 9) - 1))), vI ((S.1 367 9) - 1), .ref 374] S r S'))) : EV q 285 12 [some (.ref 367), some (vI x1)] [] S r S' := by
  unfold EV
  refine ev_bk 1 (S' := (13, [some (.ref 367), some (vI x1)], [.ref 367], hp S, 0, 0)) rfl ?_
  refine mv_gfI rfl rfl (sh_367) (by decide) rfl ?_
  refine ev_bk 1 (S' := (19, [some (.ref 367), some (vI x1)], [vI 30000, vI (S.1 367 9)], hp S, 0, 0)) rfl ?_
  refine mv_icmp 61 rfl rfl (fun c => ?_) (fun c => ?_)
  · have F := F.1 c
    exact F
  · have F := F.2 c
    refine ev_bk 1 (S' := (23, [some (.ref 367), some (vI x1)], [.ref 367], hp S, 0, 0)) rfl ?_
    refine mv_gfR rfl rfl (sh_367) (by decide) rfl ?_
    refine ev_bk 1 (S' := (27, [some (.ref 367), some (vI x1)], [.ref 367, .ref 374], hp S, 0, 0)) rfl ?_
    refine mv_gfI rfl rfl (sh_367) (by decide) rfl ?_
    refine ev_bk 1 (S' := (31, [some (.ref 367), some (vI x1)], [vI 1, vI (S.1 367 9), .ref 374], hp S, 0, 0)) rfl ?_
    refine mv_isub rfl ?_
    refine ev_bk 1 (S' := (33, [some (.ref 367), some (vI x1)], [vI ((S.1 367 9) - 1), .ref 374, vI ((S.1 367 9) - 1), .ref 374], hp S, 0, 0)) rfl ?_
    obtain ⟨b1, F⟩ := F
    refine mv_bal rfl (sh_374) b1 ?_
    refine ev_bk 2 (S' := (36, [some (.ref 367), some (vI x1)], [.ref 367, vI x1, vI (S.1 374 (w32 ((S.1 367 9) - 1))), vI ((S.1 367 9) - 1), .ref 374], hp S, 0, 0)) rfl ?_
    refine mv_gfI rfl rfl (sh_367) (by decide) rfl ?_
    refine mv_if 52 rfl rfl (fun c => ?_) (fun c => ?_)
    · have F := F.1 c
      refine ev_bk 1 (S' := (53, [some (.ref 367), some (vI x1)], [.ref 367, vI x1, vI (S.1 374 (w32 ((S.1 367 9) - 1))), vI ((S.1 367 9) - 1), .ref 374], hp S, 0, 0)) rfl ?_
      refine mv_gfI rfl rfl (sh_367) (by decide) rfl ?_
      exact F
    · have F := F.2 c
      refine ev_bk 2 (S' := (45, [some (.ref 367), some (vI x1)], [.ref 367, vI 7, vI x1, vI (S.1 374 (w32 ((S.1 367 9) - 1))), vI ((S.1 367 9) - 1), .ref 374], hp S, 0, 0)) rfl ?_
      refine mv_gfI rfl rfl (sh_367) (by decide) rfl ?_
      refine mv_isub rfl ?_
      refine mv_goto 56 rfl rfl ?_
      exact F
theorem vc_MD_bit_56 {q : Nat × (Nat → Int32)} {S S' : ms} {r : Option Value} (x1 y0 y1 y2 y3 : Int)
    (F : (0 ≤ w32 y3 ∧ w32 y3 < (30000 : Nat)) ∧ ∀ S2 : ms, S2 = wI S 374 (w32 y3) (b8 (b8 (bO y2 (b8 (y1 * ((2 : Int) ^ (y0 % 32).toNat)))))) → EV q 285 61 [some (.ref 367), some (vI x1)] [] S2 r S') : EV q 285 56 [some (.ref 367), some (vI x1)] [vI y0, vI y1, vI y2, vI y3, .ref 374] S r S' := by
  unfold EV
  refine mv_ishl ((2 : Int) ^ (y0 % 32).toNat) rfl rfl ?_
  refine mv_i2b rfl ?_
  refine mv_ior rfl ?_
  refine mv_i2b rfl ?_
  obtain ⟨b1, F⟩ := F
  refine mv_bas rfl (sh_374) b1 ?_
  have F := F _ rfl
  exact F
theorem vc_MD_bit_61 {q : Nat × (Nat → Int32)} {S S' : ms} {r : Option Value} (x1 : Int)
    (F : ∀ S1 : ms, S1 = wI S 367 10 (Int.tmod (w32 (S.1 367 10 + 1)) (w32 8)) → ∀ S2 : ms, S2 = wI S1 367 12 (S1.1 367 12 + 1) → r = none ∧ S' = S2) : EV q 285 61 [some (.ref 367), some (vI x1)] [] S r S' := by
  unfold EV
  refine ev_bk 2 (S' := (63, [some (.ref 367), some (vI x1)], [.ref 367, .ref 367], hp S, 0, 0)) rfl ?_
  refine mv_gfI rfl rfl (sh_367) (by decide) rfl ?_
  refine ev_bk 1 (S' := (67, [some (.ref 367), some (vI x1)], [vI 1, vI (S.1 367 10), .ref 367], hp S, 0, 0)) rfl ?_
  refine mv_iadd rfl ?_
  refine ev_bk 1 (S' := (70, [some (.ref 367), some (vI x1)], [vI 8, vI (S.1 367 10 + 1), .ref 367], hp S, 0, 0)) rfl ?_
  refine mv_irem (by decide) rfl ?_
  refine mv_pfI rfl rfl (sh_367) (by decide) rfl rfl ?_
  have F := F _ rfl
  refine ev_bk 2 (S' := (76, [some (.ref 367), some (vI x1)], [.ref 367, .ref 367], hp (wI S 367 10 (Int.tmod (w32 (S.1 367 10 + 1)) (w32 8))), 0, 0)) rfl ?_
  refine mv_gfI rfl rfl (sh_367) (by decide) rfl ?_
  refine ev_bk 1 (S' := (80, [some (.ref 367), some (vI x1)], [vI 1, vI ((wI S 367 10 (Int.tmod (w32 (S.1 367 10 + 1)) (w32 8))).1 367 12), .ref 367], hp (wI S 367 10 (Int.tmod (w32 (S.1 367 10 + 1)) (w32 8))), 0, 0)) rfl ?_
  refine mv_iadd rfl ?_
  refine mv_pfI rfl rfl (sh_367) (by decide) rfl rfl ?_
  have F := F _ rfl
  obtain ⟨rfl, rfl⟩ := F
  exact ev_ret rfl rfl
theorem vc_MD_widthOf {q : Nat × (Nat → Int32)} {S S' : ms} {r : Option Value} (x0 : Int)
    (F : EV q 286 3 [some (vI x0), some (vI 9)] [] S r S') : EV q 286 0 [some (vI x0), none] [] S r S' := by
  unfold EV
  refine ev_bk 2 (S' := (3, [some (vI x0), some (vI 9)], [], hp S, 0, 0)) rfl ?_
  exact F
theorem vc_MD_widthOf_3 {q : Nat × (Nat → Int32)} {S S' : ms} {r : Option Value} (x0 x1 : Int)
    (F : ((12 ≤ w32 x1) → r = some (vI x1) ∧ S' = S) ∧ ((¬ 12 ≤ w32 x1) → ((w32 (257 + x0) < w32 (1 * ((2 : Int) ^ (x1 % 32).toNat))) → r = some (vI x1) ∧ S' = S) ∧ ((¬ w32 (257 + x0) < w32 (1 * ((2 : Int) ^ (x1 % 32).toNat))) → EV q 286 3 [some (vI x0), some (vI (x1 + 1))] [] S r S'))) : EV q 286 3 [some (vI x0), some (vI x1)] [] S r S' := by
  unfold EV
  refine ev_bk 2 (S' := (6, [some (vI x0), some (vI x1)], [vI 12, vI x1], hp S, 0, 0)) rfl ?_
  refine mv_icmp 26 rfl rfl (fun c => ?_) (fun c => ?_)
  · have F := F.1 c
    refine ev_bk 1 (S' := (27, [some (vI x0), some (vI x1)], [vI x1], hp S, 0, 0)) rfl ?_
    obtain ⟨rfl, rfl⟩ := F
    exact ev_ret rfl rfl
  · have F := F.2 c
    refine ev_bk 2 (S' := (13, [some (vI x0), some (vI x1)], [vI x0, vI 257], hp S, 0, 0)) rfl ?_
    refine mv_iadd rfl ?_
    refine ev_bk 2 (S' := (16, [some (vI x0), some (vI x1)], [vI x1, vI 1, vI (257 + x0)], hp S, 0, 0)) rfl ?_
    refine mv_ishl ((2 : Int) ^ (x1 % 32).toNat) rfl rfl ?_
    refine mv_icmp 26 rfl rfl (fun c => ?_) (fun c => ?_)
    · have F := F.1 c
      refine ev_bk 1 (S' := (27, [some (vI x0), some (vI x1)], [vI x1], hp S, 0, 0)) rfl ?_
      obtain ⟨rfl, rfl⟩ := F
      exact ev_ret rfl rfl
    · have F := F.2 c
      refine mv_inc (lv' := [some (vI x0), some (vI (x1 + 1))]) 1 1 rfl rfl rfl rfl ?_
      refine mv_goto 3 rfl rfl ?_
      exact F
theorem vc_MD_goesOn {q : Nat × (Nat → Int32)} {S S' : ms} {r : Option Value} (x2 x3 x4 : Int) (a1 na1 : Nat) (ha1 : SH a1 = (1, na1, []))
    (F : EV q 287 3 [some (.ref 367), some (.ref a1), some (vI x2), some (vI x3), some (vI x4), some (vI 0)] [] S r S') : EV q 287 0 [some (.ref 367), some (.ref a1), some (vI x2), some (vI x3), some (vI x4), none] [] S r S' := by
  unfold EV
  refine ev_bk 2 (S' := (3, [some (.ref 367), some (.ref a1), some (vI x2), some (vI x3), some (vI x4), some (vI 0)], [], hp S, 0, 0)) rfl ?_
  exact F
theorem vc_MD_goesOn_3 {q : Nat × (Nat → Int32)} {S S' : ms} {r : Option Value} (x2 x3 x4 x5 : Int) (a1 na1 : Nat) (ha1 : SH a1 = (1, na1, []))
    (F : ((w32 x4 ≤ w32 x5) → r = some (vI 1) ∧ S' = S) ∧ ((¬ w32 x4 ≤ w32 x5) → (0 ≤ w32 (x2 + x5) ∧ w32 (x2 + x5) < (na1 : Nat)) ∧ (0 ≤ w32 (x3 + x5) ∧ w32 (x3 + x5) < (na1 : Nat)) ∧ ((w32 (S.1 a1 (w32 (x2 + x5))) = w32 (S.1 a1 (w32 (x3 + x5)))) → EV q 287 3 [some (.ref 367), some (.ref a1), some (vI x2), some (vI x3), some (vI x4), some (vI (x5 + 1))] [] S r S') ∧ ((¬ w32 (S.1 a1 (w32 (x2 + x5))) = w32 (S.1 a1 (w32 (x3 + x5)))) → r = some (vI 0) ∧ S' = S))) : EV q 287 3 [some (.ref 367), some (.ref a1), some (vI x2), some (vI x3), some (vI x4), some (vI x5)] [] S r S' := by
  unfold EV
  refine ev_bk 2 (S' := (7, [some (.ref 367), some (.ref a1), some (vI x2), some (vI x3), some (vI x4), some (vI x5)], [vI x4, vI x5], hp S, 0, 0)) rfl ?_
  refine mv_icmp 33 rfl rfl (fun c => ?_) (fun c => ?_)
  · have F := F.1 c
    refine ev_bk 1 (S' := (34, [some (.ref 367), some (.ref a1), some (vI x2), some (vI x3), some (vI x4), some (vI x5)], [vI 1], hp S, 0, 0)) rfl ?_
    obtain ⟨rfl, rfl⟩ := F
    exact ev_ret rfl rfl
  · have F := F.2 c
    refine ev_bk 3 (S' := (14, [some (.ref 367), some (.ref a1), some (vI x2), some (vI x3), some (vI x4), some (vI x5)], [vI x5, vI x2, .ref a1], hp S, 0, 0)) rfl ?_
    refine mv_iadd rfl ?_
    obtain ⟨b1, F⟩ := F
    refine mv_bal rfl (ha1) b1 ?_
    refine ev_bk 3 (S' := (20, [some (.ref 367), some (.ref a1), some (vI x2), some (vI x3), some (vI x4), some (vI x5)], [vI x5, vI x3, .ref a1, vI (S.1 a1 (w32 (x2 + x5)))], hp S, 0, 0)) rfl ?_
    refine mv_iadd rfl ?_
    obtain ⟨b2, F⟩ := F
    refine mv_bal rfl (ha1) b2 ?_
    refine mv_icmp 27 rfl rfl (fun c => ?_) (fun c => ?_)
    · have F := F.1 c
      refine mv_inc (lv' := [some (.ref 367), some (.ref a1), some (vI x2), some (vI x3), some (vI x4), some (vI (x5 + 1))]) 5 1 rfl rfl rfl rfl ?_
      refine mv_goto 3 rfl rfl ?_
      exact F
    · have F := F.2 c
      refine ev_bk 1 (S' := (26, [some (.ref 367), some (.ref a1), some (vI x2), some (vI x3), some (vI x4), some (vI x5)], [vI 0], hp S, 0, 0)) rfl ?_
      obtain ⟨rfl, rfl⟩ := F
      exact ev_ret rfl rfl
theorem vc_MD_fillOctet {q : Nat × (Nat → Int32)} {S S' : ms} {r : Option Value}
    (F : ((¬ w32 (S.1 367 10) = 0) → EV q 288 23 [some (.ref 367)] [vI (8 - (S.1 367 10)), vI (S.1 367 12), .ref 367] S r S') ∧ ((¬ (¬ w32 (S.1 367 10) = 0)) → EV q 288 23 [some (.ref 367)] [vI 0, vI (S.1 367 12), .ref 367] S r S')) : EV q 288 0 [some (.ref 367)] [] S r S' := by
  unfold EV
  refine ev_bk 2 (S' := (2, [some (.ref 367)], [.ref 367, .ref 367], hp S, 0, 0)) rfl ?_
  refine mv_gfI rfl rfl (sh_367) (by decide) rfl ?_
  refine ev_bk 1 (S' := (6, [some (.ref 367)], [.ref 367, vI (S.1 367 12), .ref 367], hp S, 0, 0)) rfl ?_
  refine mv_gfI rfl rfl (sh_367) (by decide) rfl ?_
  refine mv_if 16 rfl rfl (fun c => ?_) (fun c => ?_)
  · have F := F.1 c
    refine ev_bk 2 (S' := (19, [some (.ref 367)], [.ref 367, vI 8, vI (S.1 367 12), .ref 367], hp S, 0, 0)) rfl ?_
    refine mv_gfI rfl rfl (sh_367) (by decide) rfl ?_
    refine mv_isub rfl ?_
    exact F
  · have F := F.2 c
    refine ev_bk 1 (S' := (13, [some (.ref 367)], [vI 0, vI (S.1 367 12), .ref 367], hp S, 0, 0)) rfl ?_
    refine mv_goto 23 rfl rfl ?_
    exact F
theorem vc_MD_fillOctet_23 {q : Nat × (Nat → Int32)} {S S' : ms} {r : Option Value} (y0 y1 : Int)
    (F : ∀ S1 : ms, S1 = wI S 367 12 (y1 + y0) → ∀ S2 : ms, S2 = wI S1 367 10 0 → r = none ∧ S' = S2) : EV q 288 23 [some (.ref 367)] [vI y0, vI y1, .ref 367] S r S' := by
  unfold EV
  refine mv_iadd rfl ?_
  refine mv_pfI rfl rfl (sh_367) (by decide) rfl rfl ?_
  have F := F _ rfl
  refine ev_bk 2 (S' := (29, [some (.ref 367)], [vI 0, .ref 367], hp (wI S 367 12 (y1 + y0)), 0, 0)) rfl ?_
  refine mv_pfI rfl rfl (sh_367) (by decide) rfl rfl ?_
  have F := F _ rfl
  obtain ⟨rfl, rfl⟩ := F
  exact ev_ret rfl rfl
theorem vc_MD_packBlocks {q : Nat × (Nat → Int32)} {S S' : ms} {r : Option Value} (x1 : Int)
    (F : ∃ (S1 : ms), EV q 290 0 [some (.ref 367), none, none] [] S none S1 ∧ ∀ S3 : ms, S3 = wI S1 367 11 0 → ∀ S4 : ms, S4 = wI S3 367 29 0 → ∀ S5 : ms, S5 = wI S4 367 12 0 → ((¬ w32 x1 = 0) → ((w32 x1 = 2) → EV q 289 165 [some (.ref 367), some (vI x1), none, none, none, none, none] [] S5 r S') ∧ ((¬ w32 x1 = 2) → ((¬ w32 x1 = 4) → ∃ (S6 : ms), EV q 306 0 [some (.ref 367), none, none] [] S5 none S6 ∧ ((¬ w32 x1 = 1) → ∃ (S8 : ms), EV q 307 0 [some (.ref 367), none, none, none, none, none, none] [] S6 none S8 ∧ EV q 289 332 [some (.ref 367), some (vI x1), none, none, none, none, none] [] S8 r S') ∧ ((¬ (¬ w32 x1 = 1)) → ∃ (S10 : ms), EV q 295 0 [some (.ref 367), some (vI 0), none, none, none] [] S6 none S10 ∧ EV q 289 332 [some (.ref 367), some (vI x1), none, none, none, none, none] [] S10 r S')) ∧ ((¬ (¬ w32 x1 = 4)) → EV q 289 165 [some (.ref 367), some (vI x1), none, none, none, none, none] [] S5 r S'))) ∧ ((¬ (¬ w32 x1 = 0)) → EV q 289 25 [some (.ref 367), some (vI x1), some (vI 0), none, none, none, none] [] S5 r S')) : EV q 289 0 [some (.ref 367), some (vI x1), none, none, none, none, none] [] S r S' := by
  unfold EV
  refine ev_bk 1 (S' := (1, [some (.ref 367), some (vI x1), none, none, none, none, none], [.ref 367], hp S, 0, 0)) rfl ?_
  obtain ⟨S1, e2, F⟩ := F
  refine mv_calv (as := []) (rest := []) e2 (sh_367) rfl rfl rfl ⟨rfl, rfl⟩ rfl rfl rfl rfl rfl ?_
  refine ev_bk 2 (S' := (6, [some (.ref 367), some (vI x1), none, none, none, none, none], [vI 0, .ref 367], hp S1, 0, 0)) rfl ?_
  refine mv_pfI rfl rfl (sh_367) (by decide) rfl rfl ?_
  have F := F _ rfl
  refine ev_bk 2 (S' := (11, [some (.ref 367), some (vI x1), none, none, none, none, none], [vI 0, .ref 367], hp (wI S1 367 11 0), 0, 0)) rfl ?_
  refine mv_pfI rfl rfl (sh_367) (by decide) rfl rfl ?_
  have F := F _ rfl
  refine ev_bk 2 (S' := (16, [some (.ref 367), some (vI x1), none, none, none, none, none], [vI 0, .ref 367], hp (wI (wI S1 367 11 0) 367 29 0), 0, 0)) rfl ?_
  refine mv_pfI rfl rfl (sh_367) (by decide) rfl rfl ?_
  have F := F _ rfl
  refine ev_bk 1 (S' := (20, [some (.ref 367), some (vI x1), none, none, none, none, none], [vI x1], hp (wI (wI (wI S1 367 11 0) 367 29 0) 367 12 0), 0, 0)) rfl ?_
  refine mv_if 155 rfl rfl (fun c => ?_) (fun c => ?_)
  · have F := F.1 c
    refine ev_bk 2 (S' := (157, [some (.ref 367), some (vI x1), none, none, none, none, none], [vI 2, vI x1], hp (wI (wI (wI S1 367 11 0) 367 29 0) 367 12 0), 0, 0)) rfl ?_
    refine mv_icmp 165 rfl rfl (fun c => ?_) (fun c => ?_)
    · have F := F.1 c
      exact F
    · have F := F.2 c
      refine ev_bk 2 (S' := (162, [some (.ref 367), some (vI x1), none, none, none, none, none], [vI 4, vI x1], hp (wI (wI (wI S1 367 11 0) 367 29 0) 367 12 0), 0, 0)) rfl ?_
      refine mv_icmp 311 rfl rfl (fun c => ?_) (fun c => ?_)
      · have F := F.1 c
        refine ev_bk 1 (S' := (312, [some (.ref 367), some (vI x1), none, none, none, none, none], [.ref 367], hp (wI (wI (wI S1 367 11 0) 367 29 0) 367 12 0), 0, 0)) rfl ?_
        obtain ⟨S6, e7, F⟩ := F
        refine mv_calv (as := []) (rest := []) e7 (sh_367) rfl rfl rfl ⟨rfl, rfl⟩ rfl rfl rfl rfl rfl ?_
        refine ev_bk 2 (S' := (317, [some (.ref 367), some (vI x1), none, none, none, none, none], [vI 1, vI x1], hp S6, 0, 0)) rfl ?_
        refine mv_icmp 328 rfl rfl (fun c => ?_) (fun c => ?_)
        · have F := F.1 c
          refine ev_bk 1 (S' := (329, [some (.ref 367), some (vI x1), none, none, none, none, none], [.ref 367], hp S6, 0, 0)) rfl ?_
          obtain ⟨S8, e9, F⟩ := F
          refine mv_calv (as := []) (rest := []) e9 (sh_367) rfl rfl rfl ⟨rfl, rfl⟩ rfl rfl rfl rfl rfl ?_
          exact F
        · have F := F.2 c
          refine ev_bk 2 (S' := (322, [some (.ref 367), some (vI x1), none, none, none, none, none], [vI 0, .ref 367], hp S6, 0, 0)) rfl ?_
          obtain ⟨S10, e11, F⟩ := F
          refine mv_calv (as := [vI 0]) (rest := []) e11 (sh_367) rfl rfl rfl ⟨rfl, rfl⟩ rfl rfl rfl rfl rfl ?_
          refine mv_goto 332 rfl rfl ?_
          exact F
      · have F := F.2 c
        exact F
  · have F := F.2 c
    refine ev_bk 2 (S' := (25, [some (.ref 367), some (vI x1), some (vI 0), none, none, none, none], [], hp (wI (wI (wI S1 367 11 0) 367 29 0) 367 12 0), 0, 0)) rfl ?_
    exact F
theorem vc_MD_packBlocks_25 {q : Nat × (Nat → Int32)} {S S' : ms} {r : Option Value} (x1 x2 : Int)
    (F : ((1000 ≤ w32 ((S.1 367 2) - x2)) → EV q 289 49 [some (.ref 367), some (vI x1), some (vI x2), none, none, none, none] [vI 1000] S r S') ∧ ((¬ 1000 ≤ w32 ((S.1 367 2) - x2)) → EV q 289 49 [some (.ref 367), some (vI x1), some (vI x2), none, none, none, none] [vI ((S.1 367 2) - x2)] S r S')) : EV q 289 25 [some (.ref 367), some (vI x1), some (vI x2), none, none, none, none] [] S r S' := by
  unfold EV
  refine ev_bk 1 (S' := (26, [some (.ref 367), some (vI x1), some (vI x2), none, none, none, none], [.ref 367], hp S, 0, 0)) rfl ?_
  refine mv_gfI rfl rfl (sh_367) (by decide) rfl ?_
  refine ev_bk 1 (S' := (30, [some (.ref 367), some (vI x1), some (vI x2), none, none, none, none], [vI x2, vI (S.1 367 2)], hp S, 0, 0)) rfl ?_
  refine mv_isub rfl ?_
  refine ev_bk 1 (S' := (34, [some (.ref 367), some (vI x1), some (vI x2), none, none, none, none], [vI 1000, vI ((S.1 367 2) - x2)], hp S, 0, 0)) rfl ?_
  refine mv_icmp 46 rfl rfl (fun c => ?_) (fun c => ?_)
  · have F := F.1 c
    refine ev_bk 1 (S' := (49, [some (.ref 367), some (vI x1), some (vI x2), none, none, none, none], [vI 1000], hp S, 0, 0)) rfl ?_
    exact F
  · have F := F.2 c
    refine ev_bk 1 (S' := (38, [some (.ref 367), some (vI x1), some (vI x2), none, none, none, none], [.ref 367], hp S, 0, 0)) rfl ?_
    refine mv_gfI rfl rfl (sh_367) (by decide) rfl ?_
    refine ev_bk 1 (S' := (42, [some (.ref 367), some (vI x1), some (vI x2), none, none, none, none], [vI x2, vI (S.1 367 2)], hp S, 0, 0)) rfl ?_
    refine mv_isub rfl ?_
    refine mv_goto 49 rfl rfl ?_
    exact F
theorem vc_MD_packBlocks_49 {q : Nat × (Nat → Int32)} {S S' : ms} {r : Option Value} (x1 x2 y0 : Int)
    (F : ((¬ w32 (x2 + y0) = w32 (S.1 367 2)) → EV q 289 66 [some (.ref 367), some (vI x1), some (vI x2), some (vI y0), none, none, none] [vL 0, .ref 367] S r S') ∧ ((¬ (¬ w32 (x2 + y0) = w32 (S.1 367 2))) → EV q 289 66 [some (.ref 367), some (vI x1), some (vI x2), some (vI y0), none, none, none] [vL 1, .ref 367] S r S')) : EV q 289 49 [some (.ref 367), some (vI x1), some (vI x2), none, none, none, none] [vI y0] S r S' := by
  unfold EV
  refine ev_bk 4 (S' := (53, [some (.ref 367), some (vI x1), some (vI x2), some (vI y0), none, none, none], [vI y0, vI x2, .ref 367], hp S, 0, 0)) rfl ?_
  refine mv_iadd rfl ?_
  refine ev_bk 1 (S' := (55, [some (.ref 367), some (vI x1), some (vI x2), some (vI y0), none, none, none], [.ref 367, vI (x2 + y0), .ref 367], hp S, 0, 0)) rfl ?_
  refine mv_gfI rfl rfl (sh_367) (by decide) rfl ?_
  refine mv_icmp 65 rfl rfl (fun c => ?_) (fun c => ?_)
  · have F := F.1 c
    refine ev_bk 1 (S' := (66, [some (.ref 367), some (vI x1), some (vI x2), some (vI y0), none, none, none], [vL 0, .ref 367], hp S, 0, 0)) rfl ?_
    exact F
  · have F := F.2 c
    refine ev_bk 1 (S' := (62, [some (.ref 367), some (vI x1), some (vI x2), some (vI y0), none, none, none], [vL 1, .ref 367], hp S, 0, 0)) rfl ?_
    refine mv_goto 66 rfl rfl ?_
    exact F
theorem vc_MD_packBlocks_66 {q : Nat × (Nat → Int32)} {S S' : ms} {r : Option Value} (x1 x2 x3 y0 : Int)
    (F : ∃ (S1 : ms), EV q 284 0 [some (.ref 367), some (vL y0), none, some (vI 1), none] [] S none S1 ∧ ∃ (S3 : ms), EV q 284 0 [some (.ref 367), some (vL 0), none, some (vI 2), none] [] S1 none S3 ∧ ∃ (S5 : ms), EV q 288 0 [some (.ref 367)] [] S3 none S5 ∧ ∃ (S7 : ms), EV q 291 0 [some (.ref 367), some (vL (w32 x3)), none, some (vI 2), none] [] S5 none S7 ∧ ∃ (S9 : ms), EV q 291 0 [some (.ref 367), some (vL (w32 (-x3 - 1))), none, some (vI 2), none] [] S7 none S9 ∧ EV q 289 99 [some (.ref 367), some (vI x1), some (vI x2), some (vI x3), some (vI 0), none, none] [] S9 r S') : EV q 289 66 [some (.ref 367), some (vI x1), some (vI x2), some (vI x3), none, none, none] [vL y0, .ref 367] S r S' := by
  unfold EV
  refine ev_bk 1 (S' := (67, [some (.ref 367), some (vI x1), some (vI x2), some (vI x3), none, none, none], [vI 1, vL y0, .ref 367], hp S, 0, 0)) rfl ?_
  obtain ⟨S1, e2, F⟩ := F
  refine mv_calv (as := [vL y0, vI 1]) (rest := []) e2 (sh_367) rfl rfl rfl ⟨rfl, rfl⟩ rfl rfl rfl rfl rfl ?_
  refine ev_bk 3 (S' := (73, [some (.ref 367), some (vI x1), some (vI x2), some (vI x3), none, none, none], [vI 2, vL 0, .ref 367], hp S1, 0, 0)) rfl ?_
  obtain ⟨S3, e4, F⟩ := F
  refine mv_calv (as := [vL 0, vI 2]) (rest := []) e4 (sh_367) rfl rfl rfl ⟨rfl, rfl⟩ rfl rfl rfl rfl rfl ?_
  refine ev_bk 1 (S' := (77, [some (.ref 367), some (vI x1), some (vI x2), some (vI x3), none, none, none], [.ref 367], hp S3, 0, 0)) rfl ?_
  obtain ⟨S5, e6, F⟩ := F
  refine mv_calv (as := []) (rest := []) e6 (sh_367) rfl rfl rfl ⟨rfl, rfl⟩ rfl rfl rfl rfl rfl ?_
  refine ev_bk 2 (S' := (82, [some (.ref 367), some (vI x1), some (vI x2), some (vI x3), none, none, none], [vI x3, .ref 367], hp S5, 0, 0)) rfl ?_
  refine mv_i2l rfl ?_
  refine ev_bk 1 (S' := (84, [some (.ref 367), some (vI x1), some (vI x2), some (vI x3), none, none, none], [vI 2, vL (w32 x3), .ref 367], hp S5, 0, 0)) rfl ?_
  obtain ⟨S7, e8, F⟩ := F
  refine mv_calv (as := [vL (w32 x3), vI 2]) (rest := []) e8 (sh_367) rfl rfl rfl ⟨rfl, rfl⟩ rfl rfl rfl rfl rfl ?_
  refine ev_bk 3 (S' := (90, [some (.ref 367), some (vI x1), some (vI x2), some (vI x3), none, none, none], [vI ((-1)), vI x3, .ref 367], hp S7, 0, 0)) rfl ?_
  refine mv_inot rfl ?_
  refine mv_i2l rfl ?_
  refine ev_bk 1 (S' := (93, [some (.ref 367), some (vI x1), some (vI x2), some (vI x3), none, none, none], [vI 2, vL (w32 (-x3 - 1)), .ref 367], hp S7, 0, 0)) rfl ?_
  obtain ⟨S9, e10, F⟩ := F
  refine mv_calv (as := [vL (w32 (-x3 - 1)), vI 2]) (rest := []) e10 (sh_367) rfl rfl rfl ⟨rfl, rfl⟩ rfl rfl rfl rfl rfl ?_
  refine ev_bk 2 (S' := (99, [some (.ref 367), some (vI x1), some (vI x2), some (vI x3), some (vI 0), none, none], [], hp S9, 0, 0)) rfl ?_
  exact F
theorem vc_MD_packBlocks_99 {q : Nat × (Nat → Int32)} {S S' : ms} {r : Option Value} (x1 x2 x3 x4 : Int)
    (F : ((w32 x3 ≤ w32 x4) → ∀ S1 : ms, S1 = wI S 367 12 (S.1 367 12 + (32 + (8 * x3))) → ((w32 (x2 + x3) < w32 (S1.1 367 2)) → EV q 289 25 [some (.ref 367), some (vI x1), some (vI (x2 + x3)), none, none, none, none] [] S1 r S') ∧ ((¬ w32 (x2 + x3) < w32 (S1.1 367 2)) → EV q 289 357 [some (.ref 367), some (vI x1), none, none, none, none, none] [] S1 r S')) ∧ ((¬ w32 x3 ≤ w32 x4) → (0 ≤ w32 (x2 + x4) ∧ w32 (x2 + x4) < (6000 : Nat)) ∧ ∃ (S3 : ms), EV q 282 0 [some (.ref 367), some (vI (S.1 368 (w32 (x2 + x4))))] [] S none S3 ∧ EV q 289 99 [some (.ref 367), some (vI x1), some (vI x2), some (vI x3), some (vI (x4 + 1)), none, none] [] S3 r S')) : EV q 289 99 [some (.ref 367), some (vI x1), some (vI x2), some (vI x3), some (vI x4), none, none] [] S r S' := by
  unfold EV
  refine ev_bk 2 (S' := (102, [some (.ref 367), some (vI x1), some (vI x2), some (vI x3), some (vI x4), none, none], [vI x3, vI x4], hp S, 0, 0)) rfl ?_
  refine mv_icmp 124 rfl rfl (fun c => ?_) (fun c => ?_)
  · have F := F.1 c
    refine ev_bk 2 (S' := (126, [some (.ref 367), some (vI x1), some (vI x2), some (vI x3), some (vI x4), none, none], [.ref 367, .ref 367], hp S, 0, 0)) rfl ?_
    refine mv_gfI rfl rfl (sh_367) (by decide) rfl ?_
    refine ev_bk 3 (S' := (134, [some (.ref 367), some (vI x1), some (vI x2), some (vI x3), some (vI x4), none, none], [vI x3, vI 8, vI 32, vI (S.1 367 12), .ref 367], hp S, 0, 0)) rfl ?_
    refine mv_imul rfl ?_
    refine mv_iadd rfl ?_
    refine mv_iadd rfl ?_
    refine mv_pfI rfl rfl (sh_367) (by decide) rfl rfl ?_
    have F := F _ rfl
    refine ev_bk 2 (S' := (142, [some (.ref 367), some (vI x1), some (vI x2), some (vI x3), some (vI x4), none, none], [vI x3, vI x2], hp (wI S 367 12 (S.1 367 12 + (32 + (8 * x3)))), 0, 0)) rfl ?_
    refine mv_iadd rfl ?_
    refine ev_bk 3 (S' := (146, [some (.ref 367), some (vI x1), some (vI (x2 + x3)), some (vI x3), some (vI x4), none, none], [.ref 367, vI (x2 + x3)], hp (wI S 367 12 (S.1 367 12 + (32 + (8 * x3)))), 0, 0)) rfl ?_
    refine mv_gfI rfl rfl (sh_367) (by decide) rfl ?_
    refine mv_icmp 25 rfl rfl (fun c => ?_) (fun c => ?_)
    · have F := F.1 c
      exact ev_wk (le_s (le_s (le_s (le_n (le_n (le_s (le_s le_0))))))) F
    · have F := F.2 c
      refine mv_goto 357 rfl rfl ?_
      exact ev_wk (le_s (le_s (le_n (le_n (le_n (le_s (le_s le_0))))))) F
  · have F := F.2 c
    refine ev_bk 2 (S' := (107, [some (.ref 367), some (vI x1), some (vI x2), some (vI x3), some (vI x4), none, none], [.ref 367, .ref 367], hp S, 0, 0)) rfl ?_
    refine mv_gfR rfl rfl (sh_367) (by decide) rfl ?_
    refine ev_bk 2 (S' := (113, [some (.ref 367), some (vI x1), some (vI x2), some (vI x3), some (vI x4), none, none], [vI x4, vI x2, .ref 368, .ref 367], hp S, 0, 0)) rfl ?_
    refine mv_iadd rfl ?_
    obtain ⟨b2, F⟩ := F
    refine mv_bal rfl (sh_368) b2 ?_
    obtain ⟨S3, e4, F⟩ := F
    refine mv_calv (as := [vI (S.1 368 (w32 (x2 + x4)))]) (rest := []) e4 (sh_367) rfl rfl rfl ⟨rfl, rfl⟩ rfl rfl rfl rfl rfl ?_
    refine mv_inc (lv' := [some (.ref 367), some (vI x1), some (vI x2), some (vI x3), some (vI (x4 + 1)), none, none]) 4 1 rfl rfl rfl rfl ?_
    refine mv_goto 99 rfl rfl ?_
    exact F
theorem vc_MD_packBlocks_165 {q : Nat × (Nat → Int32)} {S S' : ms} {r : Option Value} (x1 : Int)
    (F : ((¬ w32 x1 = 2) → ∃ (S1 : ms), EV q 295 0 [some (.ref 367), some (vI 2000), none, none, none] [] S none S1 ∧ EV q 289 184 [some (.ref 367), some (vI x1), none, none, none, none, none] [] S1 r S') ∧ ((¬ (¬ w32 x1 = 2)) → ∃ (S3 : ms), EV q 292 0 [some (.ref 367), none, none, none] [] S none S3 ∧ EV q 289 184 [some (.ref 367), some (vI x1), none, none, none, none, none] [] S3 r S')) : EV q 289 165 [some (.ref 367), some (vI x1), none, none, none, none, none] [] S r S' := by
  unfold EV
  refine ev_bk 2 (S' := (167, [some (.ref 367), some (vI x1), none, none, none, none, none], [vI 2, vI x1], hp S, 0, 0)) rfl ?_
  refine mv_icmp 177 rfl rfl (fun c => ?_) (fun c => ?_)
  · have F := F.1 c
    refine ev_bk 2 (S' := (181, [some (.ref 367), some (vI x1), none, none, none, none, none], [vI 2000, .ref 367], hp S, 0, 0)) rfl ?_
    obtain ⟨S1, e2, F⟩ := F
    refine mv_calv (as := [vI 2000]) (rest := []) e2 (sh_367) rfl rfl rfl ⟨rfl, rfl⟩ rfl rfl rfl rfl rfl ?_
    exact F
  · have F := F.2 c
    refine ev_bk 1 (S' := (171, [some (.ref 367), some (vI x1), none, none, none, none, none], [.ref 367], hp S, 0, 0)) rfl ?_
    obtain ⟨S3, e4, F⟩ := F
    refine mv_calv (as := []) (rest := []) e4 (sh_367) rfl rfl rfl ⟨rfl, rfl⟩ rfl rfl rfl rfl rfl ?_
    refine mv_goto 184 rfl rfl ?_
    exact F
theorem vc_MD_packBlocks_184 {q : Nat × (Nat → Int32)} {S S' : ms} {r : Option Value} (x1 : Int)
    (F : ((¬ w32 x1 = 2) → EV q 289 200 [some (.ref 367), some (vI x1), some (vI 0), none, none, none, none] [vI 2000] S r S') ∧ ((¬ (¬ w32 x1 = 2)) → EV q 289 200 [some (.ref 367), some (vI x1), some (vI 0), none, none, none, none] [vI 6000] S r S')) : EV q 289 184 [some (.ref 367), some (vI x1), none, none, none, none, none] [] S r S' := by
  unfold EV
  refine ev_bk 4 (S' := (188, [some (.ref 367), some (vI x1), some (vI 0), none, none, none, none], [vI 2, vI x1], hp S, 0, 0)) rfl ?_
  refine mv_icmp 197 rfl rfl (fun c => ?_) (fun c => ?_)
  · have F := F.1 c
    refine ev_bk 1 (S' := (200, [some (.ref 367), some (vI x1), some (vI 0), none, none, none, none], [vI 2000], hp S, 0, 0)) rfl ?_
    exact F
  · have F := F.2 c
    refine ev_bk 1 (S' := (194, [some (.ref 367), some (vI x1), some (vI 0), none, none, none, none], [vI 6000], hp S, 0, 0)) rfl ?_
    refine mv_goto 200 rfl rfl ?_
    exact F
theorem vc_MD_packBlocks_200 {q : Nat × (Nat → Int32)} {S S' : ms} {r : Option Value} (x1 x2 y0 : Int)
    (F : EV q 289 204 [some (.ref 367), some (vI x1), some (vI x2), some (vI y0), some (vI 0), none, none] [] S r S') : EV q 289 200 [some (.ref 367), some (vI x1), some (vI x2), none, none, none, none] [vI y0] S r S' := by
  unfold EV
  refine ev_bk 3 (S' := (204, [some (.ref 367), some (vI x1), some (vI x2), some (vI y0), some (vI 0), none, none], [], hp S, 0, 0)) rfl ?_
  exact F
theorem vc_MD_packBlocks_204 {q : Nat × (Nat → Int32)} {S S' : ms} {r : Option Value} (x1 x2 x3 x4 : Int)
    (F : ((w32 x3 ≤ w32 ((S.1 367 2) - x4)) → EV q 289 226 [some (.ref 367), some (vI x1), some (vI x2), some (vI x3), some (vI x4), none, none] [vI (x4 + x3)] S r S') ∧ ((¬ w32 x3 ≤ w32 ((S.1 367 2) - x4)) → EV q 289 226 [some (.ref 367), some (vI x1), some (vI x2), some (vI x3), some (vI x4), none, none] [vI (S.1 367 2)] S r S')) : EV q 289 204 [some (.ref 367), some (vI x1), some (vI x2), some (vI x3), some (vI x4), none, none] [] S r S' := by
  unfold EV
  refine ev_bk 1 (S' := (205, [some (.ref 367), some (vI x1), some (vI x2), some (vI x3), some (vI x4), none, none], [.ref 367], hp S, 0, 0)) rfl ?_
  refine mv_gfI rfl rfl (sh_367) (by decide) rfl ?_
  refine ev_bk 1 (S' := (210, [some (.ref 367), some (vI x1), some (vI x2), some (vI x3), some (vI x4), none, none], [vI x4, vI (S.1 367 2)], hp S, 0, 0)) rfl ?_
  refine mv_isub rfl ?_
  refine ev_bk 1 (S' := (212, [some (.ref 367), some (vI x1), some (vI x2), some (vI x3), some (vI x4), none, none], [vI x3, vI ((S.1 367 2) - x4)], hp S, 0, 0)) rfl ?_
  refine mv_icmp 222 rfl rfl (fun c => ?_) (fun c => ?_)
  · have F := F.1 c
    refine ev_bk 2 (S' := (225, [some (.ref 367), some (vI x1), some (vI x2), some (vI x3), some (vI x4), none, none], [vI x3, vI x4], hp S, 0, 0)) rfl ?_
    refine mv_iadd rfl ?_
    exact F
  · have F := F.2 c
    refine ev_bk 1 (S' := (216, [some (.ref 367), some (vI x1), some (vI x2), some (vI x3), some (vI x4), none, none], [.ref 367], hp S, 0, 0)) rfl ?_
    refine mv_gfI rfl rfl (sh_367) (by decide) rfl ?_
    refine mv_goto 226 rfl rfl ?_
    exact F
theorem vc_MD_packBlocks_226 {q : Nat × (Nat → Int32)} {S S' : ms} {r : Option Value} (x1 x2 x3 x4 y0 : Int)
    (F : EV q 289 231 [some (.ref 367), some (vI x1), some (vI x2), some (vI x3), some (vI x4), some (vI y0), some (vI x2)] [] S r S') : EV q 289 226 [some (.ref 367), some (vI x1), some (vI x2), some (vI x3), some (vI x4), none, none] [vI y0] S r S' := by
  unfold EV
  refine ev_bk 3 (S' := (231, [some (.ref 367), some (vI x1), some (vI x2), some (vI x3), some (vI x4), some (vI y0), some (vI x2)], [], hp S, 0, 0)) rfl ?_
  exact F
theorem vc_MD_packBlocks_231 {q : Nat × (Nat → Int32)} {S S' : ms} {r : Option Value} (x1 x2 x3 x4 x5 x6 : Int)
    (F : ((w32 (S.1 367 29) ≤ w32 x6) → EV q 289 258 [some (.ref 367), some (vI x1), some (vI x2), some (vI x3), some (vI x4), some (vI x5), some (vI x6)] [] S r S') ∧ ((¬ w32 (S.1 367 29) ≤ w32 x6) → (0 ≤ w32 x6 ∧ w32 x6 < (6000 : Nat)) ∧ ((w32 x5 ≤ w32 (S.1 382 (w32 x6))) → EV q 289 258 [some (.ref 367), some (vI x1), some (vI x2), some (vI x3), some (vI x4), some (vI x5), some (vI x6)] [] S r S') ∧ ((¬ w32 x5 ≤ w32 (S.1 382 (w32 x6))) → EV q 289 231 [some (.ref 367), some (vI x1), some (vI x2), some (vI x3), some (vI x4), some (vI x5), some (vI (x6 + 1))] [] S r S'))) : EV q 289 231 [some (.ref 367), some (vI x1), some (vI x2), some (vI x3), some (vI x4), some (vI x5), some (vI x6)] [] S r S' := by
  unfold EV
  refine ev_bk 2 (S' := (234, [some (.ref 367), some (vI x1), some (vI x2), some (vI x3), some (vI x4), some (vI x5), some (vI x6)], [.ref 367, vI x6], hp S, 0, 0)) rfl ?_
  refine mv_gfI rfl rfl (sh_367) (by decide) rfl ?_
  refine mv_icmp 258 rfl rfl (fun c => ?_) (fun c => ?_)
  · have F := F.1 c
    exact F
  · have F := F.2 c
    refine ev_bk 1 (S' := (241, [some (.ref 367), some (vI x1), some (vI x2), some (vI x3), some (vI x4), some (vI x5), some (vI x6)], [.ref 367], hp S, 0, 0)) rfl ?_
    refine mv_gfR rfl rfl (sh_367) (by decide) rfl ?_
    refine ev_bk 1 (S' := (246, [some (.ref 367), some (vI x1), some (vI x2), some (vI x3), some (vI x4), some (vI x5), some (vI x6)], [vI x6, .ref 382], hp S, 0, 0)) rfl ?_
    obtain ⟨b1, F⟩ := F
    refine mv_ial rfl (sh_382) b1 ?_
    refine ev_bk 1 (S' := (249, [some (.ref 367), some (vI x1), some (vI x2), some (vI x3), some (vI x4), some (vI x5), some (vI x6)], [vI x5, vI (S.1 382 (w32 x6))], hp S, 0, 0)) rfl ?_
    refine mv_icmp 258 rfl rfl (fun c => ?_) (fun c => ?_)
    · have F := F.1 c
      exact F
    · have F := F.2 c
      refine mv_inc (lv' := [some (.ref 367), some (vI x1), some (vI x2), some (vI x3), some (vI x4), some (vI x5), some (vI (x6 + 1))]) 6 1 rfl rfl rfl rfl ?_
      refine mv_goto 231 rfl rfl ?_
      exact F
theorem vc_MD_packBlocks_258 {q : Nat × (Nat → Int32)} {S S' : ms} {r : Option Value} (x1 x2 x3 x4 x5 x6 : Int)
    (F : ((¬ w32 x5 = w32 (S.1 367 2)) → EV q 289 273 [some (.ref 367), some (vI x1), some (vI x2), some (vI x3), some (vI x4), some (vI x5), some (vI x6)] [vL 0, .ref 367] S r S') ∧ ((¬ (¬ w32 x5 = w32 (S.1 367 2))) → EV q 289 273 [some (.ref 367), some (vI x1), some (vI x2), some (vI x3), some (vI x4), some (vI x5), some (vI x6)] [vL 1, .ref 367] S r S')) : EV q 289 258 [some (.ref 367), some (vI x1), some (vI x2), some (vI x3), some (vI x4), some (vI x5), some (vI x6)] [] S r S' := by
  unfold EV
  refine ev_bk 3 (S' := (262, [some (.ref 367), some (vI x1), some (vI x2), some (vI x3), some (vI x4), some (vI x5), some (vI x6)], [.ref 367, vI x5, .ref 367], hp S, 0, 0)) rfl ?_
  refine mv_gfI rfl rfl (sh_367) (by decide) rfl ?_
  refine mv_icmp 272 rfl rfl (fun c => ?_) (fun c => ?_)
  · have F := F.1 c
    refine ev_bk 1 (S' := (273, [some (.ref 367), some (vI x1), some (vI x2), some (vI x3), some (vI x4), some (vI x5), some (vI x6)], [vL 0, .ref 367], hp S, 0, 0)) rfl ?_
    exact F
  · have F := F.2 c
    refine ev_bk 1 (S' := (269, [some (.ref 367), some (vI x1), some (vI x2), some (vI x3), some (vI x4), some (vI x5), some (vI x6)], [vL 1, .ref 367], hp S, 0, 0)) rfl ?_
    refine mv_goto 273 rfl rfl ?_
    exact F
theorem vc_MD_packBlocks_273 {q : Nat × (Nat → Int32)} {S S' : ms} {r : Option Value} (x1 x2 x3 x4 x5 x6 y0 : Int)
    (F : ∃ (S1 : ms), EV q 284 0 [some (.ref 367), some (vL y0), none, some (vI 1), none] [] S none S1 ∧ ∃ (S3 : ms), EV q 284 0 [some (.ref 367), some (vL 2), none, some (vI 2), none] [] S1 none S3 ∧ ∃ (S5 : ms), EV q 296 0 [some (.ref 367), some (vI x2), some (vI x6), none, none, none, none, none, none, none, none] [] S3 none S5 ∧ ((w32 x5 < w32 (S5.1 367 2)) → EV q 289 204 [some (.ref 367), some (vI x1), some (vI x6), some (vI x3), some (vI x5), none, none] [] S5 r S') ∧ ((¬ w32 x5 < w32 (S5.1 367 2)) → EV q 289 357 [some (.ref 367), some (vI x1), none, none, none, none, none] [] S5 r S')) : EV q 289 273 [some (.ref 367), some (vI x1), some (vI x2), some (vI x3), some (vI x4), some (vI x5), some (vI x6)] [vL y0, .ref 367] S r S' := by
  unfold EV
  refine ev_bk 1 (S' := (274, [some (.ref 367), some (vI x1), some (vI x2), some (vI x3), some (vI x4), some (vI x5), some (vI x6)], [vI 1, vL y0, .ref 367], hp S, 0, 0)) rfl ?_
  obtain ⟨S1, e2, F⟩ := F
  refine mv_calv (as := [vL y0, vI 1]) (rest := []) e2 (sh_367) rfl rfl rfl ⟨rfl, rfl⟩ rfl rfl rfl rfl rfl ?_
  refine ev_bk 3 (S' := (282, [some (.ref 367), some (vI x1), some (vI x2), some (vI x3), some (vI x4), some (vI x5), some (vI x6)], [vI 2, vL 2, .ref 367], hp S1, 0, 0)) rfl ?_
  obtain ⟨S3, e4, F⟩ := F
  refine mv_calv (as := [vL 2, vI 2]) (rest := []) e4 (sh_367) rfl rfl rfl ⟨rfl, rfl⟩ rfl rfl rfl rfl rfl ?_
  refine ev_bk 3 (S' := (289, [some (.ref 367), some (vI x1), some (vI x2), some (vI x3), some (vI x4), some (vI x5), some (vI x6)], [vI x6, vI x2, .ref 367], hp S3, 0, 0)) rfl ?_
  obtain ⟨S5, e6, F⟩ := F
  refine mv_calv (as := [vI x2, vI x6]) (rest := []) e6 (sh_367) rfl rfl rfl ⟨rfl, rfl⟩ rfl rfl rfl rfl rfl ?_
  refine ev_bk 6 (S' := (302, [some (.ref 367), some (vI x1), some (vI x6), some (vI x3), some (vI x5), some (vI x5), some (vI x6)], [.ref 367, vI x5], hp S5, 0, 0)) rfl ?_
  refine mv_gfI rfl rfl (sh_367) (by decide) rfl ?_
  refine mv_icmp 204 rfl rfl (fun c => ?_) (fun c => ?_)
  · have F := F.1 c
    exact ev_wk (le_s (le_s (le_s (le_s (le_s (le_n (le_n le_0))))))) F
  · have F := F.2 c
    refine mv_goto 357 rfl rfl ?_
    exact ev_wk (le_s (le_s (le_n (le_n (le_n (le_n (le_n le_0))))))) F
theorem vc_MD_packBlocks_332 {q : Nat × (Nat → Int32)} {S S' : ms} {r : Option Value} (x1 : Int)
    (F : ∃ (S1 : ms), EV q 284 0 [some (.ref 367), some (vL 1), none, some (vI 1), none] [] S none S1 ∧ ∃ (S3 : ms), EV q 284 0 [some (.ref 367), some (vL 1), none, some (vI 2), none] [] S1 none S3 ∧ ∃ (S5 : ms), EV q 306 0 [some (.ref 367), none, none] [] S3 none S5 ∧ ∃ (S7 : ms), EV q 305 0 [some (.ref 367), some (vI 0), some (vI (S5.1 367 29)), none, none, none] [] S5 none S7 ∧ EV q 289 357 [some (.ref 367), some (vI x1), none, none, none, none, none] [] S7 r S') : EV q 289 332 [some (.ref 367), some (vI x1), none, none, none, none, none] [] S r S' := by
  unfold EV
  refine ev_bk 3 (S' := (335, [some (.ref 367), some (vI x1), none, none, none, none, none], [vI 1, vL 1, .ref 367], hp S, 0, 0)) rfl ?_
  obtain ⟨S1, e2, F⟩ := F
  refine mv_calv (as := [vL 1, vI 1]) (rest := []) e2 (sh_367) rfl rfl rfl ⟨rfl, rfl⟩ rfl rfl rfl rfl rfl ?_
  refine ev_bk 3 (S' := (341, [some (.ref 367), some (vI x1), none, none, none, none, none], [vI 2, vL 1, .ref 367], hp S1, 0, 0)) rfl ?_
  obtain ⟨S3, e4, F⟩ := F
  refine mv_calv (as := [vL 1, vI 2]) (rest := []) e4 (sh_367) rfl rfl rfl ⟨rfl, rfl⟩ rfl rfl rfl rfl rfl ?_
  refine ev_bk 1 (S' := (345, [some (.ref 367), some (vI x1), none, none, none, none, none], [.ref 367], hp S3, 0, 0)) rfl ?_
  obtain ⟨S5, e6, F⟩ := F
  refine mv_calv (as := []) (rest := []) e6 (sh_367) rfl rfl rfl ⟨rfl, rfl⟩ rfl rfl rfl rfl rfl ?_
  refine ev_bk 3 (S' := (351, [some (.ref 367), some (vI x1), none, none, none, none, none], [.ref 367, vI 0, .ref 367], hp S5, 0, 0)) rfl ?_
  refine mv_gfI rfl rfl (sh_367) (by decide) rfl ?_
  obtain ⟨S7, e8, F⟩ := F
  refine mv_calv (as := [vI 0, vI (S5.1 367 29)]) (rest := []) e8 (sh_367) rfl rfl rfl ⟨rfl, rfl⟩ rfl rfl rfl rfl rfl ?_
  exact F
theorem vc_MD_packBlocks_357 {q : Nat × (Nat → Int32)} {S S' : ms} {r : Option Value} (x1 : Int)
    (F : ∀ S1 : ms, S1 = wI S 367 56 (S.1 367 12) → ∀ S2 : ms, S2 = wI S1 367 10 0 → r = none ∧ S' = S2) : EV q 289 357 [some (.ref 367), some (vI x1), none, none, none, none, none] [] S r S' := by
  unfold EV
  refine ev_bk 2 (S' := (359, [some (.ref 367), some (vI x1), none, none, none, none, none], [.ref 367, .ref 367], hp S, 0, 0)) rfl ?_
  refine mv_gfI rfl rfl (sh_367) (by decide) rfl ?_
  refine mv_pfI rfl rfl (sh_367) (by decide) rfl rfl ?_
  have F := F _ rfl
  refine ev_bk 2 (S' := (367, [some (.ref 367), some (vI x1), none, none, none, none, none], [vI 0, .ref 367], hp (wI S 367 56 (S.1 367 12)), 0, 0)) rfl ?_
  refine mv_pfI rfl rfl (sh_367) (by decide) rfl rfl ?_
  have F := F _ rfl
  obtain ⟨rfl, rfl⟩ := F
  exact ev_ret rfl rfl
theorem vc_MD_prepare {q : Nat × (Nat → Int32)} {S S' : ms} {r : Option Value}
    (F : ((w32 (S.1 367 45) = 0) → ∀ S1 : ms, S1 = wI S 367 45 1 → EV q 290 17 [some (.ref 367), some (vI 3), some (vI 0)] [] S1 r S') ∧ ((¬ w32 (S.1 367 45) = 0) → r = none ∧ S' = S)) : EV q 290 0 [some (.ref 367), none, none] [] S r S' := by
  unfold EV
  refine ev_bk 1 (S' := (1, [some (.ref 367), none, none], [.ref 367], hp S, 0, 0)) rfl ?_
  refine mv_gfI rfl rfl (sh_367) (by decide) rfl ?_
  refine mv_if 8 rfl rfl (fun c => ?_) (fun c => ?_)
  · have F := F.1 c
    refine ev_bk 2 (S' := (10, [some (.ref 367), none, none], [vI 1, .ref 367], hp S, 0, 0)) rfl ?_
    refine mv_pfI rfl rfl (sh_367) (by decide) rfl rfl ?_
    have F := F _ rfl
    refine ev_bk 4 (S' := (17, [some (.ref 367), some (vI 3), some (vI 0)], [], hp (wI S 367 45 1), 0, 0)) rfl ?_
    exact F
  · have F := F.2 c
    obtain ⟨rfl, rfl⟩ := F
    exact ev_ret rfl rfl
theorem vc_MD_prepare_17 {q : Nat × (Nat → Int32)} {S S' : ms} {r : Option Value} (x1 x2 : Int)
    (F : ((28 ≤ w32 x2) → (0 ≤ w32 28 ∧ w32 28 < (30 : Nat)) ∧ ∀ S2 : ms, S2 = wI S 391 (w32 28) 258 → EV q 290 82 [some (.ref 367), some (vI 1), some (vI 0)] [] S2 r S') ∧ ((¬ 28 ≤ w32 x2) → ((8 ≤ w32 x2) → EV q 290 43 [some (.ref 367), some (vI x1), some (vI x2)] [vI (Int.tdiv (w32 (x2 - 4)) (w32 4)), vI x2, .ref 392] S r S') ∧ ((¬ 8 ≤ w32 x2) → EV q 290 43 [some (.ref 367), some (vI x1), some (vI x2)] [vI 0, vI x2, .ref 392] S r S'))) : EV q 290 17 [some (.ref 367), some (vI x1), some (vI x2)] [] S r S' := by
  unfold EV
  refine ev_bk 2 (S' := (20, [some (.ref 367), some (vI x1), some (vI x2)], [vI 28, vI x2], hp S, 0, 0)) rfl ?_
  refine mv_icmp 68 rfl rfl (fun c => ?_) (fun c => ?_)
  · have F := F.1 c
    refine ev_bk 1 (S' := (69, [some (.ref 367), some (vI x1), some (vI x2)], [.ref 367], hp S, 0, 0)) rfl ?_
    refine mv_gfR rfl rfl (sh_367) (by decide) rfl ?_
    refine ev_bk 2 (S' := (77, [some (.ref 367), some (vI x1), some (vI x2)], [vI 258, vI 28, .ref 391], hp S, 0, 0)) rfl ?_
    obtain ⟨b1, F⟩ := F
    refine mv_ias rfl (sh_391) b1 ?_
    have F := F _ rfl
    refine ev_bk 4 (S' := (82, [some (.ref 367), some (vI 1), some (vI 0)], [], hp (wI S 391 (w32 28) 258), 0, 0)) rfl ?_
    exact F
  · have F := F.2 c
    refine ev_bk 1 (S' := (24, [some (.ref 367), some (vI x1), some (vI x2)], [.ref 367], hp S, 0, 0)) rfl ?_
    refine mv_gfR rfl rfl (sh_367) (by decide) rfl ?_
    refine ev_bk 3 (S' := (31, [some (.ref 367), some (vI x1), some (vI x2)], [vI 8, vI x2, vI x2, .ref 392], hp S, 0, 0)) rfl ?_
    refine mv_icmp 38 rfl rfl (fun c => ?_) (fun c => ?_)
    · have F := F.1 c
      refine ev_bk 2 (S' := (40, [some (.ref 367), some (vI x1), some (vI x2)], [vI 4, vI x2, vI x2, .ref 392], hp S, 0, 0)) rfl ?_
      refine mv_isub rfl ?_
      refine ev_bk 1 (S' := (42, [some (.ref 367), some (vI x1), some (vI x2)], [vI 4, vI (x2 - 4), vI x2, .ref 392], hp S, 0, 0)) rfl ?_
      refine mv_idiv (by decide) rfl ?_
      exact F
    · have F := F.2 c
      refine ev_bk 1 (S' := (35, [some (.ref 367), some (vI x1), some (vI x2)], [vI 0, vI x2, .ref 392], hp S, 0, 0)) rfl ?_
      refine mv_goto 43 rfl rfl ?_
      exact F
theorem vc_MD_prepare_43 {q : Nat × (Nat → Int32)} {S S' : ms} {r : Option Value} (x1 x2 y0 y1 : Int)
    (F : (0 ≤ w32 y1 ∧ w32 y1 < (30 : Nat)) ∧ ∀ S2 : ms, S2 = wI S 392 (w32 y1) y0 → (0 ≤ w32 x2 ∧ w32 x2 < (30 : Nat)) ∧ ∀ S4 : ms, S4 = wI S2 391 (w32 x2) x1 → (0 ≤ w32 x2 ∧ w32 x2 < (30 : Nat)) ∧ EV q 290 17 [some (.ref 367), some (vI (x1 + (1 * ((2 : Int) ^ ((S4.1 392 (w32 x2)) % 32).toNat)))), some (vI (x2 + 1))] [] S4 r S') : EV q 290 43 [some (.ref 367), some (vI x1), some (vI x2)] [vI y0, vI y1, .ref 392] S r S' := by
  unfold EV
  obtain ⟨b1, F⟩ := F
  refine mv_ias rfl (sh_392) b1 ?_
  have F := F _ rfl
  refine ev_bk 1 (S' := (45, [some (.ref 367), some (vI x1), some (vI x2)], [.ref 367], hp (wI S 392 (w32 y1) y0), 0, 0)) rfl ?_
  refine mv_gfR rfl rfl (sh_367) (by decide) rfl ?_
  refine ev_bk 2 (S' := (50, [some (.ref 367), some (vI x1), some (vI x2)], [vI x1, vI x2, .ref 391], hp (wI S 392 (w32 y1) y0), 0, 0)) rfl ?_
  obtain ⟨b3, F⟩ := F
  refine mv_ias rfl (sh_391) b3 ?_
  have F := F _ rfl
  refine ev_bk 3 (S' := (54, [some (.ref 367), some (vI x1), some (vI x2)], [.ref 367, vI 1, vI x1], hp (wI (wI S 392 (w32 y1) y0) 391 (w32 x2) x1), 0, 0)) rfl ?_
  refine mv_gfR rfl rfl (sh_367) (by decide) rfl ?_
  refine ev_bk 1 (S' := (58, [some (.ref 367), some (vI x1), some (vI x2)], [vI x2, .ref 392, vI 1, vI x1], hp (wI (wI S 392 (w32 y1) y0) 391 (w32 x2) x1), 0, 0)) rfl ?_
  obtain ⟨b5, F⟩ := F
  refine mv_ial rfl (sh_392) b5 ?_
  refine mv_ishl ((2 : Int) ^ (((wI (wI S 392 (w32 y1) y0) 391 (w32 x2) x1).1 392 (w32 x2)) % 32).toNat) rfl rfl ?_
  refine mv_iadd rfl ?_
  refine ev_bk 1 (S' := (62, [some (.ref 367), some (vI (x1 + (1 * ((2 : Int) ^ (((wI (wI S 392 (w32 y1) y0) 391 (w32 x2) x1).1 392 (w32 x2)) % 32).toNat)))), some (vI x2)], [], hp (wI (wI S 392 (w32 y1) y0) 391 (w32 x2) x1), 0, 0)) rfl ?_
  refine mv_inc (lv' := [some (.ref 367), some (vI (x1 + (1 * ((2 : Int) ^ (((wI (wI S 392 (w32 y1) y0) 391 (w32 x2) x1).1 392 (w32 x2)) % 32).toNat)))), some (vI (x2 + 1))]) 2 1 rfl rfl rfl rfl ?_
  refine mv_goto 17 rfl rfl ?_
  exact F
theorem vc_MD_prepare_82 {q : Nat × (Nat → Int32)} {S S' : ms} {r : Option Value} (x1 x2 : Int)
    (F : ((30 ≤ w32 x2) → r = none ∧ S' = S) ∧ ((¬ 30 ≤ w32 x2) → ((4 ≤ w32 x2) → EV q 290 107 [some (.ref 367), some (vI x1), some (vI x2)] [vI (Int.tdiv (w32 (x2 - 2)) (w32 2)), vI x2, .ref 394] S r S') ∧ ((¬ 4 ≤ w32 x2) → EV q 290 107 [some (.ref 367), some (vI x1), some (vI x2)] [vI 0, vI x2, .ref 394] S r S'))) : EV q 290 82 [some (.ref 367), some (vI x1), some (vI x2)] [] S r S' := by
  unfold EV
  refine ev_bk 2 (S' := (85, [some (.ref 367), some (vI x1), some (vI x2)], [vI 30, vI x2], hp S, 0, 0)) rfl ?_
  refine mv_icmp 132 rfl rfl (fun c => ?_) (fun c => ?_)
  · have F := F.1 c
    obtain ⟨rfl, rfl⟩ := F
    exact ev_ret rfl rfl
  · have F := F.2 c
    refine ev_bk 1 (S' := (89, [some (.ref 367), some (vI x1), some (vI x2)], [.ref 367], hp S, 0, 0)) rfl ?_
    refine mv_gfR rfl rfl (sh_367) (by decide) rfl ?_
    refine ev_bk 3 (S' := (95, [some (.ref 367), some (vI x1), some (vI x2)], [vI 4, vI x2, vI x2, .ref 394], hp S, 0, 0)) rfl ?_
    refine mv_icmp 102 rfl rfl (fun c => ?_) (fun c => ?_)
    · have F := F.1 c
      refine ev_bk 2 (S' := (104, [some (.ref 367), some (vI x1), some (vI x2)], [vI 2, vI x2, vI x2, .ref 394], hp S, 0, 0)) rfl ?_
      refine mv_isub rfl ?_
      refine ev_bk 1 (S' := (106, [some (.ref 367), some (vI x1), some (vI x2)], [vI 2, vI (x2 - 2), vI x2, .ref 394], hp S, 0, 0)) rfl ?_
      refine mv_idiv (by decide) rfl ?_
      exact F
    · have F := F.2 c
      refine ev_bk 1 (S' := (99, [some (.ref 367), some (vI x1), some (vI x2)], [vI 0, vI x2, .ref 394], hp S, 0, 0)) rfl ?_
      refine mv_goto 107 rfl rfl ?_
      exact F
theorem vc_MD_prepare_107 {q : Nat × (Nat → Int32)} {S S' : ms} {r : Option Value} (x1 x2 y0 y1 : Int)
    (F : (0 ≤ w32 y1 ∧ w32 y1 < (30 : Nat)) ∧ ∀ S2 : ms, S2 = wI S 394 (w32 y1) y0 → (0 ≤ w32 x2 ∧ w32 x2 < (30 : Nat)) ∧ ∀ S4 : ms, S4 = wI S2 393 (w32 x2) x1 → (0 ≤ w32 x2 ∧ w32 x2 < (30 : Nat)) ∧ EV q 290 82 [some (.ref 367), some (vI (x1 + (1 * ((2 : Int) ^ ((S4.1 394 (w32 x2)) % 32).toNat)))), some (vI (x2 + 1))] [] S4 r S') : EV q 290 107 [some (.ref 367), some (vI x1), some (vI x2)] [vI y0, vI y1, .ref 394] S r S' := by
  unfold EV
  obtain ⟨b1, F⟩ := F
  refine mv_ias rfl (sh_394) b1 ?_
  have F := F _ rfl
  refine ev_bk 1 (S' := (109, [some (.ref 367), some (vI x1), some (vI x2)], [.ref 367], hp (wI S 394 (w32 y1) y0), 0, 0)) rfl ?_
  refine mv_gfR rfl rfl (sh_367) (by decide) rfl ?_
  refine ev_bk 2 (S' := (114, [some (.ref 367), some (vI x1), some (vI x2)], [vI x1, vI x2, .ref 393], hp (wI S 394 (w32 y1) y0), 0, 0)) rfl ?_
  obtain ⟨b3, F⟩ := F
  refine mv_ias rfl (sh_393) b3 ?_
  have F := F _ rfl
  refine ev_bk 3 (S' := (118, [some (.ref 367), some (vI x1), some (vI x2)], [.ref 367, vI 1, vI x1], hp (wI (wI S 394 (w32 y1) y0) 393 (w32 x2) x1), 0, 0)) rfl ?_
  refine mv_gfR rfl rfl (sh_367) (by decide) rfl ?_
  refine ev_bk 1 (S' := (122, [some (.ref 367), some (vI x1), some (vI x2)], [vI x2, .ref 394, vI 1, vI x1], hp (wI (wI S 394 (w32 y1) y0) 393 (w32 x2) x1), 0, 0)) rfl ?_
  obtain ⟨b5, F⟩ := F
  refine mv_ial rfl (sh_394) b5 ?_
  refine mv_ishl ((2 : Int) ^ (((wI (wI S 394 (w32 y1) y0) 393 (w32 x2) x1).1 394 (w32 x2)) % 32).toNat) rfl rfl ?_
  refine mv_iadd rfl ?_
  refine ev_bk 1 (S' := (126, [some (.ref 367), some (vI (x1 + (1 * ((2 : Int) ^ (((wI (wI S 394 (w32 y1) y0) 393 (w32 x2) x1).1 394 (w32 x2)) % 32).toNat)))), some (vI x2)], [], hp (wI (wI S 394 (w32 y1) y0) 393 (w32 x2) x1), 0, 0)) rfl ?_
  refine mv_inc (lv' := [some (.ref 367), some (vI (x1 + (1 * ((2 : Int) ^ (((wI (wI S 394 (w32 y1) y0) 393 (w32 x2) x1).1 394 (w32 x2)) % 32).toNat)))), some (vI (x2 + 1))]) 2 1 rfl rfl rfl rfl ?_
  refine mv_goto 82 rfl rfl ?_
  exact F
theorem vc_MD_low {q : Nat × (Nat → Int32)} {S S' : ms} {r : Option Value} (x1 x3 : Int)
    (F : EV q 291 3 [some (.ref 367), some (vL x1), none, some (vI x3), some (vI 0)] [] S r S') : EV q 291 0 [some (.ref 367), some (vL x1), none, some (vI x3), none] [] S r S' := by
  unfold EV
  refine ev_bk 2 (S' := (3, [some (.ref 367), some (vL x1), none, some (vI x3), some (vI 0)], [], hp S, 0, 0)) rfl ?_
  exact F
theorem vc_MD_low_3 {q : Nat × (Nat → Int32)} {S S' : ms} {r : Option Value} (x1 x3 x4 : Int)
    (F : ((w32 x3 ≤ w32 x4) → r = none ∧ S' = S) ∧ ((¬ w32 x3 ≤ w32 x4) → ∃ (S1 : ms), EV q 282 0 [some (.ref 367), some (vI (w64 x1 / ((2 : Int) ^ ((8 * x4) % 64).toNat)))] [] S none S1 ∧ EV q 291 3 [some (.ref 367), some (vL x1), none, some (vI x3), some (vI (x4 + 1))] [] S1 r S')) : EV q 291 3 [some (.ref 367), some (vL x1), none, some (vI x3), some (vI x4)] [] S r S' := by
  unfold EV
  refine ev_bk 2 (S' := (6, [some (.ref 367), some (vL x1), none, some (vI x3), some (vI x4)], [vI x3, vI x4], hp S, 0, 0)) rfl ?_
  refine mv_icmp 27 rfl rfl (fun c => ?_) (fun c => ?_)
  · have F := F.1 c
    obtain ⟨rfl, rfl⟩ := F
    exact ev_ret rfl rfl
  · have F := F.2 c
    refine ev_bk 4 (S' := (15, [some (.ref 367), some (vL x1), none, some (vI x3), some (vI x4)], [vI x4, vI 8, vL x1, .ref 367], hp S, 0, 0)) rfl ?_
    refine mv_imul rfl ?_
    refine mv_lshr ((2 : Int) ^ ((8 * x4) % 64).toNat) rfl rfl ?_
    refine mv_l2i rfl ?_
    obtain ⟨S1, e2, F⟩ := F
    refine mv_calv (as := [vI (w64 x1 / ((2 : Int) ^ ((8 * x4) % 64).toNat))]) (rest := []) e2 (sh_367) rfl rfl rfl ⟨rfl, rfl⟩ rfl rfl rfl rfl rfl ?_
    refine mv_inc (lv' := [some (.ref 367), some (vL x1), none, some (vI x3), some (vI (x4 + 1))]) 4 1 rfl rfl rfl rfl ?_
    refine mv_goto 3 rfl rfl ?_
    exact F
theorem vc_MD_parseLazy {q : Nat × (Nat → Int32)} {S S' : ms} {r : Option Value}
    (F : EV q 292 2 [some (.ref 367), some (vI 0), none, none] [] S r S') : EV q 292 0 [some (.ref 367), none, none, none] [] S r S' := by
  unfold EV
  refine ev_bk 2 (S' := (2, [some (.ref 367), some (vI 0), none, none], [], hp S, 0, 0)) rfl ?_
  exact F
theorem vc_MD_parseLazy_2 {q : Nat × (Nat → Int32)} {S S' : ms} {r : Option Value} (x1 : Int)
    (F : ((w32 (S.1 367 2) ≤ w32 x1) → r = none ∧ S' = S) ∧ ((¬ w32 (S.1 367 2) ≤ w32 x1) → ∃ (S1 : ms), EV q 293 0 [some (.ref 367), some (.ref 368), some (vI (S.1 367 2)), some (vI x1), some (vI 258), some (vI 32768), none, none, none, none, none] [] S none S1 ∧ ((w32 (S1.1 367 26) < 3) → EV q 292 87 [some (.ref 367), some (vI x1), some (vI (S1.1 367 26)), some (vI (S1.1 367 27))] [] S1 r S') ∧ ((¬ w32 (S1.1 367 26) < 3) → ((w32 (S1.1 367 2) ≤ w32 (x1 + 1)) → EV q 292 87 [some (.ref 367), some (vI x1), some (vI (S1.1 367 26)), some (vI (S1.1 367 27))] [] S1 r S') ∧ ((¬ w32 (S1.1 367 2) ≤ w32 (x1 + 1)) → ∃ (S3 : ms), EV q 293 0 [some (.ref 367), some (.ref 368), some (vI (S1.1 367 2)), some (vI (x1 + 1)), some (vI 258), some (vI 32768), none, none, none, none, none] [] S1 none S3 ∧ ((w32 (S3.1 367 26) ≤ w32 (S1.1 367 26)) → EV q 292 86 [some (.ref 367), some (vI x1), some (vI (S1.1 367 26)), some (vI (S1.1 367 27))] [vI (S1.1 367 26)] S3 r S') ∧ ((¬ w32 (S3.1 367 26) ≤ w32 (S1.1 367 26)) → EV q 292 86 [some (.ref 367), some (vI x1), some (vI (S1.1 367 26)), some (vI (S1.1 367 27))] [vI 0] S3 r S'))))) : EV q 292 2 [some (.ref 367), some (vI x1), none, none] [] S r S' := by
  unfold EV
  refine ev_bk 2 (S' := (4, [some (.ref 367), some (vI x1), none, none], [.ref 367, vI x1], hp S, 0, 0)) rfl ?_
  refine mv_gfI rfl rfl (sh_367) (by decide) rfl ?_
  refine mv_icmp 119 rfl rfl (fun c => ?_) (fun c => ?_)
  · have F := F.1 c
    obtain ⟨rfl, rfl⟩ := F
    exact ev_ret rfl rfl
  · have F := F.2 c
    refine ev_bk 2 (S' := (12, [some (.ref 367), some (vI x1), none, none], [.ref 367, .ref 367], hp S, 0, 0)) rfl ?_
    refine mv_gfR rfl rfl (sh_367) (by decide) rfl ?_
    refine ev_bk 1 (S' := (16, [some (.ref 367), some (vI x1), none, none], [.ref 367, .ref 368, .ref 367], hp S, 0, 0)) rfl ?_
    refine mv_gfI rfl rfl (sh_367) (by decide) rfl ?_
    refine ev_bk 3 (S' := (25, [some (.ref 367), some (vI x1), none, none], [vI 32768, vI 258, vI x1, vI (S.1 367 2), .ref 368, .ref 367], hp S, 0, 0)) rfl ?_
    obtain ⟨S1, e2, F⟩ := F
    refine mv_calv (as := [.ref 368, vI (S.1 367 2), vI x1, vI 258, vI 32768]) (rest := []) e2 (sh_367) rfl rfl rfl ⟨rfl, rfl⟩ rfl rfl rfl rfl rfl ?_
    refine ev_bk 1 (S' := (29, [some (.ref 367), some (vI x1), none, none], [.ref 367], hp S1, 0, 0)) rfl ?_
    refine mv_gfI rfl rfl (sh_367) (by decide) rfl ?_
    refine ev_bk 2 (S' := (34, [some (.ref 367), some (vI x1), some (vI (S1.1 367 26)), none], [.ref 367], hp S1, 0, 0)) rfl ?_
    refine mv_gfI rfl rfl (sh_367) (by decide) rfl ?_
    refine ev_bk 3 (S' := (40, [some (.ref 367), some (vI x1), some (vI (S1.1 367 26)), some (vI (S1.1 367 27))], [vI 3, vI (S1.1 367 26)], hp S1, 0, 0)) rfl ?_
    refine mv_icmp 87 rfl rfl (fun c => ?_) (fun c => ?_)
    · have F := F.1 c
      exact F
    · have F := F.2 c
      refine ev_bk 2 (S' := (45, [some (.ref 367), some (vI x1), some (vI (S1.1 367 26)), some (vI (S1.1 367 27))], [vI 1, vI x1], hp S1, 0, 0)) rfl ?_
      refine mv_iadd rfl ?_
      refine ev_bk 1 (S' := (47, [some (.ref 367), some (vI x1), some (vI (S1.1 367 26)), some (vI (S1.1 367 27))], [.ref 367, vI (x1 + 1)], hp S1, 0, 0)) rfl ?_
      refine mv_gfI rfl rfl (sh_367) (by decide) rfl ?_
      refine mv_icmp 87 rfl rfl (fun c => ?_) (fun c => ?_)
      · have F := F.1 c
        exact F
      · have F := F.2 c
        refine ev_bk 2 (S' := (55, [some (.ref 367), some (vI x1), some (vI (S1.1 367 26)), some (vI (S1.1 367 27))], [.ref 367, .ref 367], hp S1, 0, 0)) rfl ?_
        refine mv_gfR rfl rfl (sh_367) (by decide) rfl ?_
        refine ev_bk 1 (S' := (59, [some (.ref 367), some (vI x1), some (vI (S1.1 367 26)), some (vI (S1.1 367 27))], [.ref 367, .ref 368, .ref 367], hp S1, 0, 0)) rfl ?_
        refine mv_gfI rfl rfl (sh_367) (by decide) rfl ?_
        refine ev_bk 2 (S' := (64, [some (.ref 367), some (vI x1), some (vI (S1.1 367 26)), some (vI (S1.1 367 27))], [vI 1, vI x1, vI (S1.1 367 2), .ref 368, .ref 367], hp S1, 0, 0)) rfl ?_
        refine mv_iadd rfl ?_
        refine ev_bk 2 (S' := (70, [some (.ref 367), some (vI x1), some (vI (S1.1 367 26)), some (vI (S1.1 367 27))], [vI 32768, vI 258, vI (x1 + 1), vI (S1.1 367 2), .ref 368, .ref 367], hp S1, 0, 0)) rfl ?_
        obtain ⟨S3, e4, F⟩ := F
        refine mv_calv (as := [.ref 368, vI (S1.1 367 2), vI (x1 + 1), vI 258, vI 32768]) (rest := []) e4 (sh_367) rfl rfl rfl ⟨rfl, rfl⟩ rfl rfl rfl rfl rfl ?_
        refine ev_bk 1 (S' := (74, [some (.ref 367), some (vI x1), some (vI (S1.1 367 26)), some (vI (S1.1 367 27))], [.ref 367], hp S3, 0, 0)) rfl ?_
        refine mv_gfI rfl rfl (sh_367) (by decide) rfl ?_
        refine ev_bk 1 (S' := (78, [some (.ref 367), some (vI x1), some (vI (S1.1 367 26)), some (vI (S1.1 367 27))], [vI (S1.1 367 26), vI (S3.1 367 26)], hp S3, 0, 0)) rfl ?_
        refine mv_icmp 85 rfl rfl (fun c => ?_) (fun c => ?_)
        · have F := F.1 c
          refine ev_bk 1 (S' := (86, [some (.ref 367), some (vI x1), some (vI (S1.1 367 26)), some (vI (S1.1 367 27))], [vI (S1.1 367 26)], hp S3, 0, 0)) rfl ?_
          exact F
        · have F := F.2 c
          refine ev_bk 1 (S' := (82, [some (.ref 367), some (vI x1), some (vI (S1.1 367 26)), some (vI (S1.1 367 27))], [vI 0], hp S3, 0, 0)) rfl ?_
          refine mv_goto 86 rfl rfl ?_
          exact F
theorem vc_MD_parseLazy_86 {q : Nat × (Nat → Int32)} {S S' : ms} {r : Option Value} (x1 x2 x3 y0 : Int)
    (F : EV q 292 87 [some (.ref 367), some (vI x1), some (vI y0), some (vI x3)] [] S r S') : EV q 292 86 [some (.ref 367), some (vI x1), some (vI x2), some (vI x3)] [vI y0] S r S' := by
  unfold EV
  refine ev_bk 1 (S' := (87, [some (.ref 367), some (vI x1), some (vI y0), some (vI x3)], [], hp S, 0, 0)) rfl ?_
  exact F
theorem vc_MD_parseLazy_87 {q : Nat × (Nat → Int32)} {S S' : ms} {r : Option Value} (x1 x2 x3 : Int)
    (F : ((3 ≤ w32 x2) → ∃ (S1 : ms), EV q 294 0 [some (.ref 367), some (vI x2), some (vI x3), some (vI x1)] [] S none S1 ∧ EV q 292 116 [some (.ref 367), some (vI (x1 + x2)), some (vI x2), some (vI x3)] [] S1 r S') ∧ ((¬ 3 ≤ w32 x2) → ∃ (S3 : ms), EV q 294 0 [some (.ref 367), some (vI 1), some (vI 0), some (vI x1)] [] S none S3 ∧ EV q 292 116 [some (.ref 367), some (vI (x1 + 1)), some (vI x2), some (vI x3)] [] S3 r S')) : EV q 292 87 [some (.ref 367), some (vI x1), some (vI x2), some (vI x3)] [] S r S' := by
  unfold EV
  refine ev_bk 2 (S' := (89, [some (.ref 367), some (vI x1), some (vI x2), some (vI x3)], [vI 3, vI x2], hp S, 0, 0)) rfl ?_
  refine mv_icmp 105 rfl rfl (fun c => ?_) (fun c => ?_)
  · have F := F.1 c
    refine ev_bk 4 (S' := (109, [some (.ref 367), some (vI x1), some (vI x2), some (vI x3)], [vI x1, vI x3, vI x2, .ref 367], hp S, 0, 0)) rfl ?_
    obtain ⟨S1, e2, F⟩ := F
    refine mv_calv (as := [vI x2, vI x3, vI x1]) (rest := []) e2 (sh_367) rfl rfl rfl ⟨rfl, rfl⟩ rfl rfl rfl rfl rfl ?_
    refine ev_bk 2 (S' := (114, [some (.ref 367), some (vI x1), some (vI x2), some (vI x3)], [vI x2, vI x1], hp S1, 0, 0)) rfl ?_
    refine mv_iadd rfl ?_
    refine ev_bk 1 (S' := (116, [some (.ref 367), some (vI (x1 + x2)), some (vI x2), some (vI x3)], [], hp S1, 0, 0)) rfl ?_
    exact F
  · have F := F.2 c
    refine ev_bk 4 (S' := (96, [some (.ref 367), some (vI x1), some (vI x2), some (vI x3)], [vI x1, vI 0, vI 1, .ref 367], hp S, 0, 0)) rfl ?_
    obtain ⟨S3, e4, F⟩ := F
    refine mv_calv (as := [vI 1, vI 0, vI x1]) (rest := []) e4 (sh_367) rfl rfl rfl ⟨rfl, rfl⟩ rfl rfl rfl rfl rfl ?_
    refine mv_inc (lv' := [some (.ref 367), some (vI (x1 + 1)), some (vI x2), some (vI x3)]) 1 1 rfl rfl rfl rfl ?_
    refine mv_goto 116 rfl rfl ?_
    exact F
theorem vc_MD_parseLazy_116 {q : Nat × (Nat → Int32)} {S S' : ms} {r : Option Value} (x1 x2 x3 : Int)
    (F : EV q 292 2 [some (.ref 367), some (vI x1), none, none] [] S r S') : EV q 292 116 [some (.ref 367), some (vI x1), some (vI x2), some (vI x3)] [] S r S' := by
  unfold EV
  refine mv_goto 2 rfl rfl ?_
  exact ev_wk (le_s (le_s (le_n (le_n le_0)))) F
theorem vc_MD_longest {q : Nat × (Nat → Int32)} {S S' : ms} {r : Option Value} (x2 x3 x4 x5 : Int) (a1 na1 : Nat) (ha1 : SH a1 = (1, na1, []))
    (F : ((w32 x4 ≤ w32 (x2 - x3)) → EV q 293 19 [some (.ref 367), some (.ref a1), some (vI x2), some (vI x3), some (vI x4), some (vI x5), some (vI 0), none, none, none, none] [vI x4] S r S') ∧ ((¬ w32 x4 ≤ w32 (x2 - x3)) → EV q 293 19 [some (.ref 367), some (.ref a1), some (vI x2), some (vI x3), some (vI x4), some (vI x5), some (vI 0), none, none, none, none] [vI (x2 - x3)] S r S')) : EV q 293 0 [some (.ref 367), some (.ref a1), some (vI x2), some (vI x3), some (vI x4), some (vI x5), none, none, none, none, none] [] S r S' := by
  unfold EV
  refine ev_bk 4 (S' := (5, [some (.ref 367), some (.ref a1), some (vI x2), some (vI x3), some (vI x4), some (vI x5), some (vI 0), none, none, none, none], [vI x3, vI x2], hp S, 0, 0)) rfl ?_
  refine mv_isub rfl ?_
  refine ev_bk 1 (S' := (8, [some (.ref 367), some (.ref a1), some (vI x2), some (vI x3), some (vI x4), some (vI x5), some (vI 0), none, none, none, none], [vI x4, vI (x2 - x3)], hp S, 0, 0)) rfl ?_
  refine mv_icmp 17 rfl rfl (fun c => ?_) (fun c => ?_)
  · have F := F.1 c
    refine ev_bk 1 (S' := (19, [some (.ref 367), some (.ref a1), some (vI x2), some (vI x3), some (vI x4), some (vI x5), some (vI 0), none, none, none, none], [vI x4], hp S, 0, 0)) rfl ?_
    exact F
  · have F := F.2 c
    refine ev_bk 2 (S' := (13, [some (.ref 367), some (.ref a1), some (vI x2), some (vI x3), some (vI x4), some (vI x5), some (vI 0), none, none, none, none], [vI x3, vI x2], hp S, 0, 0)) rfl ?_
    refine mv_isub rfl ?_
    refine mv_goto 19 rfl rfl ?_
    exact F
theorem vc_MD_longest_19 {q : Nat × (Nat → Int32)} {S S' : ms} {r : Option Value} (x2 x3 x4 x5 x6 y0 : Int) (a1 na1 : Nat) (ha1 : SH a1 = (1, na1, []))
    (F : ∀ S1 : ms, S1 = wI S 367 27 0 → EV q 293 29 [some (.ref 367), some (.ref a1), some (vI x2), some (vI x3), some (vI x4), some (vI x5), some (vI x6), some (vI y0), some (vI 1), none, none] [] S1 r S') : EV q 293 19 [some (.ref 367), some (.ref a1), some (vI x2), some (vI x3), some (vI x4), some (vI x5), some (vI x6), none, none, none, none] [vI y0] S r S' := by
  unfold EV
  refine ev_bk 3 (S' := (23, [some (.ref 367), some (.ref a1), some (vI x2), some (vI x3), some (vI x4), some (vI x5), some (vI x6), some (vI y0), none, none, none], [vI 0, .ref 367], hp S, 0, 0)) rfl ?_
  refine mv_pfI rfl rfl (sh_367) (by decide) rfl rfl ?_
  have F := F _ rfl
  refine ev_bk 2 (S' := (29, [some (.ref 367), some (.ref a1), some (vI x2), some (vI x3), some (vI x4), some (vI x5), some (vI x6), some (vI y0), some (vI 1), none, none], [], hp (wI S 367 27 0), 0, 0)) rfl ?_
  exact F
theorem vc_MD_longest_29 {q : Nat × (Nat → Int32)} {S S' : ms} {r : Option Value} (x2 x3 x4 x5 x6 x7 x8 : Int) (a1 na1 : Nat) (ha1 : SH a1 = (1, na1, []))
    (F : ((w32 x3 < w32 x8) → EV q 293 163 [some (.ref 367), some (.ref a1), some (vI x2), some (vI x3), some (vI x4), some (vI x5), some (vI x6), some (vI x7), some (vI x8), none, none] [] S r S') ∧ ((¬ w32 x3 < w32 x8) → ((w32 x5 < w32 x8) → EV q 293 163 [some (.ref 367), some (.ref a1), some (vI x2), some (vI x3), some (vI x4), some (vI x5), some (vI x6), some (vI x7), some (vI x8), none, none] [] S r S') ∧ ((¬ w32 x5 < w32 x8) → ((w32 x7 ≤ w32 x6) → EV q 293 163 [some (.ref 367), some (.ref a1), some (vI x2), some (vI x3), some (vI x4), some (vI x5), some (vI x6), some (vI x7), some (vI x8), none, none] [] S r S') ∧ ((¬ w32 x7 ≤ w32 x6) → (0 ≤ w32 (x3 + x6) ∧ w32 (x3 + x6) < (na1 : Nat)) ∧ (0 ≤ w32 ((x3 + x6) - x8) ∧ w32 ((x3 + x6) - x8) < (na1 : Nat)) ∧ ((w32 (S.1 a1 (w32 (x3 + x6))) = w32 (S.1 a1 (w32 ((x3 + x6) - x8)))) → EV q 293 73 [some (.ref 367), some (.ref a1), some (vI x2), some (vI x3), some (vI x4), some (vI x5), some (vI x6), some (vI x7), some (vI x8), some (vI 0), none] [] S r S') ∧ ((¬ w32 (S.1 a1 (w32 (x3 + x6))) = w32 (S.1 a1 (w32 ((x3 + x6) - x8)))) → EV q 293 157 [some (.ref 367), some (.ref a1), some (vI x2), some (vI x3), some (vI x4), some (vI x5), some (vI x6), some (vI x7), some (vI x8), none, none] [] S r S'))))) : EV q 293 29 [some (.ref 367), some (.ref a1), some (vI x2), some (vI x3), some (vI x4), some (vI x5), some (vI x6), some (vI x7), some (vI x8), none, none] [] S r S' := by
  unfold EV
  refine ev_bk 2 (S' := (32, [some (.ref 367), some (.ref a1), some (vI x2), some (vI x3), some (vI x4), some (vI x5), some (vI x6), some (vI x7), some (vI x8), none, none], [vI x3, vI x8], hp S, 0, 0)) rfl ?_
  refine mv_icmp 163 rfl rfl (fun c => ?_) (fun c => ?_)
  · have F := F.1 c
    exact F
  · have F := F.2 c
    refine ev_bk 2 (S' := (39, [some (.ref 367), some (.ref a1), some (vI x2), some (vI x3), some (vI x4), some (vI x5), some (vI x6), some (vI x7), some (vI x8), none, none], [vI x5, vI x8], hp S, 0, 0)) rfl ?_
    refine mv_icmp 163 rfl rfl (fun c => ?_) (fun c => ?_)
    · have F := F.1 c
      exact F
    · have F := F.2 c
      refine ev_bk 2 (S' := (46, [some (.ref 367), some (.ref a1), some (vI x2), some (vI x3), some (vI x4), some (vI x5), some (vI x6), some (vI x7), some (vI x8), none, none], [vI x7, vI x6], hp S, 0, 0)) rfl ?_
      refine mv_icmp 163 rfl rfl (fun c => ?_) (fun c => ?_)
      · have F := F.1 c
        exact F
      · have F := F.2 c
        refine ev_bk 3 (S' := (53, [some (.ref 367), some (.ref a1), some (vI x2), some (vI x3), some (vI x4), some (vI x5), some (vI x6), some (vI x7), some (vI x8), none, none], [vI x6, vI x3, .ref a1], hp S, 0, 0)) rfl ?_
        refine mv_iadd rfl ?_
        obtain ⟨b1, F⟩ := F
        refine mv_bal rfl (ha1) b1 ?_
        refine ev_bk 3 (S' := (59, [some (.ref 367), some (.ref a1), some (vI x2), some (vI x3), some (vI x4), some (vI x5), some (vI x6), some (vI x7), some (vI x8), none, none], [vI x6, vI x3, .ref a1, vI (S.1 a1 (w32 (x3 + x6)))], hp S, 0, 0)) rfl ?_
        refine mv_iadd rfl ?_
        refine ev_bk 1 (S' := (62, [some (.ref 367), some (.ref a1), some (vI x2), some (vI x3), some (vI x4), some (vI x5), some (vI x6), some (vI x7), some (vI x8), none, none], [vI x8, vI (x3 + x6), .ref a1, vI (S.1 a1 (w32 (x3 + x6)))], hp S, 0, 0)) rfl ?_
        refine mv_isub rfl ?_
        obtain ⟨b2, F⟩ := F
        refine mv_bal rfl (ha1) b2 ?_
        refine mv_icmp 70 rfl rfl (fun c => ?_) (fun c => ?_)
        · have F := F.1 c
          refine ev_bk 2 (S' := (73, [some (.ref 367), some (.ref a1), some (vI x2), some (vI x3), some (vI x4), some (vI x5), some (vI x6), some (vI x7), some (vI x8), some (vI 0), none], [], hp S, 0, 0)) rfl ?_
          exact F
        · have F := F.2 c
          refine mv_goto 157 rfl rfl ?_
          exact F
theorem vc_MD_longest_73 {q : Nat × (Nat → Int32)} {S S' : ms} {r : Option Value} (x2 x3 x4 x5 x6 x7 x8 x9 : Int) (a1 na1 : Nat) (ha1 : SH a1 = (1, na1, []))
    (F : ((w32 x7 ≤ w32 x9) → EV q 293 104 [some (.ref 367), some (.ref a1), some (vI x2), some (vI x3), some (vI x4), some (vI x5), some (vI x6), some (vI x7), some (vI x8), some (vI x9), none] [] S r S') ∧ ((¬ w32 x7 ≤ w32 x9) → (0 ≤ w32 (x3 + x9) ∧ w32 (x3 + x9) < (na1 : Nat)) ∧ (0 ≤ w32 ((x3 + x9) - x8) ∧ w32 ((x3 + x9) - x8) < (na1 : Nat)) ∧ ((¬ w32 (S.1 a1 (w32 (x3 + x9))) = w32 (S.1 a1 (w32 ((x3 + x9) - x8)))) → EV q 293 104 [some (.ref 367), some (.ref a1), some (vI x2), some (vI x3), some (vI x4), some (vI x5), some (vI x6), some (vI x7), some (vI x8), some (vI x9), none] [] S r S') ∧ ((¬ (¬ w32 (S.1 a1 (w32 (x3 + x9))) = w32 (S.1 a1 (w32 ((x3 + x9) - x8))))) → EV q 293 73 [some (.ref 367), some (.ref a1), some (vI x2), some (vI x3), some (vI x4), some (vI x5), some (vI x6), some (vI x7), some (vI x8), some (vI (x9 + 1)), none] [] S r S'))) : EV q 293 73 [some (.ref 367), some (.ref a1), some (vI x2), some (vI x3), some (vI x4), some (vI x5), some (vI x6), some (vI x7), some (vI x8), some (vI x9), none] [] S r S' := by
  unfold EV
  refine ev_bk 2 (S' := (77, [some (.ref 367), some (.ref a1), some (vI x2), some (vI x3), some (vI x4), some (vI x5), some (vI x6), some (vI x7), some (vI x8), some (vI x9), none], [vI x7, vI x9], hp S, 0, 0)) rfl ?_
  refine mv_icmp 104 rfl rfl (fun c => ?_) (fun c => ?_)
  · have F := F.1 c
    exact F
  · have F := F.2 c
    refine ev_bk 3 (S' := (84, [some (.ref 367), some (.ref a1), some (vI x2), some (vI x3), some (vI x4), some (vI x5), some (vI x6), some (vI x7), some (vI x8), some (vI x9), none], [vI x9, vI x3, .ref a1], hp S, 0, 0)) rfl ?_
    refine mv_iadd rfl ?_
    obtain ⟨b1, F⟩ := F
    refine mv_bal rfl (ha1) b1 ?_
    refine ev_bk 3 (S' := (90, [some (.ref 367), some (.ref a1), some (vI x2), some (vI x3), some (vI x4), some (vI x5), some (vI x6), some (vI x7), some (vI x8), some (vI x9), none], [vI x9, vI x3, .ref a1, vI (S.1 a1 (w32 (x3 + x9)))], hp S, 0, 0)) rfl ?_
    refine mv_iadd rfl ?_
    refine ev_bk 1 (S' := (93, [some (.ref 367), some (.ref a1), some (vI x2), some (vI x3), some (vI x4), some (vI x5), some (vI x6), some (vI x7), some (vI x8), some (vI x9), none], [vI x8, vI (x3 + x9), .ref a1, vI (S.1 a1 (w32 (x3 + x9)))], hp S, 0, 0)) rfl ?_
    refine mv_isub rfl ?_
    obtain ⟨b2, F⟩ := F
    refine mv_bal rfl (ha1) b2 ?_
    refine mv_icmp 104 rfl rfl (fun c => ?_) (fun c => ?_)
    · have F := F.1 c
      exact F
    · have F := F.2 c
      refine mv_inc (lv' := [some (.ref 367), some (.ref a1), some (vI x2), some (vI x3), some (vI x4), some (vI x5), some (vI x6), some (vI x7), some (vI x8), some (vI (x9 + 1)), none]) 9 1 rfl rfl rfl rfl ?_
      refine mv_goto 73 rfl rfl ?_
      exact F
theorem vc_MD_longest_104 {q : Nat × (Nat → Int32)} {S S' : ms} {r : Option Value} (x2 x3 x4 x5 x6 x7 x8 x9 : Int) (a1 na1 : Nat) (ha1 : SH a1 = (1, na1, []))
    (F : ((w32 x9 ≤ w32 x6) → EV q 293 157 [some (.ref 367), some (.ref a1), some (vI x2), some (vI x3), some (vI x4), some (vI x5), some (vI x6), some (vI x7), some (vI x8), none, none] [] S r S') ∧ ((¬ w32 x9 ≤ w32 x6) → EV q 293 117 [some (.ref 367), some (.ref a1), some (vI x2), some (vI x3), some (vI x4), some (vI x5), some (vI x6), some (vI x7), some (vI x8), some (vI x9), some (vI (x6 + 1))] [] S r S')) : EV q 293 104 [some (.ref 367), some (.ref a1), some (vI x2), some (vI x3), some (vI x4), some (vI x5), some (vI x6), some (vI x7), some (vI x8), some (vI x9), none] [] S r S' := by
  unfold EV
  refine ev_bk 2 (S' := (108, [some (.ref 367), some (.ref a1), some (vI x2), some (vI x3), some (vI x4), some (vI x5), some (vI x6), some (vI x7), some (vI x8), some (vI x9), none], [vI x6, vI x9], hp S, 0, 0)) rfl ?_
  refine mv_icmp 157 rfl rfl (fun c => ?_) (fun c => ?_)
  · have F := F.1 c
    exact ev_wk (le_s (le_s (le_s (le_s (le_s (le_s (le_s (le_s (le_s (le_n (le_s le_0))))))))))) F
  · have F := F.2 c
    refine ev_bk 2 (S' := (114, [some (.ref 367), some (.ref a1), some (vI x2), some (vI x3), some (vI x4), some (vI x5), some (vI x6), some (vI x7), some (vI x8), some (vI x9), none], [vI 1, vI x6], hp S, 0, 0)) rfl ?_
    refine mv_iadd rfl ?_
    refine ev_bk 1 (S' := (117, [some (.ref 367), some (.ref a1), some (vI x2), some (vI x3), some (vI x4), some (vI x5), some (vI x6), some (vI x7), some (vI x8), some (vI x9), some (vI (x6 + 1))], [], hp S, 0, 0)) rfl ?_
    exact F
theorem vc_MD_longest_117 {q : Nat × (Nat → Int32)} {S S' : ms} {r : Option Value} (x2 x3 x4 x5 x6 x7 x8 x9 x10 : Int) (a1 na1 : Nat) (ha1 : SH a1 = (1, na1, []))
    (F : ((w32 x9 < w32 x10) → EV q 293 147 [some (.ref 367), some (.ref a1), some (vI x2), some (vI x3), some (vI x4), some (vI x5), some (vI x6), some (vI x7), some (vI x8), some (vI x9), some (vI x10)] [] S r S') ∧ ((¬ w32 x9 < w32 x10) → ((260 ≤ w32 x10) → EV q 293 147 [some (.ref 367), some (.ref a1), some (vI x2), some (vI x3), some (vI x4), some (vI x5), some (vI x6), some (vI x7), some (vI x8), some (vI x9), some (vI x10)] [] S r S') ∧ ((¬ 260 ≤ w32 x10) → (0 ≤ w32 x10 ∧ w32 x10 < (260 : Nat)) ∧ ∀ S2 : ms, S2 = wI S 379 (w32 x10) x8 → EV q 293 117 [some (.ref 367), some (.ref a1), some (vI x2), some (vI x3), some (vI x4), some (vI x5), some (vI x6), some (vI x7), some (vI x8), some (vI x9), some (vI (x10 + 1))] [] S2 r S'))) : EV q 293 117 [some (.ref 367), some (.ref a1), some (vI x2), some (vI x3), some (vI x4), some (vI x5), some (vI x6), some (vI x7), some (vI x8), some (vI x9), some (vI x10)] [] S r S' := by
  unfold EV
  refine ev_bk 2 (S' := (121, [some (.ref 367), some (.ref a1), some (vI x2), some (vI x3), some (vI x4), some (vI x5), some (vI x6), some (vI x7), some (vI x8), some (vI x9), some (vI x10)], [vI x9, vI x10], hp S, 0, 0)) rfl ?_
  refine mv_icmp 147 rfl rfl (fun c => ?_) (fun c => ?_)
  · have F := F.1 c
    exact F
  · have F := F.2 c
    refine ev_bk 2 (S' := (129, [some (.ref 367), some (.ref a1), some (vI x2), some (vI x3), some (vI x4), some (vI x5), some (vI x6), some (vI x7), some (vI x8), some (vI x9), some (vI x10)], [vI 260, vI x10], hp S, 0, 0)) rfl ?_
    refine mv_icmp 147 rfl rfl (fun c => ?_) (fun c => ?_)
    · have F := F.1 c
      exact F
    · have F := F.2 c
      refine ev_bk 1 (S' := (133, [some (.ref 367), some (.ref a1), some (vI x2), some (vI x3), some (vI x4), some (vI x5), some (vI x6), some (vI x7), some (vI x8), some (vI x9), some (vI x10)], [.ref 367], hp S, 0, 0)) rfl ?_
      refine mv_gfR rfl rfl (sh_367) (by decide) rfl ?_
      refine ev_bk 2 (S' := (140, [some (.ref 367), some (.ref a1), some (vI x2), some (vI x3), some (vI x4), some (vI x5), some (vI x6), some (vI x7), some (vI x8), some (vI x9), some (vI x10)], [vI x8, vI x10, .ref 379], hp S, 0, 0)) rfl ?_
      obtain ⟨b1, F⟩ := F
      refine mv_ias rfl (sh_379) b1 ?_
      have F := F _ rfl
      refine mv_inc (lv' := [some (.ref 367), some (.ref a1), some (vI x2), some (vI x3), some (vI x4), some (vI x5), some (vI x6), some (vI x7), some (vI x8), some (vI x9), some (vI (x10 + 1))]) 10 1 rfl rfl rfl rfl ?_
      refine mv_goto 117 rfl rfl ?_
      exact F
theorem vc_MD_longest_147 {q : Nat × (Nat → Int32)} {S S' : ms} {r : Option Value} (x2 x3 x4 x5 x6 x7 x8 x9 x10 : Int) (a1 na1 : Nat) (ha1 : SH a1 = (1, na1, []))
    (F : ∀ S1 : ms, S1 = wI S 367 27 x8 → EV q 293 157 [some (.ref 367), some (.ref a1), some (vI x2), some (vI x3), some (vI x4), some (vI x5), some (vI x9), some (vI x7), some (vI x8), none, none] [] S1 r S') : EV q 293 147 [some (.ref 367), some (.ref a1), some (vI x2), some (vI x3), some (vI x4), some (vI x5), some (vI x6), some (vI x7), some (vI x8), some (vI x9), some (vI x10)] [] S r S' := by
  unfold EV
  refine ev_bk 4 (S' := (154, [some (.ref 367), some (.ref a1), some (vI x2), some (vI x3), some (vI x4), some (vI x5), some (vI x9), some (vI x7), some (vI x8), some (vI x9), some (vI x10)], [vI x8, .ref 367], hp S, 0, 0)) rfl ?_
  refine mv_pfI rfl rfl (sh_367) (by decide) rfl rfl ?_
  have F := F _ rfl
  exact ev_wk (le_s (le_s (le_s (le_s (le_s (le_s (le_s (le_s (le_s (le_n (le_n le_0))))))))))) F
theorem vc_MD_longest_157 {q : Nat × (Nat → Int32)} {S S' : ms} {r : Option Value} (x2 x3 x4 x5 x6 x7 x8 : Int) (a1 na1 : Nat) (ha1 : SH a1 = (1, na1, []))
    (F : EV q 293 29 [some (.ref 367), some (.ref a1), some (vI x2), some (vI x3), some (vI x4), some (vI x5), some (vI x6), some (vI x7), some (vI (x8 + 1)), none, none] [] S r S') : EV q 293 157 [some (.ref 367), some (.ref a1), some (vI x2), some (vI x3), some (vI x4), some (vI x5), some (vI x6), some (vI x7), some (vI x8), none, none] [] S r S' := by
  unfold EV
  refine mv_inc (lv' := [some (.ref 367), some (.ref a1), some (vI x2), some (vI x3), some (vI x4), some (vI x5), some (vI x6), some (vI x7), some (vI (x8 + 1)), none, none]) 8 1 rfl rfl rfl rfl ?_
  refine mv_goto 29 rfl rfl ?_
  exact F
theorem vc_MD_longest_163 {q : Nat × (Nat → Int32)} {S S' : ms} {r : Option Value} (x2 x3 x4 x5 x6 x7 x8 : Int) (a1 na1 : Nat) (ha1 : SH a1 = (1, na1, []))
    (F : ∀ S1 : ms, S1 = wI S 367 26 x6 → r = none ∧ S' = S1) : EV q 293 163 [some (.ref 367), some (.ref a1), some (vI x2), some (vI x3), some (vI x4), some (vI x5), some (vI x6), some (vI x7), some (vI x8), none, none] [] S r S' := by
  unfold EV
  refine ev_bk 2 (S' := (166, [some (.ref 367), some (.ref a1), some (vI x2), some (vI x3), some (vI x4), some (vI x5), some (vI x6), some (vI x7), some (vI x8), none, none], [vI x6, .ref 367], hp S, 0, 0)) rfl ?_
  refine mv_pfI rfl rfl (sh_367) (by decide) rfl rfl ?_
  have F := F _ rfl
  obtain ⟨rfl, rfl⟩ := F
  exact ev_ret rfl rfl
theorem vc_MD_mark {q : Nat × (Nat → Int32)} {S S' : ms} {r : Option Value} (x1 x2 x3 : Int)
    (F : (0 ≤ w32 (S.1 367 29) ∧ w32 (S.1 367 29) < (6000 : Nat)) ∧ ∀ S2 : ms, S2 = wI S 380 (w32 (S.1 367 29)) x1 → (0 ≤ w32 (S2.1 367 29) ∧ w32 (S2.1 367 29) < (6000 : Nat)) ∧ ∀ S4 : ms, S4 = wI S2 381 (w32 (S2.1 367 29)) x2 → (0 ≤ w32 (S4.1 367 29) ∧ w32 (S4.1 367 29) < (6000 : Nat)) ∧ ∀ S6 : ms, S6 = wI S4 382 (w32 (S4.1 367 29)) x3 → ∀ S7 : ms, S7 = wI S6 367 29 (S6.1 367 29 + 1) → r = none ∧ S' = S7) : EV q 294 0 [some (.ref 367), some (vI x1), some (vI x2), some (vI x3)] [] S r S' := by
  unfold EV
  refine ev_bk 1 (S' := (1, [some (.ref 367), some (vI x1), some (vI x2), some (vI x3)], [.ref 367], hp S, 0, 0)) rfl ?_
  refine mv_gfR rfl rfl (sh_367) (by decide) rfl ?_
  refine ev_bk 1 (S' := (5, [some (.ref 367), some (vI x1), some (vI x2), some (vI x3)], [.ref 367, .ref 380], hp S, 0, 0)) rfl ?_
  refine mv_gfI rfl rfl (sh_367) (by decide) rfl ?_
  refine ev_bk 1 (S' := (9, [some (.ref 367), some (vI x1), some (vI x2), some (vI x3)], [vI x1, vI (S.1 367 29), .ref 380], hp S, 0, 0)) rfl ?_
  obtain ⟨b1, F⟩ := F
  refine mv_ias rfl (sh_380) b1 ?_
  have F := F _ rfl
  refine ev_bk 1 (S' := (11, [some (.ref 367), some (vI x1), some (vI x2), some (vI x3)], [.ref 367], hp (wI S 380 (w32 (S.1 367 29)) x1), 0, 0)) rfl ?_
  refine mv_gfR rfl rfl (sh_367) (by decide) rfl ?_
  refine ev_bk 1 (S' := (15, [some (.ref 367), some (vI x1), some (vI x2), some (vI x3)], [.ref 367, .ref 381], hp (wI S 380 (w32 (S.1 367 29)) x1), 0, 0)) rfl ?_
  refine mv_gfI rfl rfl (sh_367) (by decide) rfl ?_
  refine ev_bk 1 (S' := (19, [some (.ref 367), some (vI x1), some (vI x2), some (vI x3)], [vI x2, vI ((wI S 380 (w32 (S.1 367 29)) x1).1 367 29), .ref 381], hp (wI S 380 (w32 (S.1 367 29)) x1), 0, 0)) rfl ?_
  obtain ⟨b3, F⟩ := F
  refine mv_ias rfl (sh_381) b3 ?_
  have F := F _ rfl
  refine ev_bk 1 (S' := (21, [some (.ref 367), some (vI x1), some (vI x2), some (vI x3)], [.ref 367], hp (wI (wI S 380 (w32 (S.1 367 29)) x1) 381 (w32 ((wI S 380 (w32 (S.1 367 29)) x1).1 367 29)) x2), 0, 0)) rfl ?_
  refine mv_gfR rfl rfl (sh_367) (by decide) rfl ?_
  refine ev_bk 1 (S' := (25, [some (.ref 367), some (vI x1), some (vI x2), some (vI x3)], [.ref 367, .ref 382], hp (wI (wI S 380 (w32 (S.1 367 29)) x1) 381 (w32 ((wI S 380 (w32 (S.1 367 29)) x1).1 367 29)) x2), 0, 0)) rfl ?_
  refine mv_gfI rfl rfl (sh_367) (by decide) rfl ?_
  refine ev_bk 1 (S' := (29, [some (.ref 367), some (vI x1), some (vI x2), some (vI x3)], [vI x3, vI ((wI (wI S 380 (w32 (S.1 367 29)) x1) 381 (w32 ((wI S 380 (w32 (S.1 367 29)) x1).1 367 29)) x2).1 367 29), .ref 382], hp (wI (wI S 380 (w32 (S.1 367 29)) x1) 381 (w32 ((wI S 380 (w32 (S.1 367 29)) x1).1 367 29)) x2), 0, 0)) rfl ?_
  obtain ⟨b5, F⟩ := F
  refine mv_ias rfl (sh_382) b5 ?_
  have F := F _ rfl
  refine ev_bk 2 (S' := (32, [some (.ref 367), some (vI x1), some (vI x2), some (vI x3)], [.ref 367, .ref 367], hp (wI (wI (wI S 380 (w32 (S.1 367 29)) x1) 381 (w32 ((wI S 380 (w32 (S.1 367 29)) x1).1 367 29)) x2) 382 (w32 ((wI (wI S 380 (w32 (S.1 367 29)) x1) 381 (w32 ((wI S 380 (w32 (S.1 367 29)) x1).1 367 29)) x2).1 367 29)) x3), 0, 0)) rfl ?_
  refine mv_gfI rfl rfl (sh_367) (by decide) rfl ?_
  refine ev_bk 1 (S' := (36, [some (.ref 367), some (vI x1), some (vI x2), some (vI x3)], [vI 1, vI ((wI (wI (wI S 380 (w32 (S.1 367 29)) x1) 381 (w32 ((wI S 380 (w32 (S.1 367 29)) x1).1 367 29)) x2) 382 (w32 ((wI (wI S 380 (w32 (S.1 367 29)) x1) 381 (w32 ((wI S 380 (w32 (S.1 367 29)) x1).1 367 29)) x2).1 367 29)) x3).1 367 29), .ref 367], hp (wI (wI (wI S 380 (w32 (S.1 367 29)) x1) 381 (w32 ((wI S 380 (w32 (S.1 367 29)) x1).1 367 29)) x2) 382 (w32 ((wI (wI S 380 (w32 (S.1 367 29)) x1) 381 (w32 ((wI S 380 (w32 (S.1 367 29)) x1).1 367 29)) x2).1 367 29)) x3), 0, 0)) rfl ?_
  refine mv_iadd rfl ?_
  refine mv_pfI rfl rfl (sh_367) (by decide) rfl rfl ?_
  have F := F _ rfl
  obtain ⟨rfl, rfl⟩ := F
  exact ev_ret rfl rfl
theorem vc_MD_parseGreedy {q : Nat × (Nat → Int32)} {S S' : ms} {r : Option Value} (x1 : Int)
    (F : EV q 295 2 [some (.ref 367), some (vI x1), some (vI 0), none, none] [] S r S') : EV q 295 0 [some (.ref 367), some (vI x1), none, none, none] [] S r S' := by
  unfold EV
  refine ev_bk 2 (S' := (2, [some (.ref 367), some (vI x1), some (vI 0), none, none], [], hp S, 0, 0)) rfl ?_
  exact F
theorem vc_MD_parseGreedy_2 {q : Nat × (Nat → Int32)} {S S' : ms} {r : Option Value} (x1 x2 : Int)
    (F : ((w32 (S.1 367 2) ≤ w32 x2) → r = none ∧ S' = S) ∧ ((¬ w32 (S.1 367 2) ≤ w32 x2) → ∃ (S1 : ms), EV q 293 0 [some (.ref 367), some (.ref 368), some (vI (S.1 367 2)), some (vI x2), some (vI 258), some (vI 32768), none, none, none, none, none] [] S none S1 ∧ ((¬ w32 x1 = 0) → (¬ w32 x1 = 0) ∧ EV q 295 51 [some (.ref 367), some (vI x1), some (vI x2), some (vI (S1.1 367 26)), none] [vI (((Int.tdiv (w32 x2) (w32 x1)) * x1) + x1)] S1 r S') ∧ ((¬ (¬ w32 x1 = 0)) → EV q 295 51 [some (.ref 367), some (vI x1), some (vI x2), some (vI (S1.1 367 26)), none] [vI (S1.1 367 2)] S1 r S'))) : EV q 295 2 [some (.ref 367), some (vI x1), some (vI x2), none, none] [] S r S' := by
  unfold EV
  refine ev_bk 2 (S' := (4, [some (.ref 367), some (vI x1), some (vI x2), none, none], [.ref 367, vI x2], hp S, 0, 0)) rfl ?_
  refine mv_gfI rfl rfl (sh_367) (by decide) rfl ?_
  refine mv_icmp 105 rfl rfl (fun c => ?_) (fun c => ?_)
  · have F := F.1 c
    obtain ⟨rfl, rfl⟩ := F
    exact ev_ret rfl rfl
  · have F := F.2 c
    refine ev_bk 2 (S' := (12, [some (.ref 367), some (vI x1), some (vI x2), none, none], [.ref 367, .ref 367], hp S, 0, 0)) rfl ?_
    refine mv_gfR rfl rfl (sh_367) (by decide) rfl ?_
    refine ev_bk 1 (S' := (16, [some (.ref 367), some (vI x1), some (vI x2), none, none], [.ref 367, .ref 368, .ref 367], hp S, 0, 0)) rfl ?_
    refine mv_gfI rfl rfl (sh_367) (by decide) rfl ?_
    refine ev_bk 3 (S' := (25, [some (.ref 367), some (vI x1), some (vI x2), none, none], [vI 32768, vI 258, vI x2, vI (S.1 367 2), .ref 368, .ref 367], hp S, 0, 0)) rfl ?_
    obtain ⟨S1, e2, F⟩ := F
    refine mv_calv (as := [.ref 368, vI (S.1 367 2), vI x2, vI 258, vI 32768]) (rest := []) e2 (sh_367) rfl rfl rfl ⟨rfl, rfl⟩ rfl rfl rfl rfl rfl ?_
    refine ev_bk 1 (S' := (29, [some (.ref 367), some (vI x1), some (vI x2), none, none], [.ref 367], hp S1, 0, 0)) rfl ?_
    refine mv_gfI rfl rfl (sh_367) (by decide) rfl ?_
    refine ev_bk 2 (S' := (34, [some (.ref 367), some (vI x1), some (vI x2), some (vI (S1.1 367 26)), none], [vI x1], hp S1, 0, 0)) rfl ?_
    refine mv_if 44 rfl rfl (fun c => ?_) (fun c => ?_)
    · have F := F.1 c
      refine ev_bk 2 (S' := (46, [some (.ref 367), some (vI x1), some (vI x2), some (vI (S1.1 367 26)), none], [vI x1, vI x2], hp S1, 0, 0)) rfl ?_
      obtain ⟨b3, F⟩ := F
      refine mv_idiv b3 rfl ?_
      refine ev_bk 1 (S' := (48, [some (.ref 367), some (vI x1), some (vI x2), some (vI (S1.1 367 26)), none], [vI x1, vI (Int.tdiv (w32 x2) (w32 x1))], hp S1, 0, 0)) rfl ?_
      refine mv_imul rfl ?_
      refine ev_bk 1 (S' := (50, [some (.ref 367), some (vI x1), some (vI x2), some (vI (S1.1 367 26)), none], [vI x1, vI ((Int.tdiv (w32 x2) (w32 x1)) * x1)], hp S1, 0, 0)) rfl ?_
      refine mv_iadd rfl ?_
      exact F
    · have F := F.2 c
      refine ev_bk 1 (S' := (38, [some (.ref 367), some (vI x1), some (vI x2), some (vI (S1.1 367 26)), none], [.ref 367], hp S1, 0, 0)) rfl ?_
      refine mv_gfI rfl rfl (sh_367) (by decide) rfl ?_
      refine mv_goto 51 rfl rfl ?_
      exact F
theorem vc_MD_parseGreedy_51 {q : Nat × (Nat → Int32)} {S S' : ms} {r : Option Value} (x1 x2 x3 y0 : Int)
    (F : ((w32 x3 ≤ w32 (y0 - x2)) → EV q 295 69 [some (.ref 367), some (vI x1), some (vI x2), some (vI x3), some (vI y0)] [vI x3] S r S') ∧ ((¬ w32 x3 ≤ w32 (y0 - x2)) → EV q 295 69 [some (.ref 367), some (vI x1), some (vI x2), some (vI x3), some (vI y0)] [vI (y0 - x2)] S r S')) : EV q 295 51 [some (.ref 367), some (vI x1), some (vI x2), some (vI x3), none] [vI y0] S r S' := by
  unfold EV
  refine ev_bk 4 (S' := (57, [some (.ref 367), some (vI x1), some (vI x2), some (vI x3), some (vI y0)], [vI x2, vI y0, vI x3], hp S, 0, 0)) rfl ?_
  refine mv_isub rfl ?_
  refine mv_icmp 68 rfl rfl (fun c => ?_) (fun c => ?_)
  · have F := F.1 c
    refine ev_bk 1 (S' := (69, [some (.ref 367), some (vI x1), some (vI x2), some (vI x3), some (vI y0)], [vI x3], hp S, 0, 0)) rfl ?_
    exact F
  · have F := F.2 c
    refine ev_bk 2 (S' := (64, [some (.ref 367), some (vI x1), some (vI x2), some (vI x3), some (vI y0)], [vI x2, vI y0], hp S, 0, 0)) rfl ?_
    refine mv_isub rfl ?_
    refine mv_goto 69 rfl rfl ?_
    exact F
theorem vc_MD_parseGreedy_69 {q : Nat × (Nat → Int32)} {S S' : ms} {r : Option Value} (x1 x2 x3 x4 y0 : Int)
    (F : ((3 ≤ w32 y0) → ∃ (S1 : ms), EV q 294 0 [some (.ref 367), some (vI y0), some (vI (S.1 367 27)), some (vI x2)] [] S none S1 ∧ EV q 295 102 [some (.ref 367), some (vI x1), some (vI (x2 + y0)), some (vI y0), some (vI x4)] [] S1 r S') ∧ ((¬ 3 ≤ w32 y0) → ∃ (S3 : ms), EV q 294 0 [some (.ref 367), some (vI 1), some (vI 0), some (vI x2)] [] S none S3 ∧ EV q 295 102 [some (.ref 367), some (vI x1), some (vI (x2 + 1)), some (vI y0), some (vI x4)] [] S3 r S')) : EV q 295 69 [some (.ref 367), some (vI x1), some (vI x2), some (vI x3), some (vI x4)] [vI y0] S r S' := by
  unfold EV
  refine ev_bk 3 (S' := (72, [some (.ref 367), some (vI x1), some (vI x2), some (vI y0), some (vI x4)], [vI 3, vI y0], hp S, 0, 0)) rfl ?_
  refine mv_icmp 88 rfl rfl (fun c => ?_) (fun c => ?_)
  · have F := F.1 c
    refine ev_bk 3 (S' := (91, [some (.ref 367), some (vI x1), some (vI x2), some (vI y0), some (vI x4)], [.ref 367, vI y0, .ref 367], hp S, 0, 0)) rfl ?_
    refine mv_gfI rfl rfl (sh_367) (by decide) rfl ?_
    refine ev_bk 1 (S' := (95, [some (.ref 367), some (vI x1), some (vI x2), some (vI y0), some (vI x4)], [vI x2, vI (S.1 367 27), vI y0, .ref 367], hp S, 0, 0)) rfl ?_
    obtain ⟨S1, e2, F⟩ := F
    refine mv_calv (as := [vI y0, vI (S.1 367 27), vI x2]) (rest := []) e2 (sh_367) rfl rfl rfl ⟨rfl, rfl⟩ rfl rfl rfl rfl rfl ?_
    refine ev_bk 2 (S' := (100, [some (.ref 367), some (vI x1), some (vI x2), some (vI y0), some (vI x4)], [vI y0, vI x2], hp S1, 0, 0)) rfl ?_
    refine mv_iadd rfl ?_
    refine ev_bk 1 (S' := (102, [some (.ref 367), some (vI x1), some (vI (x2 + y0)), some (vI y0), some (vI x4)], [], hp S1, 0, 0)) rfl ?_
    exact F
  · have F := F.2 c
    refine ev_bk 4 (S' := (79, [some (.ref 367), some (vI x1), some (vI x2), some (vI y0), some (vI x4)], [vI x2, vI 0, vI 1, .ref 367], hp S, 0, 0)) rfl ?_
    obtain ⟨S3, e4, F⟩ := F
    refine mv_calv (as := [vI 1, vI 0, vI x2]) (rest := []) e4 (sh_367) rfl rfl rfl ⟨rfl, rfl⟩ rfl rfl rfl rfl rfl ?_
    refine mv_inc (lv' := [some (.ref 367), some (vI x1), some (vI (x2 + 1)), some (vI y0), some (vI x4)]) 2 1 rfl rfl rfl rfl ?_
    refine mv_goto 102 rfl rfl ?_
    exact F
theorem vc_MD_parseGreedy_102 {q : Nat × (Nat → Int32)} {S S' : ms} {r : Option Value} (x1 x2 x3 x4 : Int)
    (F : EV q 295 2 [some (.ref 367), some (vI x1), some (vI x2), none, none] [] S r S') : EV q 295 102 [some (.ref 367), some (vI x1), some (vI x2), some (vI x3), some (vI x4)] [] S r S' := by
  unfold EV
  refine mv_goto 2 rfl rfl ?_
  exact ev_wk (le_s (le_s (le_s (le_n (le_n le_0))))) F
theorem vc_MD_writeOwn {q : Nat × (Nat → Int32)} {S S' : ms} {r : Option Value} (x1 x2 : Int)
    (F : EV q 296 2 [some (.ref 367), some (vI x1), some (vI x2), some (vI 0), none, none, none, none, none, none, none] [] S r S') : EV q 296 0 [some (.ref 367), some (vI x1), some (vI x2), none, none, none, none, none, none, none, none] [] S r S' := by
  unfold EV
  refine ev_bk 2 (S' := (2, [some (.ref 367), some (vI x1), some (vI x2), some (vI 0), none, none, none, none, none, none, none], [], hp S, 0, 0)) rfl ?_
  exact F
theorem vc_MD_writeOwn_2 {q : Nat × (Nat → Int32)} {S S' : ms} {r : Option Value} (x1 x2 x3 : Int)
    (F : ((288 ≤ w32 x3) → EV q 296 35 [some (.ref 367), some (vI x1), some (vI x2), some (vI 0), none, none, none, none, none, none, none] [] S r S') ∧ ((¬ 288 ≤ w32 x3) → ((¬ w32 x3 = 256) → EV q 296 26 [some (.ref 367), some (vI x1), some (vI x2), some (vI x3), none, none, none, none, none, none, none] [vI 0, vI x3, .ref 398] S r S') ∧ ((¬ (¬ w32 x3 = 256)) → EV q 296 26 [some (.ref 367), some (vI x1), some (vI x2), some (vI x3), none, none, none, none, none, none, none] [vI 1, vI x3, .ref 398] S r S'))) : EV q 296 2 [some (.ref 367), some (vI x1), some (vI x2), some (vI x3), none, none, none, none, none, none, none] [] S r S' := by
  unfold EV
  refine ev_bk 2 (S' := (6, [some (.ref 367), some (vI x1), some (vI x2), some (vI x3), none, none, none, none, none, none, none], [vI 288, vI x3], hp S, 0, 0)) rfl ?_
  refine mv_icmp 33 rfl rfl (fun c => ?_) (fun c => ?_)
  · have F := F.1 c
    refine ev_bk 2 (S' := (35, [some (.ref 367), some (vI x1), some (vI x2), some (vI 0), none, none, none, none, none, none, none], [], hp S, 0, 0)) rfl ?_
    exact F
  · have F := F.2 c
    refine ev_bk 1 (S' := (10, [some (.ref 367), some (vI x1), some (vI x2), some (vI x3), none, none, none, none, none, none, none], [.ref 367], hp S, 0, 0)) rfl ?_
    refine mv_gfR rfl rfl (sh_367) (by decide) rfl ?_
    refine ev_bk 3 (S' := (18, [some (.ref 367), some (vI x1), some (vI x2), some (vI x3), none, none, none, none, none, none, none], [vI 256, vI x3, vI x3, .ref 398], hp S, 0, 0)) rfl ?_
    refine mv_icmp 25 rfl rfl (fun c => ?_) (fun c => ?_)
    · have F := F.1 c
      refine ev_bk 1 (S' := (26, [some (.ref 367), some (vI x1), some (vI x2), some (vI x3), none, none, none, none, none, none, none], [vI 0, vI x3, .ref 398], hp S, 0, 0)) rfl ?_
      exact F
    · have F := F.2 c
      refine ev_bk 1 (S' := (22, [some (.ref 367), some (vI x1), some (vI x2), some (vI x3), none, none, none, none, none, none, none], [vI 1, vI x3, .ref 398], hp S, 0, 0)) rfl ?_
      refine mv_goto 26 rfl rfl ?_
      exact F
theorem vc_MD_writeOwn_26 {q : Nat × (Nat → Int32)} {S S' : ms} {r : Option Value} (x1 x2 x3 y0 y1 : Int)
    (F : (0 ≤ w32 y1 ∧ w32 y1 < (288 : Nat)) ∧ ∀ S2 : ms, S2 = wI S 398 (w32 y1) y0 → EV q 296 2 [some (.ref 367), some (vI x1), some (vI x2), some (vI (x3 + 1)), none, none, none, none, none, none, none] [] S2 r S') : EV q 296 26 [some (.ref 367), some (vI x1), some (vI x2), some (vI x3), none, none, none, none, none, none, none] [vI y0, vI y1, .ref 398] S r S' := by
  unfold EV
  obtain ⟨b1, F⟩ := F
  refine mv_ias rfl (sh_398) b1 ?_
  have F := F _ rfl
  refine mv_inc (lv' := [some (.ref 367), some (vI x1), some (vI x2), some (vI (x3 + 1)), none, none, none, none, none, none, none]) 3 1 rfl rfl rfl rfl ?_
  refine mv_goto 2 rfl rfl ?_
  exact F
theorem vc_MD_writeOwn_35 {q : Nat × (Nat → Int32)} {S S' : ms} {r : Option Value} (x1 x2 x3 : Int)
    (F : ((32 ≤ w32 x3) → EV q 296 56 [some (.ref 367), some (vI x1), some (vI x2), some (vI x1), none, none, none, none, none, none, none] [] S r S') ∧ ((¬ 32 ≤ w32 x3) → (0 ≤ w32 x3 ∧ w32 x3 < (32 : Nat)) ∧ ∀ S2 : ms, S2 = wI S 399 (w32 x3) 0 → EV q 296 35 [some (.ref 367), some (vI x1), some (vI x2), some (vI (x3 + 1)), none, none, none, none, none, none, none] [] S2 r S')) : EV q 296 35 [some (.ref 367), some (vI x1), some (vI x2), some (vI x3), none, none, none, none, none, none, none] [] S r S' := by
  unfold EV
  refine ev_bk 2 (S' := (38, [some (.ref 367), some (vI x1), some (vI x2), some (vI x3), none, none, none, none, none, none, none], [vI 32, vI x3], hp S, 0, 0)) rfl ?_
  refine mv_icmp 54 rfl rfl (fun c => ?_) (fun c => ?_)
  · have F := F.1 c
    refine ev_bk 2 (S' := (56, [some (.ref 367), some (vI x1), some (vI x2), some (vI x1), none, none, none, none, none, none, none], [], hp S, 0, 0)) rfl ?_
    exact F
  · have F := F.2 c
    refine ev_bk 1 (S' := (42, [some (.ref 367), some (vI x1), some (vI x2), some (vI x3), none, none, none, none, none, none, none], [.ref 367], hp S, 0, 0)) rfl ?_
    refine mv_gfR rfl rfl (sh_367) (by decide) rfl ?_
    refine ev_bk 2 (S' := (47, [some (.ref 367), some (vI x1), some (vI x2), some (vI x3), none, none, none, none, none, none, none], [vI 0, vI x3, .ref 399], hp S, 0, 0)) rfl ?_
    obtain ⟨b1, F⟩ := F
    refine mv_ias rfl (sh_399) b1 ?_
    have F := F _ rfl
    refine mv_inc (lv' := [some (.ref 367), some (vI x1), some (vI x2), some (vI (x3 + 1)), none, none, none, none, none, none, none]) 3 1 rfl rfl rfl rfl ?_
    refine mv_goto 35 rfl rfl ?_
    exact F
theorem vc_MD_writeOwn_56 {q : Nat × (Nat → Int32)} {S S' : ms} {r : Option Value} (x1 x2 x3 : Int)
    (F : ((w32 x2 ≤ w32 x3) → ∃ (S1 : ms), EV q 299 0 [some (.ref 367), some (.ref 398), some (vI 286), some (vI 15), some (.ref 385), some (vI 0), none, none, none, none, none, none] [] S none S1 ∧ ∃ (S3 : ms), EV q 299 0 [some (.ref 367), some (.ref 399), some (vI 30), some (vI 15), some (.ref 387), some (vI 0), none, none, none, none, none, none] [] S1 none S3 ∧ ∃ (z7 : Int) (S5 : ms), EV q 301 0 [some (.ref 385), some (vI 0), some (vI 286), some (.ref 386), none, none, none, none] [] S3 (some (vI z7)) S5 ∧ ∃ (z10 : Int) (S8 : ms), EV q 301 0 [some (.ref 387), some (vI 0), some (vI 30), some (.ref 388), none, none, none, none] [] S5 (some (vI z10)) S8 ∧ EV q 296 217 [some (.ref 367), some (vI x1), some (vI x2), some (vI z7), some (vI z10), some (vI 286), none, none, none, none, none] [] S8 r S') ∧ ((¬ w32 x2 ≤ w32 x3) → (0 ≤ w32 x3 ∧ w32 x3 < (6000 : Nat)) ∧ ((¬ w32 (S.1 381 (w32 x3)) = 0) → (0 ≤ w32 x3 ∧ w32 x3 < (6000 : Nat)) ∧ ∃ (z15 : Int) (S13 : ms), EV q 297 0 [some (.ref 367), some (vI (S.1 380 (w32 x3))), none] [] S (some (vI z15)) S13 ∧ (0 ≤ w32 (257 + z15) ∧ w32 (257 + z15) < (288 : Nat)) ∧ (0 ≤ w32 (257 + z15) ∧ w32 (257 + z15) < (288 : Nat)) ∧ ∀ S18 : ms, S18 = wI S13 398 (w32 (257 + z15)) ((S13.1 398 (w32 (257 + z15))) + 1) → (0 ≤ w32 x3 ∧ w32 x3 < (6000 : Nat)) ∧ ∃ (z22 : Int) (S20 : ms), EV q 298 0 [some (.ref 367), some (vI (S18.1 381 (w32 x3))), none] [] S18 (some (vI z22)) S20 ∧ (0 ≤ w32 z22 ∧ w32 z22 < (32 : Nat)) ∧ (0 ≤ w32 z22 ∧ w32 z22 < (32 : Nat)) ∧ ∀ S25 : ms, S25 = wI S20 399 (w32 z22) ((S20.1 399 (w32 z22)) + 1) → EV q 296 139 [some (.ref 367), some (vI x1), some (vI x2), some (vI x3), none, none, none, none, none, none, none] [] S25 r S') ∧ ((¬ (¬ w32 (S.1 381 (w32 x3)) = 0)) → (0 ≤ w32 x3 ∧ w32 x3 < (6000 : Nat)) ∧ (0 ≤ w32 (S.1 382 (w32 x3)) ∧ w32 (S.1 382 (w32 x3)) < (6000 : Nat)) ∧ (0 ≤ w32 ((S.1 368 (w32 (S.1 382 (w32 x3)))) % 256) ∧ w32 ((S.1 368 (w32 (S.1 382 (w32 x3)))) % 256) < (288 : Nat)) ∧ (0 ≤ w32 ((S.1 368 (w32 (S.1 382 (w32 x3)))) % 256) ∧ w32 ((S.1 368 (w32 (S.1 382 (w32 x3)))) % 256) < (288 : Nat)) ∧ ∀ S30 : ms, S30 = wI S 398 (w32 ((S.1 368 (w32 (S.1 382 (w32 x3)))) % 256)) ((S.1 398 (w32 ((S.1 368 (w32 (S.1 382 (w32 x3)))) % 256))) + 1) → EV q 296 139 [some (.ref 367), some (vI x1), some (vI x2), some (vI x3), none, none, none, none, none, none, none] [] S30 r S'))) : EV q 296 56 [some (.ref 367), some (vI x1), some (vI x2), some (vI x3), none, none, none, none, none, none, none] [] S r S' := by
  unfold EV
  refine ev_bk 2 (S' := (58, [some (.ref 367), some (vI x1), some (vI x2), some (vI x3), none, none, none, none, none, none, none], [vI x2, vI x3], hp S, 0, 0)) rfl ?_
  refine mv_icmp 145 rfl rfl (fun c => ?_) (fun c => ?_)
  · have F := F.1 c
    refine ev_bk 2 (S' := (147, [some (.ref 367), some (vI x1), some (vI x2), some (vI x3), none, none, none, none, none, none, none], [.ref 367, .ref 367], hp S, 0, 0)) rfl ?_
    refine mv_gfR rfl rfl (sh_367) (by decide) rfl ?_
    refine ev_bk 3 (S' := (156, [some (.ref 367), some (vI x1), some (vI x2), some (vI x3), none, none, none, none, none, none, none], [.ref 367, vI 15, vI 286, .ref 398, .ref 367], hp S, 0, 0)) rfl ?_
    refine mv_gfR rfl rfl (sh_367) (by decide) rfl ?_
    refine ev_bk 1 (S' := (160, [some (.ref 367), some (vI x1), some (vI x2), some (vI x3), none, none, none, none, none, none, none], [vI 0, .ref 385, vI 15, vI 286, .ref 398, .ref 367], hp S, 0, 0)) rfl ?_
    obtain ⟨S1, e2, F⟩ := F
    refine mv_calv (as := [.ref 398, vI 286, vI 15, .ref 385, vI 0]) (rest := []) e2 (sh_367) rfl rfl rfl ⟨rfl, rfl⟩ rfl rfl rfl rfl rfl ?_
    refine ev_bk 2 (S' := (165, [some (.ref 367), some (vI x1), some (vI x2), some (vI x3), none, none, none, none, none, none, none], [.ref 367, .ref 367], hp S1, 0, 0)) rfl ?_
    refine mv_gfR rfl rfl (sh_367) (by decide) rfl ?_
    refine ev_bk 3 (S' := (173, [some (.ref 367), some (vI x1), some (vI x2), some (vI x3), none, none, none, none, none, none, none], [.ref 367, vI 15, vI 30, .ref 399, .ref 367], hp S1, 0, 0)) rfl ?_
    refine mv_gfR rfl rfl (sh_367) (by decide) rfl ?_
    refine ev_bk 1 (S' := (177, [some (.ref 367), some (vI x1), some (vI x2), some (vI x3), none, none, none, none, none, none, none], [vI 0, .ref 387, vI 15, vI 30, .ref 399, .ref 367], hp S1, 0, 0)) rfl ?_
    obtain ⟨S3, e4, F⟩ := F
    refine mv_calv (as := [.ref 399, vI 30, vI 15, .ref 387, vI 0]) (rest := []) e4 (sh_367) rfl rfl rfl ⟨rfl, rfl⟩ rfl rfl rfl rfl rfl ?_
    refine ev_bk 1 (S' := (181, [some (.ref 367), some (vI x1), some (vI x2), some (vI x3), none, none, none, none, none, none, none], [.ref 367], hp S3, 0, 0)) rfl ?_
    refine mv_gfR rfl rfl (sh_367) (by decide) rfl ?_
    refine ev_bk 3 (S' := (189, [some (.ref 367), some (vI x1), some (vI x2), some (vI x3), none, none, none, none, none, none, none], [.ref 367, vI 286, vI 0, .ref 385], hp S3, 0, 0)) rfl ?_
    refine mv_gfR rfl rfl (sh_367) (by decide) rfl ?_
    obtain ⟨z7, S5, e6, F⟩ := F
    refine mv_cals (as := [.ref 385, vI 0, vI 286, .ref 386]) (rest := []) e6 rfl rfl rfl ⟨rfl, rfl, rfl⟩ rfl rfl rfl rfl ?_
    refine ev_bk 2 (S' := (197, [some (.ref 367), some (vI x1), some (vI x2), some (vI z7), none, none, none, none, none, none, none], [.ref 367], hp S5, 0, 0)) rfl ?_
    refine mv_gfR rfl rfl (sh_367) (by decide) rfl ?_
    refine ev_bk 3 (S' := (204, [some (.ref 367), some (vI x1), some (vI x2), some (vI z7), none, none, none, none, none, none, none], [.ref 367, vI 30, vI 0, .ref 387], hp S5, 0, 0)) rfl ?_
    refine mv_gfR rfl rfl (sh_367) (by decide) rfl ?_
    obtain ⟨z10, S8, e9, F⟩ := F
    refine mv_cals (as := [.ref 387, vI 0, vI 30, .ref 388]) (rest := []) e9 rfl rfl rfl ⟨rfl, rfl, rfl⟩ rfl rfl rfl rfl ?_
    refine ev_bk 3 (S' := (217, [some (.ref 367), some (vI x1), some (vI x2), some (vI z7), some (vI z10), some (vI 286), none, none, none, none, none], [], hp S8, 0, 0)) rfl ?_
    exact F
  · have F := F.2 c
    refine ev_bk 1 (S' := (62, [some (.ref 367), some (vI x1), some (vI x2), some (vI x3), none, none, none, none, none, none, none], [.ref 367], hp S, 0, 0)) rfl ?_
    refine mv_gfR rfl rfl (sh_367) (by decide) rfl ?_
    refine ev_bk 1 (S' := (66, [some (.ref 367), some (vI x1), some (vI x2), some (vI x3), none, none, none, none, none, none, none], [vI x3, .ref 381], hp S, 0, 0)) rfl ?_
    obtain ⟨b11, F⟩ := F
    refine mv_ial rfl (sh_381) b11 ?_
    refine mv_if 97 rfl rfl (fun c => ?_) (fun c => ?_)
    · have F := F.1 c
      refine ev_bk 1 (S' := (98, [some (.ref 367), some (vI x1), some (vI x2), some (vI x3), none, none, none, none, none, none, none], [.ref 367], hp S, 0, 0)) rfl ?_
      refine mv_gfR rfl rfl (sh_367) (by decide) rfl ?_
      refine ev_bk 3 (S' := (106, [some (.ref 367), some (vI x1), some (vI x2), some (vI x3), none, none, none, none, none, none, none], [.ref 367, .ref 367, vI 257, .ref 398], hp S, 0, 0)) rfl ?_
      refine mv_gfR rfl rfl (sh_367) (by decide) rfl ?_
      refine ev_bk 1 (S' := (110, [some (.ref 367), some (vI x1), some (vI x2), some (vI x3), none, none, none, none, none, none, none], [vI x3, .ref 380, .ref 367, vI 257, .ref 398], hp S, 0, 0)) rfl ?_
      obtain ⟨b12, F⟩ := F
      refine mv_ial rfl (sh_380) b12 ?_
      obtain ⟨z15, S13, e14, F⟩ := F
      refine mv_calv (as := [vI (S.1 380 (w32 x3))]) (rest := [vI 257, .ref 398]) e14 (sh_367) rfl rfl rfl ⟨rfl, rfl⟩ rfl rfl rfl rfl rfl ?_
      refine mv_iadd rfl ?_
      refine ev_bk 1 (S' := (116, [some (.ref 367), some (vI x1), some (vI x2), some (vI x3), none, none, none, none, none, none, none], [vI (257 + z15), .ref 398, vI (257 + z15), .ref 398], hp S13, 0, 0)) rfl ?_
      obtain ⟨b16, F⟩ := F
      refine mv_ial rfl (sh_398) b16 ?_
      refine ev_bk 1 (S' := (118, [some (.ref 367), some (vI x1), some (vI x2), some (vI x3), none, none, none, none, none, none, none], [vI 1, vI (S13.1 398 (w32 (257 + z15))), vI (257 + z15), .ref 398], hp S13, 0, 0)) rfl ?_
      refine mv_iadd rfl ?_
      obtain ⟨b17, F⟩ := F
      refine mv_ias rfl (sh_398) b17 ?_
      have F := F _ rfl
      refine ev_bk 1 (S' := (121, [some (.ref 367), some (vI x1), some (vI x2), some (vI x3), none, none, none, none, none, none, none], [.ref 367], hp (wI S13 398 (w32 (257 + z15)) ((S13.1 398 (w32 (257 + z15))) + 1)), 0, 0)) rfl ?_
      refine mv_gfR rfl rfl (sh_367) (by decide) rfl ?_
      refine ev_bk 2 (S' := (126, [some (.ref 367), some (vI x1), some (vI x2), some (vI x3), none, none, none, none, none, none, none], [.ref 367, .ref 367, .ref 399], hp (wI S13 398 (w32 (257 + z15)) ((S13.1 398 (w32 (257 + z15))) + 1)), 0, 0)) rfl ?_
      refine mv_gfR rfl rfl (sh_367) (by decide) rfl ?_
      refine ev_bk 1 (S' := (130, [some (.ref 367), some (vI x1), some (vI x2), some (vI x3), none, none, none, none, none, none, none], [vI x3, .ref 381, .ref 367, .ref 399], hp (wI S13 398 (w32 (257 + z15)) ((S13.1 398 (w32 (257 + z15))) + 1)), 0, 0)) rfl ?_
      obtain ⟨b19, F⟩ := F
      refine mv_ial rfl (sh_381) b19 ?_
      obtain ⟨z22, S20, e21, F⟩ := F
      refine mv_calv (as := [vI ((wI S13 398 (w32 (257 + z15)) ((S13.1 398 (w32 (257 + z15))) + 1)).1 381 (w32 x3))]) (rest := [.ref 399]) e21 (sh_367) rfl rfl rfl ⟨rfl, rfl⟩ rfl rfl rfl rfl rfl ?_
      refine ev_bk 1 (S' := (135, [some (.ref 367), some (vI x1), some (vI x2), some (vI x3), none, none, none, none, none, none, none], [vI z22, .ref 399, vI z22, .ref 399], hp S20, 0, 0)) rfl ?_
      obtain ⟨b23, F⟩ := F
      refine mv_ial rfl (sh_399) b23 ?_
      refine ev_bk 1 (S' := (137, [some (.ref 367), some (vI x1), some (vI x2), some (vI x3), none, none, none, none, none, none, none], [vI 1, vI (S20.1 399 (w32 z22)), vI z22, .ref 399], hp S20, 0, 0)) rfl ?_
      refine mv_iadd rfl ?_
      obtain ⟨b24, F⟩ := F
      refine mv_ias rfl (sh_399) b24 ?_
      have F := F _ rfl
      exact F
    · have F := F.2 c
      refine ev_bk 1 (S' := (71, [some (.ref 367), some (vI x1), some (vI x2), some (vI x3), none, none, none, none, none, none, none], [.ref 367], hp S, 0, 0)) rfl ?_
      refine mv_gfR rfl rfl (sh_367) (by decide) rfl ?_
      refine ev_bk 1 (S' := (75, [some (.ref 367), some (vI x1), some (vI x2), some (vI x3), none, none, none, none, none, none, none], [.ref 367, .ref 398], hp S, 0, 0)) rfl ?_
      refine mv_gfR rfl rfl (sh_367) (by decide) rfl ?_
      refine ev_bk 1 (S' := (79, [some (.ref 367), some (vI x1), some (vI x2), some (vI x3), none, none, none, none, none, none, none], [.ref 367, .ref 368, .ref 398], hp S, 0, 0)) rfl ?_
      refine mv_gfR rfl rfl (sh_367) (by decide) rfl ?_
      refine ev_bk 1 (S' := (83, [some (.ref 367), some (vI x1), some (vI x2), some (vI x3), none, none, none, none, none, none, none], [vI x3, .ref 382, .ref 368, .ref 398], hp S, 0, 0)) rfl ?_
      obtain ⟨b26, F⟩ := F
      refine mv_ial rfl (sh_382) b26 ?_
      obtain ⟨b27, F⟩ := F
      refine mv_bal rfl (sh_368) b27 ?_
      refine ev_bk 1 (S' := (88, [some (.ref 367), some (vI x1), some (vI x2), some (vI x3), none, none, none, none, none, none, none], [vI 255, vI (S.1 368 (w32 (S.1 382 (w32 x3)))), .ref 398], hp S, 0, 0)) rfl ?_
      refine mv_iandm 256 8 (by decide) rfl rfl rfl ?_
      refine ev_bk 1 (S' := (90, [some (.ref 367), some (vI x1), some (vI x2), some (vI x3), none, none, none, none, none, none, none], [vI ((S.1 368 (w32 (S.1 382 (w32 x3)))) % 256), .ref 398, vI ((S.1 368 (w32 (S.1 382 (w32 x3)))) % 256), .ref 398], hp S, 0, 0)) rfl ?_
      obtain ⟨b28, F⟩ := F
      refine mv_ial rfl (sh_398) b28 ?_
      refine ev_bk 1 (S' := (92, [some (.ref 367), some (vI x1), some (vI x2), some (vI x3), none, none, none, none, none, none, none], [vI 1, vI (S.1 398 (w32 ((S.1 368 (w32 (S.1 382 (w32 x3)))) % 256))), vI ((S.1 368 (w32 (S.1 382 (w32 x3)))) % 256), .ref 398], hp S, 0, 0)) rfl ?_
      refine mv_iadd rfl ?_
      obtain ⟨b29, F⟩ := F
      refine mv_ias rfl (sh_398) b29 ?_
      have F := F _ rfl
      refine mv_goto 139 rfl rfl ?_
      exact F
theorem vc_MD_writeOwn_139 {q : Nat × (Nat → Int32)} {S S' : ms} {r : Option Value} (x1 x2 x3 : Int)
    (F : EV q 296 56 [some (.ref 367), some (vI x1), some (vI x2), some (vI (x3 + 1)), none, none, none, none, none, none, none] [] S r S') : EV q 296 139 [some (.ref 367), some (vI x1), some (vI x2), some (vI x3), none, none, none, none, none, none, none] [] S r S' := by
  unfold EV
  refine mv_inc (lv' := [some (.ref 367), some (vI x1), some (vI x2), some (vI (x3 + 1)), none, none, none, none, none, none, none]) 3 1 rfl rfl rfl rfl ?_
  refine mv_goto 56 rfl rfl ?_
  exact F
theorem vc_MD_writeOwn_217 {q : Nat × (Nat → Int32)} {S S' : ms} {r : Option Value} (x1 x2 x3 x4 x5 : Int)
    (F : ((w32 x5 ≤ 257) → EV q 296 243 [some (.ref 367), some (vI x1), some (vI x2), some (vI x3), some (vI x4), some (vI x5), none, none, none, none, none] [] S r S') ∧ ((¬ w32 x5 ≤ 257) → (0 ≤ w32 (x5 - 1) ∧ w32 (x5 - 1) < (330 : Nat)) ∧ ((¬ w32 (S.1 385 (w32 (x5 - 1))) = 0) → EV q 296 243 [some (.ref 367), some (vI x1), some (vI x2), some (vI x3), some (vI x4), some (vI x5), none, none, none, none, none] [] S r S') ∧ ((¬ (¬ w32 (S.1 385 (w32 (x5 - 1))) = 0)) → EV q 296 217 [some (.ref 367), some (vI x1), some (vI x2), some (vI x3), some (vI x4), some (vI (x5 - 1)), none, none, none, none, none] [] S r S'))) : EV q 296 217 [some (.ref 367), some (vI x1), some (vI x2), some (vI x3), some (vI x4), some (vI x5), none, none, none, none, none] [] S r S' := by
  unfold EV
  refine ev_bk 2 (S' := (222, [some (.ref 367), some (vI x1), some (vI x2), some (vI x3), some (vI x4), some (vI x5), none, none, none, none, none], [vI 257, vI x5], hp S, 0, 0)) rfl ?_
  refine mv_icmp 243 rfl rfl (fun c => ?_) (fun c => ?_)
  · have F := F.1 c
    exact F
  · have F := F.2 c
    refine ev_bk 1 (S' := (226, [some (.ref 367), some (vI x1), some (vI x2), some (vI x3), some (vI x4), some (vI x5), none, none, none, none, none], [.ref 367], hp S, 0, 0)) rfl ?_
    refine mv_gfR rfl rfl (sh_367) (by decide) rfl ?_
    refine ev_bk 2 (S' := (232, [some (.ref 367), some (vI x1), some (vI x2), some (vI x3), some (vI x4), some (vI x5), none, none, none, none, none], [vI 1, vI x5, .ref 385], hp S, 0, 0)) rfl ?_
    refine mv_isub rfl ?_
    obtain ⟨b1, F⟩ := F
    refine mv_ial rfl (sh_385) b1 ?_
    refine mv_if 243 rfl rfl (fun c => ?_) (fun c => ?_)
    · have F := F.1 c
      exact F
    · have F := F.2 c
      refine mv_inc (lv' := [some (.ref 367), some (vI x1), some (vI x2), some (vI x3), some (vI x4), some (vI (x5 - 1)), none, none, none, none, none]) 5 (-1) rfl rfl rfl (by omega) ?_
      refine mv_goto 217 rfl rfl ?_
      exact F
theorem vc_MD_writeOwn_243 {q : Nat × (Nat → Int32)} {S S' : ms} {r : Option Value} (x1 x2 x3 x4 x5 : Int)
    (F : EV q 296 247 [some (.ref 367), some (vI x1), some (vI x2), some (vI x3), some (vI x4), some (vI x5), some (vI 30), none, none, none, none] [] S r S') : EV q 296 243 [some (.ref 367), some (vI x1), some (vI x2), some (vI x3), some (vI x4), some (vI x5), none, none, none, none, none] [] S r S' := by
  unfold EV
  refine ev_bk 2 (S' := (247, [some (.ref 367), some (vI x1), some (vI x2), some (vI x3), some (vI x4), some (vI x5), some (vI 30), none, none, none, none], [], hp S, 0, 0)) rfl ?_
  exact F
theorem vc_MD_writeOwn_247 {q : Nat × (Nat → Int32)} {S S' : ms} {r : Option Value} (x1 x2 x3 x4 x5 x6 : Int)
    (F : ((w32 x6 ≤ 1) → EV q 296 271 [some (.ref 367), some (vI x1), some (vI x2), some (vI x3), some (vI x4), some (vI x5), some (vI x6), none, none, none, none] [] S r S') ∧ ((¬ w32 x6 ≤ 1) → (0 ≤ w32 (x6 - 1) ∧ w32 (x6 - 1) < (40 : Nat)) ∧ ((¬ w32 (S.1 387 (w32 (x6 - 1))) = 0) → EV q 296 271 [some (.ref 367), some (vI x1), some (vI x2), some (vI x3), some (vI x4), some (vI x5), some (vI x6), none, none, none, none] [] S r S') ∧ ((¬ (¬ w32 (S.1 387 (w32 (x6 - 1))) = 0)) → EV q 296 247 [some (.ref 367), some (vI x1), some (vI x2), some (vI x3), some (vI x4), some (vI x5), some (vI (x6 - 1)), none, none, none, none] [] S r S'))) : EV q 296 247 [some (.ref 367), some (vI x1), some (vI x2), some (vI x3), some (vI x4), some (vI x5), some (vI x6), none, none, none, none] [] S r S' := by
  unfold EV
  refine ev_bk 2 (S' := (250, [some (.ref 367), some (vI x1), some (vI x2), some (vI x3), some (vI x4), some (vI x5), some (vI x6), none, none, none, none], [vI 1, vI x6], hp S, 0, 0)) rfl ?_
  refine mv_icmp 271 rfl rfl (fun c => ?_) (fun c => ?_)
  · have F := F.1 c
    exact F
  · have F := F.2 c
    refine ev_bk 1 (S' := (254, [some (.ref 367), some (vI x1), some (vI x2), some (vI x3), some (vI x4), some (vI x5), some (vI x6), none, none, none, none], [.ref 367], hp S, 0, 0)) rfl ?_
    refine mv_gfR rfl rfl (sh_367) (by decide) rfl ?_
    refine ev_bk 2 (S' := (260, [some (.ref 367), some (vI x1), some (vI x2), some (vI x3), some (vI x4), some (vI x5), some (vI x6), none, none, none, none], [vI 1, vI x6, .ref 387], hp S, 0, 0)) rfl ?_
    refine mv_isub rfl ?_
    obtain ⟨b1, F⟩ := F
    refine mv_ial rfl (sh_387) b1 ?_
    refine mv_if 271 rfl rfl (fun c => ?_) (fun c => ?_)
    · have F := F.1 c
      exact F
    · have F := F.2 c
      refine mv_inc (lv' := [some (.ref 367), some (vI x1), some (vI x2), some (vI x3), some (vI x4), some (vI x5), some (vI (x6 - 1)), none, none, none, none]) 6 (-1) rfl rfl rfl (by omega) ?_
      refine mv_goto 247 rfl rfl ?_
      exact F
theorem vc_MD_writeOwn_271 {q : Nat × (Nat → Int32)} {S S' : ms} {r : Option Value} (x1 x2 x3 x4 x5 x6 : Int)
    (F : EV q 296 274 [some (.ref 367), some (vI x1), some (vI x2), some (vI x3), some (vI x4), some (vI x5), some (vI x6), some (vI 0), none, none, none] [] S r S') : EV q 296 271 [some (.ref 367), some (vI x1), some (vI x2), some (vI x3), some (vI x4), some (vI x5), some (vI x6), none, none, none, none] [] S r S' := by
  unfold EV
  refine ev_bk 2 (S' := (274, [some (.ref 367), some (vI x1), some (vI x2), some (vI x3), some (vI x4), some (vI x5), some (vI x6), some (vI 0), none, none, none], [], hp S, 0, 0)) rfl ?_
  exact F
theorem vc_MD_writeOwn_274 {q : Nat × (Nat → Int32)} {S S' : ms} {r : Option Value} (x1 x2 x3 x4 x5 x6 x7 : Int)
    (F : ((w32 (x5 + x6) ≤ w32 x7) → ∃ (S1 : ms), EV q 302 0 [some (.ref 367), some (vI (x5 + x6)), none, none, none, none] [] S none S1 ∧ ∃ (S3 : ms), EV q 299 0 [some (.ref 367), some (.ref 400), some (vI 19), some (vI 7), some (.ref 389), some (vI 0), none, none, none, none, none, none] [] S1 none S3 ∧ ∃ (z7 : Int) (S5 : ms), EV q 301 0 [some (.ref 389), some (vI 0), some (vI 19), some (.ref 390), none, none, none, none] [] S3 (some (vI z7)) S5 ∧ EV q 296 370 [some (.ref 367), some (vI x1), some (vI x2), some (vI x3), some (vI x4), some (vI x5), some (vI x6), some (vI z7), some (vI 19), none, none] [] S5 r S') ∧ ((¬ w32 (x5 + x6) ≤ w32 x7) → ((w32 x5 ≤ w32 x7) → (0 ≤ w32 (x7 - x5) ∧ w32 (x7 - x5) < (40 : Nat)) ∧ EV q 296 317 [some (.ref 367), some (vI x1), some (vI x2), some (vI x3), some (vI x4), some (vI x5), some (vI x6), some (vI x7), none, none, none] [vI (S.1 387 (w32 (x7 - x5))), vI x7, .ref 401] S r S') ∧ ((¬ w32 x5 ≤ w32 x7) → (0 ≤ w32 x7 ∧ w32 x7 < (330 : Nat)) ∧ EV q 296 317 [some (.ref 367), some (vI x1), some (vI x2), some (vI x3), some (vI x4), some (vI x5), some (vI x6), some (vI x7), none, none, none] [vI (S.1 385 (w32 x7)), vI x7, .ref 401] S r S'))) : EV q 296 274 [some (.ref 367), some (vI x1), some (vI x2), some (vI x3), some (vI x4), some (vI x5), some (vI x6), some (vI x7), none, none, none] [] S r S' := by
  unfold EV
  refine ev_bk 3 (S' := (280, [some (.ref 367), some (vI x1), some (vI x2), some (vI x3), some (vI x4), some (vI x5), some (vI x6), some (vI x7), none, none, none], [vI x6, vI x5, vI x7], hp S, 0, 0)) rfl ?_
  refine mv_iadd rfl ?_
  refine mv_icmp 324 rfl rfl (fun c => ?_) (fun c => ?_)
  · have F := F.1 c
    refine ev_bk 3 (S' := (329, [some (.ref 367), some (vI x1), some (vI x2), some (vI x3), some (vI x4), some (vI x5), some (vI x6), some (vI x7), none, none, none], [vI x6, vI x5, .ref 367], hp S, 0, 0)) rfl ?_
    refine mv_iadd rfl ?_
    obtain ⟨S1, e2, F⟩ := F
    refine mv_calv (as := [vI (x5 + x6)]) (rest := []) e2 (sh_367) rfl rfl rfl ⟨rfl, rfl⟩ rfl rfl rfl rfl rfl ?_
    refine ev_bk 2 (S' := (335, [some (.ref 367), some (vI x1), some (vI x2), some (vI x3), some (vI x4), some (vI x5), some (vI x6), some (vI x7), none, none, none], [.ref 367, .ref 367], hp S1, 0, 0)) rfl ?_
    refine mv_gfR rfl rfl (sh_367) (by decide) rfl ?_
    refine ev_bk 3 (S' := (343, [some (.ref 367), some (vI x1), some (vI x2), some (vI x3), some (vI x4), some (vI x5), some (vI x6), some (vI x7), none, none, none], [.ref 367, vI 7, vI 19, .ref 400, .ref 367], hp S1, 0, 0)) rfl ?_
    refine mv_gfR rfl rfl (sh_367) (by decide) rfl ?_
    refine ev_bk 1 (S' := (347, [some (.ref 367), some (vI x1), some (vI x2), some (vI x3), some (vI x4), some (vI x5), some (vI x6), some (vI x7), none, none, none], [vI 0, .ref 389, vI 7, vI 19, .ref 400, .ref 367], hp S1, 0, 0)) rfl ?_
    obtain ⟨S3, e4, F⟩ := F
    refine mv_calv (as := [.ref 400, vI 19, vI 7, .ref 389, vI 0]) (rest := []) e4 (sh_367) rfl rfl rfl ⟨rfl, rfl⟩ rfl rfl rfl rfl rfl ?_
    refine ev_bk 1 (S' := (351, [some (.ref 367), some (vI x1), some (vI x2), some (vI x3), some (vI x4), some (vI x5), some (vI x6), some (vI x7), none, none, none], [.ref 367], hp S3, 0, 0)) rfl ?_
    refine mv_gfR rfl rfl (sh_367) (by decide) rfl ?_
    refine ev_bk 3 (S' := (358, [some (.ref 367), some (vI x1), some (vI x2), some (vI x3), some (vI x4), some (vI x5), some (vI x6), some (vI x7), none, none, none], [.ref 367, vI 19, vI 0, .ref 389], hp S3, 0, 0)) rfl ?_
    refine mv_gfR rfl rfl (sh_367) (by decide) rfl ?_
    obtain ⟨z7, S5, e6, F⟩ := F
    refine mv_cals (as := [.ref 389, vI 0, vI 19, .ref 390]) (rest := []) e6 rfl rfl rfl ⟨rfl, rfl, rfl⟩ rfl rfl rfl rfl ?_
    refine ev_bk 3 (S' := (370, [some (.ref 367), some (vI x1), some (vI x2), some (vI x3), some (vI x4), some (vI x5), some (vI x6), some (vI z7), some (vI 19), none, none], [], hp S5, 0, 0)) rfl ?_
    exact F
  · have F := F.2 c
    refine ev_bk 1 (S' := (285, [some (.ref 367), some (vI x1), some (vI x2), some (vI x3), some (vI x4), some (vI x5), some (vI x6), some (vI x7), none, none, none], [.ref 367], hp S, 0, 0)) rfl ?_
    refine mv_gfR rfl rfl (sh_367) (by decide) rfl ?_
    refine ev_bk 3 (S' := (294, [some (.ref 367), some (vI x1), some (vI x2), some (vI x3), some (vI x4), some (vI x5), some (vI x6), some (vI x7), none, none, none], [vI x5, vI x7, vI x7, .ref 401], hp S, 0, 0)) rfl ?_
    refine mv_icmp 307 rfl rfl (fun c => ?_) (fun c => ?_)
    · have F := F.1 c
      refine ev_bk 1 (S' := (308, [some (.ref 367), some (vI x1), some (vI x2), some (vI x3), some (vI x4), some (vI x5), some (vI x6), some (vI x7), none, none, none], [.ref 367, vI x7, .ref 401], hp S, 0, 0)) rfl ?_
      refine mv_gfR rfl rfl (sh_367) (by decide) rfl ?_
      refine ev_bk 2 (S' := (315, [some (.ref 367), some (vI x1), some (vI x2), some (vI x3), some (vI x4), some (vI x5), some (vI x6), some (vI x7), none, none, none], [vI x5, vI x7, .ref 387, vI x7, .ref 401], hp S, 0, 0)) rfl ?_
      refine mv_isub rfl ?_
      obtain ⟨b8, F⟩ := F
      refine mv_ial rfl (sh_387) b8 ?_
      exact F
    · have F := F.2 c
      refine ev_bk 1 (S' := (298, [some (.ref 367), some (vI x1), some (vI x2), some (vI x3), some (vI x4), some (vI x5), some (vI x6), some (vI x7), none, none, none], [.ref 367, vI x7, .ref 401], hp S, 0, 0)) rfl ?_
      refine mv_gfR rfl rfl (sh_367) (by decide) rfl ?_
      refine ev_bk 1 (S' := (303, [some (.ref 367), some (vI x1), some (vI x2), some (vI x3), some (vI x4), some (vI x5), some (vI x6), some (vI x7), none, none, none], [vI x7, .ref 385, vI x7, .ref 401], hp S, 0, 0)) rfl ?_
      obtain ⟨b9, F⟩ := F
      refine mv_ial rfl (sh_385) b9 ?_
      refine mv_goto 317 rfl rfl ?_
      exact F
theorem vc_MD_writeOwn_317 {q : Nat × (Nat → Int32)} {S S' : ms} {r : Option Value} (x1 x2 x3 x4 x5 x6 x7 y0 y1 : Int)
    (F : (0 ≤ w32 y1 ∧ w32 y1 < (330 : Nat)) ∧ ∀ S2 : ms, S2 = wI S 401 (w32 y1) y0 → EV q 296 274 [some (.ref 367), some (vI x1), some (vI x2), some (vI x3), some (vI x4), some (vI x5), some (vI x6), some (vI (x7 + 1)), none, none, none] [] S2 r S') : EV q 296 317 [some (.ref 367), some (vI x1), some (vI x2), some (vI x3), some (vI x4), some (vI x5), some (vI x6), some (vI x7), none, none, none] [vI y0, vI y1, .ref 401] S r S' := by
  unfold EV
  obtain ⟨b1, F⟩ := F
  refine mv_ias rfl (sh_401) b1 ?_
  have F := F _ rfl
  refine mv_inc (lv' := [some (.ref 367), some (vI x1), some (vI x2), some (vI x3), some (vI x4), some (vI x5), some (vI x6), some (vI (x7 + 1)), none, none, none]) 7 1 rfl rfl rfl rfl ?_
  refine mv_goto 274 rfl rfl ?_
  exact F
theorem vc_MD_writeOwn_370 {q : Nat × (Nat → Int32)} {S S' : ms} {r : Option Value} (x1 x2 x3 x4 x5 x6 x7 x8 : Int)
    (F : ((w32 x8 ≤ 4) → EV q 296 398 [some (.ref 367), some (vI x1), some (vI x2), some (vI x3), some (vI x4), some (vI x5), some (vI x6), some (vI x7), some (vI x8), none, none] [] S r S') ∧ ((¬ w32 x8 ≤ 4) → (0 ≤ w32 (x8 - 1) ∧ w32 (x8 - 1) < (19 : Nat)) ∧ (0 ≤ w32 (sS 9 (w32 (x8 - 1))) ∧ w32 (sS 9 (w32 (x8 - 1))) < (20 : Nat)) ∧ ((¬ w32 (S.1 389 (w32 (sS 9 (w32 (x8 - 1))))) = 0) → EV q 296 398 [some (.ref 367), some (vI x1), some (vI x2), some (vI x3), some (vI x4), some (vI x5), some (vI x6), some (vI x7), some (vI x8), none, none] [] S r S') ∧ ((¬ (¬ w32 (S.1 389 (w32 (sS 9 (w32 (x8 - 1))))) = 0)) → EV q 296 370 [some (.ref 367), some (vI x1), some (vI x2), some (vI x3), some (vI x4), some (vI x5), some (vI x6), some (vI x7), some (vI (x8 - 1)), none, none] [] S r S'))) : EV q 296 370 [some (.ref 367), some (vI x1), some (vI x2), some (vI x3), some (vI x4), some (vI x5), some (vI x6), some (vI x7), some (vI x8), none, none] [] S r S' := by
  unfold EV
  refine ev_bk 2 (S' := (373, [some (.ref 367), some (vI x1), some (vI x2), some (vI x3), some (vI x4), some (vI x5), some (vI x6), some (vI x7), some (vI x8), none, none], [vI 4, vI x8], hp S, 0, 0)) rfl ?_
  refine mv_icmp 398 rfl rfl (fun c => ?_) (fun c => ?_)
  · have F := F.1 c
    exact F
  · have F := F.2 c
    refine ev_bk 1 (S' := (377, [some (.ref 367), some (vI x1), some (vI x2), some (vI x3), some (vI x4), some (vI x5), some (vI x6), some (vI x7), some (vI x8), none, none], [.ref 367], hp S, 0, 0)) rfl ?_
    refine mv_gfR rfl rfl (sh_367) (by decide) rfl ?_
    refine mv_gs (k := 9) rfl rfl ?_
    refine ev_bk 2 (S' := (386, [some (.ref 367), some (vI x1), some (vI x2), some (vI x3), some (vI x4), some (vI x5), some (vI x6), some (vI x7), some (vI x8), none, none], [vI 1, vI x8, .ref (en_b + 9), .ref 389], hp S, 0, 0)) rfl ?_
    refine mv_isub rfl ?_
    obtain ⟨b1, F⟩ := F
    refine mv_sal (k := 9) rfl rfl (by decide) b1 ?_
    obtain ⟨b2, F⟩ := F
    refine mv_ial rfl (sh_389) b2 ?_
    refine mv_if 398 rfl rfl (fun c => ?_) (fun c => ?_)
    · have F := F.1 c
      exact F
    · have F := F.2 c
      refine mv_inc (lv' := [some (.ref 367), some (vI x1), some (vI x2), some (vI x3), some (vI x4), some (vI x5), some (vI x6), some (vI x7), some (vI (x8 - 1)), none, none]) 8 (-1) rfl rfl rfl (by omega) ?_
      refine mv_goto 370 rfl rfl ?_
      exact F
theorem vc_MD_writeOwn_398 {q : Nat × (Nat → Int32)} {S S' : ms} {r : Option Value} (x1 x2 x3 x4 x5 x6 x7 x8 : Int)
    (F : ∃ (S1 : ms), EV q 284 0 [some (.ref 367), some (vL (w32 (x5 - 257))), none, some (vI 5), none] [] S none S1 ∧ ∃ (S3 : ms), EV q 284 0 [some (.ref 367), some (vL (w32 (x6 - 1))), none, some (vI 5), none] [] S1 none S3 ∧ ∃ (S5 : ms), EV q 284 0 [some (.ref 367), some (vL (w32 (x8 - 4))), none, some (vI 4), none] [] S3 none S5 ∧ EV q 296 433 [some (.ref 367), some (vI x1), some (vI x2), some (vI x3), some (vI x4), some (vI x5), some (vI x6), some (vI x7), some (vI x8), some (vI 0), none] [] S5 r S') : EV q 296 398 [some (.ref 367), some (vI x1), some (vI x2), some (vI x3), some (vI x4), some (vI x5), some (vI x6), some (vI x7), some (vI x8), none, none] [] S r S' := by
  unfold EV
  refine ev_bk 3 (S' := (404, [some (.ref 367), some (vI x1), some (vI x2), some (vI x3), some (vI x4), some (vI x5), some (vI x6), some (vI x7), some (vI x8), none, none], [vI 257, vI x5, .ref 367], hp S, 0, 0)) rfl ?_
  refine mv_isub rfl ?_
  refine mv_i2l rfl ?_
  refine ev_bk 1 (S' := (407, [some (.ref 367), some (vI x1), some (vI x2), some (vI x3), some (vI x4), some (vI x5), some (vI x6), some (vI x7), some (vI x8), none, none], [vI 5, vL (w32 (x5 - 257)), .ref 367], hp S, 0, 0)) rfl ?_
  obtain ⟨S1, e2, F⟩ := F
  refine mv_calv (as := [vL (w32 (x5 - 257)), vI 5]) (rest := []) e2 (sh_367) rfl rfl rfl ⟨rfl, rfl⟩ rfl rfl rfl rfl rfl ?_
  refine ev_bk 3 (S' := (414, [some (.ref 367), some (vI x1), some (vI x2), some (vI x3), some (vI x4), some (vI x5), some (vI x6), some (vI x7), some (vI x8), none, none], [vI 1, vI x6, .ref 367], hp S1, 0, 0)) rfl ?_
  refine mv_isub rfl ?_
  refine mv_i2l rfl ?_
  refine ev_bk 1 (S' := (417, [some (.ref 367), some (vI x1), some (vI x2), some (vI x3), some (vI x4), some (vI x5), some (vI x6), some (vI x7), some (vI x8), none, none], [vI 5, vL (w32 (x6 - 1)), .ref 367], hp S1, 0, 0)) rfl ?_
  obtain ⟨S3, e4, F⟩ := F
  refine mv_calv (as := [vL (w32 (x6 - 1)), vI 5]) (rest := []) e4 (sh_367) rfl rfl rfl ⟨rfl, rfl⟩ rfl rfl rfl rfl rfl ?_
  refine ev_bk 3 (S' := (424, [some (.ref 367), some (vI x1), some (vI x2), some (vI x3), some (vI x4), some (vI x5), some (vI x6), some (vI x7), some (vI x8), none, none], [vI 4, vI x8, .ref 367], hp S3, 0, 0)) rfl ?_
  refine mv_isub rfl ?_
  refine mv_i2l rfl ?_
  refine ev_bk 1 (S' := (427, [some (.ref 367), some (vI x1), some (vI x2), some (vI x3), some (vI x4), some (vI x5), some (vI x6), some (vI x7), some (vI x8), none, none], [vI 4, vL (w32 (x8 - 4)), .ref 367], hp S3, 0, 0)) rfl ?_
  obtain ⟨S5, e6, F⟩ := F
  refine mv_calv (as := [vL (w32 (x8 - 4)), vI 4]) (rest := []) e6 (sh_367) rfl rfl rfl ⟨rfl, rfl⟩ rfl rfl rfl rfl rfl ?_
  refine ev_bk 2 (S' := (433, [some (.ref 367), some (vI x1), some (vI x2), some (vI x3), some (vI x4), some (vI x5), some (vI x6), some (vI x7), some (vI x8), some (vI 0), none], [], hp S5, 0, 0)) rfl ?_
  exact F
theorem vc_MD_writeOwn_433 {q : Nat × (Nat → Int32)} {S S' : ms} {r : Option Value} (x1 x2 x3 x4 x5 x6 x7 x8 x9 : Int)
    (F : ((w32 x8 ≤ w32 x9) → EV q 296 466 [some (.ref 367), some (vI x1), some (vI x2), some (vI x3), some (vI x4), some (vI x5), some (vI x6), some (vI x7), some (vI x8), some (vI 0), none] [] S r S') ∧ ((¬ w32 x8 ≤ w32 x9) → (0 ≤ w32 x9 ∧ w32 x9 < (19 : Nat)) ∧ (0 ≤ w32 (sS 9 (w32 x9)) ∧ w32 (sS 9 (w32 x9)) < (20 : Nat)) ∧ ∃ (S3 : ms), EV q 284 0 [some (.ref 367), some (vL (w32 (S.1 389 (w32 (sS 9 (w32 x9)))))), none, some (vI 3), none] [] S none S3 ∧ EV q 296 433 [some (.ref 367), some (vI x1), some (vI x2), some (vI x3), some (vI x4), some (vI x5), some (vI x6), some (vI x7), some (vI x8), some (vI (x9 + 1)), none] [] S3 r S')) : EV q 296 433 [some (.ref 367), some (vI x1), some (vI x2), some (vI x3), some (vI x4), some (vI x5), some (vI x6), some (vI x7), some (vI x8), some (vI x9), none] [] S r S' := by
  unfold EV
  refine ev_bk 2 (S' := (437, [some (.ref 367), some (vI x1), some (vI x2), some (vI x3), some (vI x4), some (vI x5), some (vI x6), some (vI x7), some (vI x8), some (vI x9), none], [vI x8, vI x9], hp S, 0, 0)) rfl ?_
  refine mv_icmp 463 rfl rfl (fun c => ?_) (fun c => ?_)
  · have F := F.1 c
    refine ev_bk 2 (S' := (466, [some (.ref 367), some (vI x1), some (vI x2), some (vI x3), some (vI x4), some (vI x5), some (vI x6), some (vI x7), some (vI x8), some (vI 0), none], [], hp S, 0, 0)) rfl ?_
    exact F
  · have F := F.2 c
    refine ev_bk 2 (S' := (442, [some (.ref 367), some (vI x1), some (vI x2), some (vI x3), some (vI x4), some (vI x5), some (vI x6), some (vI x7), some (vI x8), some (vI x9), none], [.ref 367, .ref 367], hp S, 0, 0)) rfl ?_
    refine mv_gfR rfl rfl (sh_367) (by decide) rfl ?_
    refine mv_gs (k := 9) rfl rfl ?_
    refine ev_bk 1 (S' := (450, [some (.ref 367), some (vI x1), some (vI x2), some (vI x3), some (vI x4), some (vI x5), some (vI x6), some (vI x7), some (vI x8), some (vI x9), none], [vI x9, .ref (en_b + 9), .ref 389, .ref 367], hp S, 0, 0)) rfl ?_
    obtain ⟨b1, F⟩ := F
    refine mv_sal (k := 9) rfl rfl (by decide) b1 ?_
    obtain ⟨b2, F⟩ := F
    refine mv_ial rfl (sh_389) b2 ?_
    refine mv_i2l rfl ?_
    refine ev_bk 1 (S' := (454, [some (.ref 367), some (vI x1), some (vI x2), some (vI x3), some (vI x4), some (vI x5), some (vI x6), some (vI x7), some (vI x8), some (vI x9), none], [vI 3, vL (w32 (S.1 389 (w32 (sS 9 (w32 x9))))), .ref 367], hp S, 0, 0)) rfl ?_
    obtain ⟨S3, e4, F⟩ := F
    refine mv_calv (as := [vL (w32 (S.1 389 (w32 (sS 9 (w32 x9))))), vI 3]) (rest := []) e4 (sh_367) rfl rfl rfl ⟨rfl, rfl⟩ rfl rfl rfl rfl rfl ?_
    refine mv_inc (lv' := [some (.ref 367), some (vI x1), some (vI x2), some (vI x3), some (vI x4), some (vI x5), some (vI x6), some (vI x7), some (vI x8), some (vI (x9 + 1)), none]) 9 1 rfl rfl rfl rfl ?_
    refine mv_goto 433 rfl rfl ?_
    exact F
theorem vc_MD_writeOwn_466 {q : Nat × (Nat → Int32)} {S S' : ms} {r : Option Value} (x1 x2 x3 x4 x5 x6 x7 x8 x9 : Int)
    (F : ((w32 (S.1 367 55) ≤ w32 x9) → ∃ (S1 : ms), EV q 305 0 [some (.ref 367), some (vI x1), some (vI x2), none, none, none] [] S none S1 ∧ r = none ∧ S' = S1) ∧ ((¬ w32 (S.1 367 55) ≤ w32 x9) → (0 ≤ w32 x9 ∧ w32 x9 < (330 : Nat)) ∧ (0 ≤ w32 (S.1 402 (w32 x9)) ∧ w32 (S.1 402 (w32 x9)) < (20 : Nat)) ∧ (0 ≤ w32 (S.1 402 (w32 x9)) ∧ w32 (S.1 402 (w32 x9)) < (20 : Nat)) ∧ ∃ (S6 : ms), EV q 304 0 [some (.ref 367), some (vI (S.1 390 (w32 (S.1 402 (w32 x9))))), some (vI (S.1 389 (w32 (S.1 402 (w32 x9))))), none] [] S none S6 ∧ (0 ≤ w32 x9 ∧ w32 x9 < (330 : Nat)) ∧ ((¬ w32 (S.1 402 (w32 x9)) = 16) → ((¬ w32 (S.1 402 (w32 x9)) = 17) → ((¬ w32 (S.1 402 (w32 x9)) = 18) → EV q 296 546 [some (.ref 367), some (vI x1), some (vI x2), some (vI x3), some (vI x4), some (vI x5), some (vI x6), some (vI x7), some (vI x8), some (vI x9), some (vI (S.1 402 (w32 x9)))] [vI 0, vL (w32 (S6.1 403 (w32 x9))), .ref 367] S6 r S') ∧ ((¬ (¬ w32 (S.1 402 (w32 x9)) = 18)) → EV q 296 546 [some (.ref 367), some (vI x1), some (vI x2), some (vI x3), some (vI x4), some (vI x5), some (vI x6), some (vI x7), some (vI x8), some (vI x9), some (vI (S.1 402 (w32 x9)))] [vI 7, vL (w32 (S6.1 403 (w32 x9))), .ref 367] S6 r S')) ∧ ((¬ (¬ w32 (S.1 402 (w32 x9)) = 17)) → EV q 296 546 [some (.ref 367), some (vI x1), some (vI x2), some (vI x3), some (vI x4), some (vI x5), some (vI x6), some (vI x7), some (vI x8), some (vI x9), some (vI (S.1 402 (w32 x9)))] [vI 3, vL (w32 (S6.1 403 (w32 x9))), .ref 367] S6 r S')) ∧ ((¬ (¬ w32 (S.1 402 (w32 x9)) = 16)) → EV q 296 546 [some (.ref 367), some (vI x1), some (vI x2), some (vI x3), some (vI x4), some (vI x5), some (vI x6), some (vI x7), some (vI x8), some (vI x9), some (vI (S.1 402 (w32 x9)))] [vI 2, vL (w32 (S6.1 403 (w32 x9))), .ref 367] S6 r S'))) : EV q 296 466 [some (.ref 367), some (vI x1), some (vI x2), some (vI x3), some (vI x4), some (vI x5), some (vI x6), some (vI x7), some (vI x8), some (vI x9), none] [] S r S' := by
  unfold EV
  refine ev_bk 2 (S' := (469, [some (.ref 367), some (vI x1), some (vI x2), some (vI x3), some (vI x4), some (vI x5), some (vI x6), some (vI x7), some (vI x8), some (vI x9), none], [.ref 367, vI x9], hp S, 0, 0)) rfl ?_
  refine mv_gfI rfl rfl (sh_367) (by decide) rfl ?_
  refine mv_icmp 555 rfl rfl (fun c => ?_) (fun c => ?_)
  · have F := F.1 c
    refine ev_bk 3 (S' := (558, [some (.ref 367), some (vI x1), some (vI x2), some (vI x3), some (vI x4), some (vI x5), some (vI x6), some (vI x7), some (vI x8), some (vI x9), none], [vI x2, vI x1, .ref 367], hp S, 0, 0)) rfl ?_
    obtain ⟨S1, e2, F⟩ := F
    refine mv_calv (as := [vI x1, vI x2]) (rest := []) e2 (sh_367) rfl rfl rfl ⟨rfl, rfl⟩ rfl rfl rfl rfl rfl ?_
    obtain ⟨rfl, rfl⟩ := F
    exact ev_ret rfl rfl
  · have F := F.2 c
    refine ev_bk 1 (S' := (476, [some (.ref 367), some (vI x1), some (vI x2), some (vI x3), some (vI x4), some (vI x5), some (vI x6), some (vI x7), some (vI x8), some (vI x9), none], [.ref 367], hp S, 0, 0)) rfl ?_
    refine mv_gfR rfl rfl (sh_367) (by decide) rfl ?_
    refine ev_bk 1 (S' := (481, [some (.ref 367), some (vI x1), some (vI x2), some (vI x3), some (vI x4), some (vI x5), some (vI x6), some (vI x7), some (vI x8), some (vI x9), none], [vI x9, .ref 402], hp S, 0, 0)) rfl ?_
    obtain ⟨b3, F⟩ := F
    refine mv_ial rfl (sh_402) b3 ?_
    refine ev_bk 3 (S' := (486, [some (.ref 367), some (vI x1), some (vI x2), some (vI x3), some (vI x4), some (vI x5), some (vI x6), some (vI x7), some (vI x8), some (vI x9), some (vI (S.1 402 (w32 x9)))], [.ref 367, .ref 367], hp S, 0, 0)) rfl ?_
    refine mv_gfR rfl rfl (sh_367) (by decide) rfl ?_
    refine ev_bk 1 (S' := (491, [some (.ref 367), some (vI x1), some (vI x2), some (vI x3), some (vI x4), some (vI x5), some (vI x6), some (vI x7), some (vI x8), some (vI x9), some (vI (S.1 402 (w32 x9)))], [vI (S.1 402 (w32 x9)), .ref 390, .ref 367], hp S, 0, 0)) rfl ?_
    obtain ⟨b4, F⟩ := F
    refine mv_ial rfl (sh_390) b4 ?_
    refine ev_bk 1 (S' := (493, [some (.ref 367), some (vI x1), some (vI x2), some (vI x3), some (vI x4), some (vI x5), some (vI x6), some (vI x7), some (vI x8), some (vI x9), some (vI (S.1 402 (w32 x9)))], [.ref 367, vI (S.1 390 (w32 (S.1 402 (w32 x9)))), .ref 367], hp S, 0, 0)) rfl ?_
    refine mv_gfR rfl rfl (sh_367) (by decide) rfl ?_
    refine ev_bk 1 (S' := (498, [some (.ref 367), some (vI x1), some (vI x2), some (vI x3), some (vI x4), some (vI x5), some (vI x6), some (vI x7), some (vI x8), some (vI x9), some (vI (S.1 402 (w32 x9)))], [vI (S.1 402 (w32 x9)), .ref 389, vI (S.1 390 (w32 (S.1 402 (w32 x9)))), .ref 367], hp S, 0, 0)) rfl ?_
    obtain ⟨b5, F⟩ := F
    refine mv_ial rfl (sh_389) b5 ?_
    obtain ⟨S6, e7, F⟩ := F
    refine mv_calv (as := [vI (S.1 390 (w32 (S.1 402 (w32 x9)))), vI (S.1 389 (w32 (S.1 402 (w32 x9))))]) (rest := []) e7 (sh_367) rfl rfl rfl ⟨rfl, rfl⟩ rfl rfl rfl rfl rfl ?_
    refine ev_bk 2 (S' := (504, [some (.ref 367), some (vI x1), some (vI x2), some (vI x3), some (vI x4), some (vI x5), some (vI x6), some (vI x7), some (vI x8), some (vI x9), some (vI (S.1 402 (w32 x9)))], [.ref 367, .ref 367], hp S6, 0, 0)) rfl ?_
    refine mv_gfR rfl rfl (sh_367) (by decide) rfl ?_
    refine ev_bk 1 (S' := (509, [some (.ref 367), some (vI x1), some (vI x2), some (vI x3), some (vI x4), some (vI x5), some (vI x6), some (vI x7), some (vI x8), some (vI x9), some (vI (S.1 402 (w32 x9)))], [vI x9, .ref 403, .ref 367], hp S6, 0, 0)) rfl ?_
    obtain ⟨b8, F⟩ := F
    refine mv_ial rfl (sh_403) b8 ?_
    refine mv_i2l rfl ?_
    refine ev_bk 2 (S' := (515, [some (.ref 367), some (vI x1), some (vI x2), some (vI x3), some (vI x4), some (vI x5), some (vI x6), some (vI x7), some (vI x8), some (vI x9), some (vI (S.1 402 (w32 x9)))], [vI 16, vI (S.1 402 (w32 x9)), vL (w32 (S6.1 403 (w32 x9))), .ref 367], hp S6, 0, 0)) rfl ?_
    refine mv_icmp 522 rfl rfl (fun c => ?_) (fun c => ?_)
    · have F := F.1 c
      refine ev_bk 2 (S' := (526, [some (.ref 367), some (vI x1), some (vI x2), some (vI x3), some (vI x4), some (vI x5), some (vI x6), some (vI x7), some (vI x8), some (vI x9), some (vI (S.1 402 (w32 x9)))], [vI 17, vI (S.1 402 (w32 x9)), vL (w32 (S6.1 403 (w32 x9))), .ref 367], hp S6, 0, 0)) rfl ?_
      refine mv_icmp 533 rfl rfl (fun c => ?_) (fun c => ?_)
      · have F := F.1 c
        refine ev_bk 2 (S' := (537, [some (.ref 367), some (vI x1), some (vI x2), some (vI x3), some (vI x4), some (vI x5), some (vI x6), some (vI x7), some (vI x8), some (vI x9), some (vI (S.1 402 (w32 x9)))], [vI 18, vI (S.1 402 (w32 x9)), vL (w32 (S6.1 403 (w32 x9))), .ref 367], hp S6, 0, 0)) rfl ?_
        refine mv_icmp 545 rfl rfl (fun c => ?_) (fun c => ?_)
        · have F := F.1 c
          refine ev_bk 1 (S' := (546, [some (.ref 367), some (vI x1), some (vI x2), some (vI x3), some (vI x4), some (vI x5), some (vI x6), some (vI x7), some (vI x8), some (vI x9), some (vI (S.1 402 (w32 x9)))], [vI 0, vL (w32 (S6.1 403 (w32 x9))), .ref 367], hp S6, 0, 0)) rfl ?_
          exact F
        · have F := F.2 c
          refine ev_bk 1 (S' := (542, [some (.ref 367), some (vI x1), some (vI x2), some (vI x3), some (vI x4), some (vI x5), some (vI x6), some (vI x7), some (vI x8), some (vI x9), some (vI (S.1 402 (w32 x9)))], [vI 7, vL (w32 (S6.1 403 (w32 x9))), .ref 367], hp S6, 0, 0)) rfl ?_
          refine mv_goto 546 rfl rfl ?_
          exact F
      · have F := F.2 c
        refine ev_bk 1 (S' := (530, [some (.ref 367), some (vI x1), some (vI x2), some (vI x3), some (vI x4), some (vI x5), some (vI x6), some (vI x7), some (vI x8), some (vI x9), some (vI (S.1 402 (w32 x9)))], [vI 3, vL (w32 (S6.1 403 (w32 x9))), .ref 367], hp S6, 0, 0)) rfl ?_
        refine mv_goto 546 rfl rfl ?_
        exact F
    · have F := F.2 c
      refine ev_bk 1 (S' := (519, [some (.ref 367), some (vI x1), some (vI x2), some (vI x3), some (vI x4), some (vI x5), some (vI x6), some (vI x7), some (vI x8), some (vI x9), some (vI (S.1 402 (w32 x9)))], [vI 2, vL (w32 (S6.1 403 (w32 x9))), .ref 367], hp S6, 0, 0)) rfl ?_
      refine mv_goto 546 rfl rfl ?_
      exact F
theorem vc_MD_writeOwn_546 {q : Nat × (Nat → Int32)} {S S' : ms} {r : Option Value} (x1 x2 x3 x4 x5 x6 x7 x8 x9 x10 y0 y1 : Int)
    (F : ∃ (S1 : ms), EV q 284 0 [some (.ref 367), some (vL y1), none, some (vI y0), none] [] S none S1 ∧ EV q 296 466 [some (.ref 367), some (vI x1), some (vI x2), some (vI x3), some (vI x4), some (vI x5), some (vI x6), some (vI x7), some (vI x8), some (vI (x9 + 1)), none] [] S1 r S') : EV q 296 546 [some (.ref 367), some (vI x1), some (vI x2), some (vI x3), some (vI x4), some (vI x5), some (vI x6), some (vI x7), some (vI x8), some (vI x9), some (vI x10)] [vI y0, vL y1, .ref 367] S r S' := by
  unfold EV
  obtain ⟨S1, e2, F⟩ := F
  refine mv_calv (as := [vL y1, vI y0]) (rest := []) e2 (sh_367) rfl rfl rfl ⟨rfl, rfl⟩ rfl rfl rfl rfl rfl ?_
  refine mv_inc (lv' := [some (.ref 367), some (vI x1), some (vI x2), some (vI x3), some (vI x4), some (vI x5), some (vI x6), some (vI x7), some (vI x8), some (vI (x9 + 1)), some (vI x10)]) 9 1 rfl rfl rfl rfl ?_
  refine mv_goto 466 rfl rfl ?_
  exact ev_wk (le_s (le_s (le_s (le_s (le_s (le_s (le_s (le_s (le_s (le_s (le_n le_0))))))))))) F
theorem vc_MD_lengthSymbol {q : Nat × (Nat → Int32)} {S S' : ms} {r : Option Value} (x1 : Int)
    (F : ((¬ w32 x1 = 258) → EV q 297 13 [some (.ref 367), some (vI x1), some (vI 27)] [] S r S') ∧ ((¬ (¬ w32 x1 = 258)) → r = some (vI 28) ∧ S' = S)) : EV q 297 0 [some (.ref 367), some (vI x1), none] [] S r S' := by
  unfold EV
  refine ev_bk 2 (S' := (4, [some (.ref 367), some (vI x1), none], [vI 258, vI x1], hp S, 0, 0)) rfl ?_
  refine mv_icmp 10 rfl rfl (fun c => ?_) (fun c => ?_)
  · have F := F.1 c
    refine ev_bk 2 (S' := (13, [some (.ref 367), some (vI x1), some (vI 27)], [], hp S, 0, 0)) rfl ?_
    exact F
  · have F := F.2 c
    refine ev_bk 1 (S' := (9, [some (.ref 367), some (vI x1), none], [vI 28], hp S, 0, 0)) rfl ?_
    obtain ⟨rfl, rfl⟩ := F
    exact ev_ret rfl rfl
theorem vc_MD_lengthSymbol_13 {q : Nat × (Nat → Int32)} {S S' : ms} {r : Option Value} (x1 x2 : Int)
    (F : (0 ≤ w32 x2 ∧ w32 x2 < (30 : Nat)) ∧ ((w32 (S.1 391 (w32 x2)) ≤ w32 x1) → r = some (vI x2) ∧ S' = S) ∧ ((¬ w32 (S.1 391 (w32 x2)) ≤ w32 x1) → EV q 297 13 [some (.ref 367), some (vI x1), some (vI (x2 - 1))] [] S r S')) : EV q 297 13 [some (.ref 367), some (vI x1), some (vI x2)] [] S r S' := by
  unfold EV
  refine ev_bk 1 (S' := (14, [some (.ref 367), some (vI x1), some (vI x2)], [.ref 367], hp S, 0, 0)) rfl ?_
  refine mv_gfR rfl rfl (sh_367) (by decide) rfl ?_
  refine ev_bk 1 (S' := (18, [some (.ref 367), some (vI x1), some (vI x2)], [vI x2, .ref 391], hp S, 0, 0)) rfl ?_
  obtain ⟨b1, F⟩ := F
  refine mv_ial rfl (sh_391) b1 ?_
  refine ev_bk 1 (S' := (20, [some (.ref 367), some (vI x1), some (vI x2)], [vI x1, vI (S.1 391 (w32 x2))], hp S, 0, 0)) rfl ?_
  refine mv_icmp 29 rfl rfl (fun c => ?_) (fun c => ?_)
  · have F := F.1 c
    refine ev_bk 1 (S' := (30, [some (.ref 367), some (vI x1), some (vI x2)], [vI x2], hp S, 0, 0)) rfl ?_
    obtain ⟨rfl, rfl⟩ := F
    exact ev_ret rfl rfl
  · have F := F.2 c
    refine mv_inc (lv' := [some (.ref 367), some (vI x1), some (vI (x2 - 1))]) 2 (-1) rfl rfl rfl (by omega) ?_
    refine mv_goto 13 rfl rfl ?_
    exact F
theorem vc_MD_distanceSymbol {q : Nat × (Nat → Int32)} {S S' : ms} {r : Option Value} (x1 : Int)
    (F : EV q 298 3 [some (.ref 367), some (vI x1), some (vI 29)] [] S r S') : EV q 298 0 [some (.ref 367), some (vI x1), none] [] S r S' := by
  unfold EV
  refine ev_bk 2 (S' := (3, [some (.ref 367), some (vI x1), some (vI 29)], [], hp S, 0, 0)) rfl ?_
  exact F
theorem vc_MD_distanceSymbol_3 {q : Nat × (Nat → Int32)} {S S' : ms} {r : Option Value} (x1 x2 : Int)
    (F : (0 ≤ w32 x2 ∧ w32 x2 < (30 : Nat)) ∧ ((w32 (S.1 393 (w32 x2)) ≤ w32 x1) → r = some (vI x2) ∧ S' = S) ∧ ((¬ w32 (S.1 393 (w32 x2)) ≤ w32 x1) → EV q 298 3 [some (.ref 367), some (vI x1), some (vI (x2 - 1))] [] S r S')) : EV q 298 3 [some (.ref 367), some (vI x1), some (vI x2)] [] S r S' := by
  unfold EV
  refine ev_bk 1 (S' := (4, [some (.ref 367), some (vI x1), some (vI x2)], [.ref 367], hp S, 0, 0)) rfl ?_
  refine mv_gfR rfl rfl (sh_367) (by decide) rfl ?_
  refine ev_bk 1 (S' := (8, [some (.ref 367), some (vI x1), some (vI x2)], [vI x2, .ref 393], hp S, 0, 0)) rfl ?_
  obtain ⟨b1, F⟩ := F
  refine mv_ial rfl (sh_393) b1 ?_
  refine ev_bk 1 (S' := (10, [some (.ref 367), some (vI x1), some (vI x2)], [vI x1, vI (S.1 393 (w32 x2))], hp S, 0, 0)) rfl ?_
  refine mv_icmp 19 rfl rfl (fun c => ?_) (fun c => ?_)
  · have F := F.1 c
    refine ev_bk 1 (S' := (20, [some (.ref 367), some (vI x1), some (vI x2)], [vI x2], hp S, 0, 0)) rfl ?_
    obtain ⟨rfl, rfl⟩ := F
    exact ev_ret rfl rfl
  · have F := F.2 c
    refine mv_inc (lv' := [some (.ref 367), some (vI x1), some (vI (x2 - 1))]) 2 (-1) rfl rfl rfl (by omega) ?_
    refine mv_goto 3 rfl rfl ?_
    exact F
theorem vc_MD_lengthsBy {q : Nat × (Nat → Int32)} {S S' : ms} {r : Option Value} (x2 x3 x5 : Int) (a1 na1 : Nat) (ha1 : SH a1 = (0, na1, [])) (a4 na4 : Nat) (ha4 : SH a4 = (0, na4, []))
    (F : EV q 299 3 [some (.ref 367), some (.ref a1), some (vI x2), some (vI x3), some (.ref a4), some (vI x5), some (vI 0), none, none, none, none, none] [] S r S') : EV q 299 0 [some (.ref 367), some (.ref a1), some (vI x2), some (vI x3), some (.ref a4), some (vI x5), none, none, none, none, none, none] [] S r S' := by
  unfold EV
  refine ev_bk 2 (S' := (3, [some (.ref 367), some (.ref a1), some (vI x2), some (vI x3), some (.ref a4), some (vI x5), some (vI 0), none, none, none, none, none], [], hp S, 0, 0)) rfl ?_
  exact F
theorem vc_MD_lengthsBy_3 {q : Nat × (Nat → Int32)} {S S' : ms} {r : Option Value} (x2 x3 x5 x6 : Int) (a1 na1 : Nat) (ha1 : SH a1 = (0, na1, [])) (a4 na4 : Nat) (ha4 : SH a4 = (0, na4, []))
    (F : ((w32 x2 ≤ w32 x6) → EV q 299 30 [some (.ref 367), some (.ref a1), some (vI x2), some (vI x3), some (.ref a4), some (vI x5), some (vI 1), none, none, none, none, none] [] S r S') ∧ ((¬ w32 x2 ≤ w32 x6) → (0 ≤ w32 x6 ∧ w32 x6 < (na1 : Nat)) ∧ (0 ≤ w32 x6 ∧ w32 x6 < (300 : Nat)) ∧ ∀ S3 : ms, S3 = wJ S 378 (w32 x6) (w32 (S.1 a1 (w32 x6))) → EV q 299 3 [some (.ref 367), some (.ref a1), some (vI x2), some (vI x3), some (.ref a4), some (vI x5), some (vI (x6 + 1)), none, none, none, none, none] [] S3 r S')) : EV q 299 3 [some (.ref 367), some (.ref a1), some (vI x2), some (vI x3), some (.ref a4), some (vI x5), some (vI x6), none, none, none, none, none] [] S r S' := by
  unfold EV
  refine ev_bk 2 (S' := (6, [some (.ref 367), some (.ref a1), some (vI x2), some (vI x3), some (.ref a4), some (vI x5), some (vI x6), none, none, none, none, none], [vI x2, vI x6], hp S, 0, 0)) rfl ?_
  refine mv_icmp 27 rfl rfl (fun c => ?_) (fun c => ?_)
  · have F := F.1 c
    refine ev_bk 2 (S' := (30, [some (.ref 367), some (.ref a1), some (vI x2), some (vI x3), some (.ref a4), some (vI x5), some (vI 1), none, none, none, none, none], [], hp S, 0, 0)) rfl ?_
    exact F
  · have F := F.2 c
    refine ev_bk 1 (S' := (10, [some (.ref 367), some (.ref a1), some (vI x2), some (vI x3), some (.ref a4), some (vI x5), some (vI x6), none, none, none, none, none], [.ref 367], hp S, 0, 0)) rfl ?_
    refine mv_gfR rfl rfl (sh_367) (by decide) rfl ?_
    refine ev_bk 3 (S' := (18, [some (.ref 367), some (.ref a1), some (vI x2), some (vI x3), some (.ref a4), some (vI x5), some (vI x6), none, none, none, none, none], [vI x6, .ref a1, vI x6, .ref 378], hp S, 0, 0)) rfl ?_
    obtain ⟨b1, F⟩ := F
    refine mv_ial rfl (ha1) b1 ?_
    refine mv_i2l rfl ?_
    obtain ⟨b2, F⟩ := F
    refine mv_las rfl (sh_378) b2 ?_
    have F := F _ rfl
    refine mv_inc (lv' := [some (.ref 367), some (.ref a1), some (vI x2), some (vI x3), some (.ref a4), some (vI x5), some (vI (x6 + 1)), none, none, none, none, none]) 6 1 rfl rfl rfl rfl ?_
    refine mv_goto 3 rfl rfl ?_
    exact F
theorem vc_MD_lengthsBy_30 {q : Nat × (Nat → Int32)} {S S' : ms} {r : Option Value} (x2 x3 x5 x6 : Int) (a1 na1 : Nat) (ha1 : SH a1 = (0, na1, [])) (a4 na4 : Nat) (ha4 : SH a4 = (0, na4, []))
    (F : ((w32 x6 = 0) → r = none ∧ S' = S) ∧ ((¬ w32 x6 = 0) → EV q 299 44 [some (.ref 367), some (.ref a1), some (vI x2), some (vI x3), some (.ref a4), some (vI x5), some (vI 0), some (vI 0), some (vI 0), none, none, none] [] S r S')) : EV q 299 30 [some (.ref 367), some (.ref a1), some (vI x2), some (vI x3), some (.ref a4), some (vI x5), some (vI x6), none, none, none, none, none] [] S r S' := by
  unfold EV
  refine ev_bk 1 (S' := (32, [some (.ref 367), some (.ref a1), some (vI x2), some (vI x3), some (.ref a4), some (vI x5), some (vI x6), none, none, none, none, none], [vI x6], hp S, 0, 0)) rfl ?_
  refine mv_if 349 rfl rfl (fun c => ?_) (fun c => ?_)
  · have F := F.1 c
    obtain ⟨rfl, rfl⟩ := F
    exact ev_ret rfl rfl
  · have F := F.2 c
    refine ev_bk 6 (S' := (44, [some (.ref 367), some (.ref a1), some (vI x2), some (vI x3), some (.ref a4), some (vI x5), some (vI 0), some (vI 0), some (vI 0), none, none, none], [], hp S, 0, 0)) rfl ?_
    exact F
theorem vc_MD_lengthsBy_44 {q : Nat × (Nat → Int32)} {S S' : ms} {r : Option Value} (x2 x3 x5 x6 x7 x8 : Int) (a1 na1 : Nat) (ha1 : SH a1 = (0, na1, [])) (a4 na4 : Nat) (ha4 : SH a4 = (0, na4, []))
    (F : ((w32 x2 ≤ w32 x8) → EV q 299 115 [some (.ref 367), some (.ref a1), some (vI x2), some (vI x3), some (.ref a4), some (vI x5), some (vI x6), some (vI x7), some (vI x2), some (vI 1), none, none] [] S r S') ∧ ((¬ w32 x2 ≤ w32 x8) → (0 ≤ w32 x8 ∧ w32 x8 < (300 : Nat)) ∧ (0 ≤ w32 x8 ∧ w32 x8 < (700 : Nat)) ∧ ∀ S3 : ms, S3 = wJ S 376 (w32 x8) (S.2.1 378 (w32 x8)) → (0 ≤ w32 x8 ∧ w32 x8 < (700 : Nat)) ∧ ∀ S5 : ms, S5 = wI S3 377 (w32 x8) ((-1)) → (0 ≤ w32 x8 ∧ w32 x8 < (300 : Nat)) ∧ ((w64 (S5.2.1 378 (w32 x8)) ≤ w64 0) → EV q 299 91 [some (.ref 367), some (.ref a1), some (vI x2), some (vI x3), some (.ref a4), some (vI x5), some (vI x6), some (vI x7), some (vI x8), none, none, none] [vI 0, vI x7] S5 r S') ∧ ((¬ w64 (S5.2.1 378 (w32 x8)) ≤ w64 0) → EV q 299 91 [some (.ref 367), some (.ref a1), some (vI x2), some (vI x3), some (.ref a4), some (vI x5), some (vI x6), some (vI x7), some (vI x8), none, none, none] [vI 1, vI x7] S5 r S'))) : EV q 299 44 [some (.ref 367), some (.ref a1), some (vI x2), some (vI x3), some (.ref a4), some (vI x5), some (vI x6), some (vI x7), some (vI x8), none, none, none] [] S r S' := by
  unfold EV
  refine ev_bk 2 (S' := (47, [some (.ref 367), some (.ref a1), some (vI x2), some (vI x3), some (.ref a4), some (vI x5), some (vI x6), some (vI x7), some (vI x8), none, none, none], [vI x2, vI x8], hp S, 0, 0)) rfl ?_
  refine mv_icmp 109 rfl rfl (fun c => ?_) (fun c => ?_)
  · have F := F.1 c
    refine ev_bk 4 (S' := (115, [some (.ref 367), some (.ref a1), some (vI x2), some (vI x3), some (.ref a4), some (vI x5), some (vI x6), some (vI x7), some (vI x2), some (vI 1), none, none], [], hp S, 0, 0)) rfl ?_
    exact F
  · have F := F.2 c
    refine ev_bk 1 (S' := (51, [some (.ref 367), some (.ref a1), some (vI x2), some (vI x3), some (.ref a4), some (vI x5), some (vI x6), some (vI x7), some (vI x8), none, none, none], [.ref 367], hp S, 0, 0)) rfl ?_
    refine mv_gfR rfl rfl (sh_367) (by decide) rfl ?_
    refine ev_bk 2 (S' := (57, [some (.ref 367), some (.ref a1), some (vI x2), some (vI x3), some (.ref a4), some (vI x5), some (vI x6), some (vI x7), some (vI x8), none, none, none], [.ref 367, vI x8, .ref 376], hp S, 0, 0)) rfl ?_
    refine mv_gfR rfl rfl (sh_367) (by decide) rfl ?_
    refine ev_bk 1 (S' := (62, [some (.ref 367), some (.ref a1), some (vI x2), some (vI x3), some (.ref a4), some (vI x5), some (vI x6), some (vI x7), some (vI x8), none, none, none], [vI x8, .ref 378, vI x8, .ref 376], hp S, 0, 0)) rfl ?_
    obtain ⟨b1, F⟩ := F
    refine mv_lal rfl (sh_378) b1 ?_
    obtain ⟨b2, F⟩ := F
    refine mv_las rfl (sh_376) b2 ?_
    have F := F _ rfl
    refine ev_bk 1 (S' := (65, [some (.ref 367), some (.ref a1), some (vI x2), some (vI x3), some (.ref a4), some (vI x5), some (vI x6), some (vI x7), some (vI x8), none, none, none], [.ref 367], hp (wJ S 376 (w32 x8) (S.2.1 378 (w32 x8))), 0, 0)) rfl ?_
    refine mv_gfR rfl rfl (sh_367) (by decide) rfl ?_
    refine ev_bk 2 (S' := (71, [some (.ref 367), some (.ref a1), some (vI x2), some (vI x3), some (.ref a4), some (vI x5), some (vI x6), some (vI x7), some (vI x8), none, none, none], [vI ((-1)), vI x8, .ref 377], hp (wJ S 376 (w32 x8) (S.2.1 378 (w32 x8))), 0, 0)) rfl ?_
    obtain ⟨b4, F⟩ := F
    refine mv_ias rfl (sh_377) b4 ?_
    have F := F _ rfl
    refine ev_bk 2 (S' := (75, [some (.ref 367), some (.ref a1), some (vI x2), some (vI x3), some (.ref a4), some (vI x5), some (vI x6), some (vI x7), some (vI x8), none, none, none], [.ref 367, vI x7], hp (wI (wJ S 376 (w32 x8) (S.2.1 378 (w32 x8))) 377 (w32 x8) ((-1))), 0, 0)) rfl ?_
    refine mv_gfR rfl rfl (sh_367) (by decide) rfl ?_
    refine ev_bk 1 (S' := (80, [some (.ref 367), some (.ref a1), some (vI x2), some (vI x3), some (.ref a4), some (vI x5), some (vI x6), some (vI x7), some (vI x8), none, none, none], [vI x8, .ref 378, vI x7], hp (wI (wJ S 376 (w32 x8) (S.2.1 378 (w32 x8))) 377 (w32 x8) ((-1))), 0, 0)) rfl ?_
    obtain ⟨b6, F⟩ := F
    refine mv_lal rfl (sh_378) b6 ?_
    refine ev_bk 1 (S' := (82, [some (.ref 367), some (.ref a1), some (vI x2), some (vI x3), some (.ref a4), some (vI x5), some (vI x6), some (vI x7), some (vI x8), none, none, none], [vL 0, vL ((wI (wJ S 376 (w32 x8) (S.2.1 378 (w32 x8))) 377 (w32 x8) ((-1))).2.1 378 (w32 x8)), vI x7], hp (wI (wJ S 376 (w32 x8) (S.2.1 378 (w32 x8))) 377 (w32 x8) ((-1))), 0, 0)) rfl ?_
    refine mv_lif 90 rfl rfl rfl (fun c => ?_) (fun c => ?_)
    · have F := F.1 c
      refine ev_bk 1 (S' := (91, [some (.ref 367), some (.ref a1), some (vI x2), some (vI x3), some (.ref a4), some (vI x5), some (vI x6), some (vI x7), some (vI x8), none, none, none], [vI 0, vI x7], hp (wI (wJ S 376 (w32 x8) (S.2.1 378 (w32 x8))) 377 (w32 x8) ((-1))), 0, 0)) rfl ?_
      exact F
    · have F := F.2 c
      refine ev_bk 1 (S' := (87, [some (.ref 367), some (.ref a1), some (vI x2), some (vI x3), some (.ref a4), some (vI x5), some (vI x6), some (vI x7), some (vI x8), none, none, none], [vI 1, vI x7], hp (wI (wJ S 376 (w32 x8) (S.2.1 378 (w32 x8))) 377 (w32 x8) ((-1))), 0, 0)) rfl ?_
      refine mv_goto 91 rfl rfl ?_
      exact F
theorem vc_MD_lengthsBy_91 {q : Nat × (Nat → Int32)} {S S' : ms} {r : Option Value} (x2 x3 x5 x6 x7 x8 y0 y1 : Int) (a1 na1 : Nat) (ha1 : SH a1 = (0, na1, [])) (a4 na4 : Nat) (ha4 : SH a4 = (0, na4, []))
    (F : (0 ≤ w32 (x5 + x8) ∧ w32 (x5 + x8) < (na4 : Nat)) ∧ ∀ S2 : ms, S2 = wI S a4 (w32 (x5 + x8)) 0 → EV q 299 44 [some (.ref 367), some (.ref a1), some (vI x2), some (vI x3), some (.ref a4), some (vI x5), some (vI x6), some (vI (y1 + y0)), some (vI (x8 + 1)), none, none, none] [] S2 r S') : EV q 299 91 [some (.ref 367), some (.ref a1), some (vI x2), some (vI x3), some (.ref a4), some (vI x5), some (vI x6), some (vI x7), some (vI x8), none, none, none] [vI y0, vI y1] S r S' := by
  unfold EV
  refine mv_iadd rfl ?_
  refine ev_bk 4 (S' := (100, [some (.ref 367), some (.ref a1), some (vI x2), some (vI x3), some (.ref a4), some (vI x5), some (vI x6), some (vI (y1 + y0)), some (vI x8), none, none, none], [vI x8, vI x5, .ref a4], hp S, 0, 0)) rfl ?_
  refine mv_iadd rfl ?_
  refine ev_bk 1 (S' := (102, [some (.ref 367), some (.ref a1), some (vI x2), some (vI x3), some (.ref a4), some (vI x5), some (vI x6), some (vI (y1 + y0)), some (vI x8), none, none, none], [vI 0, vI (x5 + x8), .ref a4], hp S, 0, 0)) rfl ?_
  obtain ⟨b1, F⟩ := F
  refine mv_ias rfl (ha4) b1 ?_
  have F := F _ rfl
  refine mv_inc (lv' := [some (.ref 367), some (.ref a1), some (vI x2), some (vI x3), some (.ref a4), some (vI x5), some (vI x6), some (vI (y1 + y0)), some (vI (x8 + 1)), none, none, none]) 8 1 rfl rfl rfl rfl ?_
  refine mv_goto 44 rfl rfl ?_
  exact F
theorem vc_MD_lengthsBy_115 {q : Nat × (Nat → Int32)} {S S' : ms} {r : Option Value} (x2 x3 x5 x6 x7 x8 x9 : Int) (a1 na1 : Nat) (ha1 : SH a1 = (0, na1, [])) (a4 na4 : Nat) (ha4 : SH a4 = (0, na4, []))
    (F : ((w32 x7 ≤ w32 x9) → EV q 299 200 [some (.ref 367), some (.ref a1), some (vI x2), some (vI x3), some (.ref a4), some (vI x5), some (vI x6), some (vI x7), some (vI x8), some (vI 0), none, none] [] S r S') ∧ ((¬ w32 x7 ≤ w32 x9) → ∃ (z3 : Int) (S1 : ms), EV q 300 0 [some (.ref 367), some (vI x8), some (vI x2), none, none, none] [] S (some (vI z3)) S1 ∧ (0 ≤ w32 z3 ∧ w32 z3 < (700 : Nat)) ∧ ∀ S5 : ms, S5 = wI S1 377 (w32 z3) x8 → ∃ (z8 : Int) (S6 : ms), EV q 300 0 [some (.ref 367), some (vI x8), some (vI x2), none, none, none] [] S5 (some (vI z8)) S6 ∧ (0 ≤ w32 z8 ∧ w32 z8 < (700 : Nat)) ∧ ∀ S10 : ms, S10 = wI S6 377 (w32 z8) x8 → (0 ≤ w32 z3 ∧ w32 z3 < (700 : Nat)) ∧ (0 ≤ w32 z8 ∧ w32 z8 < (700 : Nat)) ∧ (0 ≤ w32 x8 ∧ w32 x8 < (700 : Nat)) ∧ ∀ S14 : ms, S14 = wJ S10 376 (w32 x8) ((S10.2.1 376 (w32 z3)) + (S10.2.1 376 (w32 z8))) → (0 ≤ w32 x8 ∧ w32 x8 < (700 : Nat)) ∧ ∀ S16 : ms, S16 = wI S14 377 (w32 x8) ((-1)) → EV q 299 115 [some (.ref 367), some (.ref a1), some (vI x2), some (vI x3), some (.ref a4), some (vI x5), some (vI x6), some (vI x7), some (vI (x8 + 1)), some (vI (x9 + 1)), none, none] [] S16 r S')) : EV q 299 115 [some (.ref 367), some (.ref a1), some (vI x2), some (vI x3), some (.ref a4), some (vI x5), some (vI x6), some (vI x7), some (vI x8), some (vI x9), none, none] [] S r S' := by
  unfold EV
  refine ev_bk 2 (S' := (119, [some (.ref 367), some (.ref a1), some (vI x2), some (vI x3), some (.ref a4), some (vI x5), some (vI x6), some (vI x7), some (vI x8), some (vI x9), none, none], [vI x7, vI x9], hp S, 0, 0)) rfl ?_
  refine mv_icmp 197 rfl rfl (fun c => ?_) (fun c => ?_)
  · have F := F.1 c
    refine ev_bk 2 (S' := (200, [some (.ref 367), some (.ref a1), some (vI x2), some (vI x3), some (.ref a4), some (vI x5), some (vI x6), some (vI x7), some (vI x8), some (vI 0), none, none], [], hp S, 0, 0)) rfl ?_
    exact F
  · have F := F.2 c
    refine ev_bk 3 (S' := (126, [some (.ref 367), some (.ref a1), some (vI x2), some (vI x3), some (.ref a4), some (vI x5), some (vI x6), some (vI x7), some (vI x8), some (vI x9), none, none], [vI x2, vI x8, .ref 367], hp S, 0, 0)) rfl ?_
    obtain ⟨z3, S1, e2, F⟩ := F
    refine mv_calv (as := [vI x8, vI x2]) (rest := []) e2 (sh_367) rfl rfl rfl ⟨rfl, rfl⟩ rfl rfl rfl rfl rfl ?_
    refine ev_bk 2 (S' := (132, [some (.ref 367), some (.ref a1), some (vI x2), some (vI x3), some (.ref a4), some (vI x5), some (vI x6), some (vI x7), some (vI x8), some (vI x9), some (vI z3), none], [.ref 367], hp S1, 0, 0)) rfl ?_
    refine mv_gfR rfl rfl (sh_367) (by decide) rfl ?_
    refine ev_bk 2 (S' := (139, [some (.ref 367), some (.ref a1), some (vI x2), some (vI x3), some (.ref a4), some (vI x5), some (vI x6), some (vI x7), some (vI x8), some (vI x9), some (vI z3), none], [vI x8, vI z3, .ref 377], hp S1, 0, 0)) rfl ?_
    obtain ⟨b4, F⟩ := F
    refine mv_ias rfl (sh_377) b4 ?_
    have F := F _ rfl
    refine ev_bk 3 (S' := (144, [some (.ref 367), some (.ref a1), some (vI x2), some (vI x3), some (.ref a4), some (vI x5), some (vI x6), some (vI x7), some (vI x8), some (vI x9), some (vI z3), none], [vI x2, vI x8, .ref 367], hp (wI S1 377 (w32 z3) x8), 0, 0)) rfl ?_
    obtain ⟨z8, S6, e7, F⟩ := F
    refine mv_calv (as := [vI x8, vI x2]) (rest := []) e7 (sh_367) rfl rfl rfl ⟨rfl, rfl⟩ rfl rfl rfl rfl rfl ?_
    refine ev_bk 2 (S' := (150, [some (.ref 367), some (.ref a1), some (vI x2), some (vI x3), some (.ref a4), some (vI x5), some (vI x6), some (vI x7), some (vI x8), some (vI x9), some (vI z3), some (vI z8)], [.ref 367], hp S6, 0, 0)) rfl ?_
    refine mv_gfR rfl rfl (sh_367) (by decide) rfl ?_
    refine ev_bk 2 (S' := (157, [some (.ref 367), some (.ref a1), some (vI x2), some (vI x3), some (.ref a4), some (vI x5), some (vI x6), some (vI x7), some (vI x8), some (vI x9), some (vI z3), some (vI z8)], [vI x8, vI z8, .ref 377], hp S6, 0, 0)) rfl ?_
    obtain ⟨b9, F⟩ := F
    refine mv_ias rfl (sh_377) b9 ?_
    have F := F _ rfl
    refine ev_bk 1 (S' := (159, [some (.ref 367), some (.ref a1), some (vI x2), some (vI x3), some (.ref a4), some (vI x5), some (vI x6), some (vI x7), some (vI x8), some (vI x9), some (vI z3), some (vI z8)], [.ref 367], hp (wI S6 377 (w32 z8) x8), 0, 0)) rfl ?_
    refine mv_gfR rfl rfl (sh_367) (by decide) rfl ?_
    refine ev_bk 2 (S' := (165, [some (.ref 367), some (.ref a1), some (vI x2), some (vI x3), some (.ref a4), some (vI x5), some (vI x6), some (vI x7), some (vI x8), some (vI x9), some (vI z3), some (vI z8)], [.ref 367, vI x8, .ref 376], hp (wI S6 377 (w32 z8) x8), 0, 0)) rfl ?_
    refine mv_gfR rfl rfl (sh_367) (by decide) rfl ?_
    refine ev_bk 1 (S' := (170, [some (.ref 367), some (.ref a1), some (vI x2), some (vI x3), some (.ref a4), some (vI x5), some (vI x6), some (vI x7), some (vI x8), some (vI x9), some (vI z3), some (vI z8)], [vI z3, .ref 376, vI x8, .ref 376], hp (wI S6 377 (w32 z8) x8), 0, 0)) rfl ?_
    obtain ⟨b11, F⟩ := F
    refine mv_lal rfl (sh_376) b11 ?_
    refine ev_bk 1 (S' := (172, [some (.ref 367), some (.ref a1), some (vI x2), some (vI x3), some (.ref a4), some (vI x5), some (vI x6), some (vI x7), some (vI x8), some (vI x9), some (vI z3), some (vI z8)], [.ref 367, vL ((wI S6 377 (w32 z8) x8).2.1 376 (w32 z3)), vI x8, .ref 376], hp (wI S6 377 (w32 z8) x8), 0, 0)) rfl ?_
    refine mv_gfR rfl rfl (sh_367) (by decide) rfl ?_
    refine ev_bk 1 (S' := (177, [some (.ref 367), some (.ref a1), some (vI x2), some (vI x3), some (.ref a4), some (vI x5), some (vI x6), some (vI x7), some (vI x8), some (vI x9), some (vI z3), some (vI z8)], [vI z8, .ref 376, vL ((wI S6 377 (w32 z8) x8).2.1 376 (w32 z3)), vI x8, .ref 376], hp (wI S6 377 (w32 z8) x8), 0, 0)) rfl ?_
    obtain ⟨b12, F⟩ := F
    refine mv_lal rfl (sh_376) b12 ?_
    refine mv_ladd rfl ?_
    obtain ⟨b13, F⟩ := F
    refine mv_las rfl (sh_376) b13 ?_
    have F := F _ rfl
    refine ev_bk 1 (S' := (181, [some (.ref 367), some (.ref a1), some (vI x2), some (vI x3), some (.ref a4), some (vI x5), some (vI x6), some (vI x7), some (vI x8), some (vI x9), some (vI z3), some (vI z8)], [.ref 367], hp (wJ (wI S6 377 (w32 z8) x8) 376 (w32 x8) (((wI S6 377 (w32 z8) x8).2.1 376 (w32 z3)) + ((wI S6 377 (w32 z8) x8).2.1 376 (w32 z8)))), 0, 0)) rfl ?_
    refine mv_gfR rfl rfl (sh_367) (by decide) rfl ?_
    refine ev_bk 2 (S' := (187, [some (.ref 367), some (.ref a1), some (vI x2), some (vI x3), some (.ref a4), some (vI x5), some (vI x6), some (vI x7), some (vI x8), some (vI x9), some (vI z3), some (vI z8)], [vI ((-1)), vI x8, .ref 377], hp (wJ (wI S6 377 (w32 z8) x8) 376 (w32 x8) (((wI S6 377 (w32 z8) x8).2.1 376 (w32 z3)) + ((wI S6 377 (w32 z8) x8).2.1 376 (w32 z8)))), 0, 0)) rfl ?_
    obtain ⟨b15, F⟩ := F
    refine mv_ias rfl (sh_377) b15 ?_
    have F := F _ rfl
    refine mv_inc (lv' := [some (.ref 367), some (.ref a1), some (vI x2), some (vI x3), some (.ref a4), some (vI x5), some (vI x6), some (vI x7), some (vI (x8 + 1)), some (vI x9), some (vI z3), some (vI z8)]) 8 1 rfl rfl rfl rfl ?_
    refine mv_inc (lv' := [some (.ref 367), some (.ref a1), some (vI x2), some (vI x3), some (.ref a4), some (vI x5), some (vI x6), some (vI x7), some (vI (x8 + 1)), some (vI (x9 + 1)), some (vI z3), some (vI z8)]) 9 1 rfl rfl rfl rfl ?_
    refine mv_goto 115 rfl rfl ?_
    exact ev_wk (le_s (le_s (le_s (le_s (le_s (le_s (le_s (le_s (le_s (le_s (le_n (le_n le_0)))))))))))) F
theorem vc_MD_lengthsBy_200 {q : Nat × (Nat → Int32)} {S S' : ms} {r : Option Value} (x2 x3 x5 x6 x7 x8 x9 : Int) (a1 na1 : Nat) (ha1 : SH a1 = (0, na1, [])) (a4 na4 : Nat) (ha4 : SH a4 = (0, na4, []))
    (F : ((w32 x2 ≤ w32 x9) → EV q 299 309 [some (.ref 367), some (.ref a1), some (vI x2), some (vI x3), some (.ref a4), some (vI x5), some (vI x6), some (vI x7), some (vI x8), some (vI 0), none, none] [] S r S') ∧ ((¬ w32 x2 ≤ w32 x9) → (0 ≤ w32 x9 ∧ w32 x9 < (300 : Nat)) ∧ ((w64 (S.2.1 378 (w32 x9)) ≤ w64 0) → EV q 299 228 [some (.ref 367), some (.ref a1), some (vI x2), some (vI x3), some (.ref a4), some (vI x5), some (vI x6), some (vI x7), some (vI x8), some (vI x9), none, none] [] S r S') ∧ ((¬ w64 (S.2.1 378 (w32 x9)) ≤ w64 0) → ((¬ w32 x7 = 1) → EV q 299 228 [some (.ref 367), some (.ref a1), some (vI x2), some (vI x3), some (.ref a4), some (vI x5), some (vI x6), some (vI x7), some (vI x8), some (vI x9), none, none] [] S r S') ∧ ((¬ (¬ w32 x7 = 1)) → EV q 299 229 [some (.ref 367), some (.ref a1), some (vI x2), some (vI x3), some (.ref a4), some (vI x5), some (vI x6), some (vI x7), some (vI x8), some (vI x9), none, none] [vI 1] S r S')))) : EV q 299 200 [some (.ref 367), some (.ref a1), some (vI x2), some (vI x3), some (.ref a4), some (vI x5), some (vI x6), some (vI x7), some (vI x8), some (vI x9), none, none] [] S r S' := by
  unfold EV
  refine ev_bk 2 (S' := (203, [some (.ref 367), some (.ref a1), some (vI x2), some (vI x3), some (.ref a4), some (vI x5), some (vI x6), some (vI x7), some (vI x8), some (vI x9), none, none], [vI x2, vI x9], hp S, 0, 0)) rfl ?_
  refine mv_icmp 306 rfl rfl (fun c => ?_) (fun c => ?_)
  · have F := F.1 c
    refine ev_bk 2 (S' := (309, [some (.ref 367), some (.ref a1), some (vI x2), some (vI x3), some (.ref a4), some (vI x5), some (vI x6), some (vI x7), some (vI x8), some (vI 0), none, none], [], hp S, 0, 0)) rfl ?_
    exact F
  · have F := F.2 c
    refine ev_bk 1 (S' := (207, [some (.ref 367), some (.ref a1), some (vI x2), some (vI x3), some (.ref a4), some (vI x5), some (vI x6), some (vI x7), some (vI x8), some (vI x9), none, none], [.ref 367], hp S, 0, 0)) rfl ?_
    refine mv_gfR rfl rfl (sh_367) (by decide) rfl ?_
    refine ev_bk 1 (S' := (212, [some (.ref 367), some (.ref a1), some (vI x2), some (vI x3), some (.ref a4), some (vI x5), some (vI x6), some (vI x7), some (vI x8), some (vI x9), none, none], [vI x9, .ref 378], hp S, 0, 0)) rfl ?_
    obtain ⟨b1, F⟩ := F
    refine mv_lal rfl (sh_378) b1 ?_
    refine ev_bk 1 (S' := (214, [some (.ref 367), some (.ref a1), some (vI x2), some (vI x3), some (.ref a4), some (vI x5), some (vI x6), some (vI x7), some (vI x8), some (vI x9), none, none], [vL 0, vL (S.2.1 378 (w32 x9))], hp S, 0, 0)) rfl ?_
    refine mv_lif 228 rfl rfl rfl (fun c => ?_) (fun c => ?_)
    · have F := F.1 c
      exact F
    · have F := F.2 c
      refine ev_bk 2 (S' := (221, [some (.ref 367), some (.ref a1), some (vI x2), some (vI x3), some (.ref a4), some (vI x5), some (vI x6), some (vI x7), some (vI x8), some (vI x9), none, none], [vI 1, vI x7], hp S, 0, 0)) rfl ?_
      refine mv_icmp 228 rfl rfl (fun c => ?_) (fun c => ?_)
      · have F := F.1 c
        exact F
      · have F := F.2 c
        refine ev_bk 1 (S' := (225, [some (.ref 367), some (.ref a1), some (vI x2), some (vI x3), some (.ref a4), some (vI x5), some (vI x6), some (vI x7), some (vI x8), some (vI x9), none, none], [vI 1], hp S, 0, 0)) rfl ?_
        refine mv_goto 229 rfl rfl ?_
        exact F
theorem vc_MD_lengthsBy_228 {q : Nat × (Nat → Int32)} {S S' : ms} {r : Option Value} (x2 x3 x5 x6 x7 x8 x9 : Int) (a1 na1 : Nat) (ha1 : SH a1 = (0, na1, [])) (a4 na4 : Nat) (ha4 : SH a4 = (0, na4, []))
    (F : EV q 299 229 [some (.ref 367), some (.ref a1), some (vI x2), some (vI x3), some (.ref a4), some (vI x5), some (vI x6), some (vI x7), some (vI x8), some (vI x9), none, none] [vI 0] S r S') : EV q 299 228 [some (.ref 367), some (.ref a1), some (vI x2), some (vI x3), some (.ref a4), some (vI x5), some (vI x6), some (vI x7), some (vI x8), some (vI x9), none, none] [] S r S' := by
  unfold EV
  refine ev_bk 1 (S' := (229, [some (.ref 367), some (.ref a1), some (vI x2), some (vI x3), some (.ref a4), some (vI x5), some (vI x6), some (vI x7), some (vI x8), some (vI x9), none, none], [vI 0], hp S, 0, 0)) rfl ?_
  exact F
theorem vc_MD_lengthsBy_229 {q : Nat × (Nat → Int32)} {S S' : ms} {r : Option Value} (x2 x3 x5 x6 x7 x8 x9 y0 : Int) (a1 na1 : Nat) (ha1 : SH a1 = (0, na1, [])) (a4 na4 : Nat) (ha4 : SH a4 = (0, na4, []))
    (F : EV q 299 235 [some (.ref 367), some (.ref a1), some (vI x2), some (vI x3), some (.ref a4), some (vI x5), some (vI x6), some (vI x7), some (vI x8), some (vI x9), some (vI y0), some (vI x9)] [] S r S') : EV q 299 229 [some (.ref 367), some (.ref a1), some (vI x2), some (vI x3), some (.ref a4), some (vI x5), some (vI x6), some (vI x7), some (vI x8), some (vI x9), none, none] [vI y0] S r S' := by
  unfold EV
  refine ev_bk 3 (S' := (235, [some (.ref 367), some (.ref a1), some (vI x2), some (vI x3), some (.ref a4), some (vI x5), some (vI x6), some (vI x7), some (vI x8), some (vI x9), some (vI y0), some (vI x9)], [], hp S, 0, 0)) rfl ?_
  exact F
theorem vc_MD_lengthsBy_235 {q : Nat × (Nat → Int32)} {S S' : ms} {r : Option Value} (x2 x3 x5 x6 x7 x8 x9 x10 x11 : Int) (a1 na1 : Nat) (ha1 : SH a1 = (0, na1, [])) (a4 na4 : Nat) (ha4 : SH a4 = (0, na4, []))
    (F : (0 ≤ w32 x9 ∧ w32 x9 < (300 : Nat)) ∧ ((w64 (S.2.1 378 (w32 x9)) ≤ w64 0) → EV q 299 272 [some (.ref 367), some (.ref a1), some (vI x2), some (vI x3), some (.ref a4), some (vI x5), some (vI x6), some (vI x7), some (vI x8), some (vI x9), some (vI x10), some (vI x11)] [] S r S') ∧ ((¬ w64 (S.2.1 378 (w32 x9)) ≤ w64 0) → (0 ≤ w32 x11 ∧ w32 x11 < (700 : Nat)) ∧ ((w32 (S.1 377 (w32 x11)) < 0) → EV q 299 272 [some (.ref 367), some (.ref a1), some (vI x2), some (vI x3), some (.ref a4), some (vI x5), some (vI x6), some (vI x7), some (vI x8), some (vI x9), some (vI x10), some (vI x11)] [] S r S') ∧ ((¬ w32 (S.1 377 (w32 x11)) < 0) → (0 ≤ w32 x11 ∧ w32 x11 < (700 : Nat)) ∧ EV q 299 235 [some (.ref 367), some (.ref a1), some (vI x2), some (vI x3), some (.ref a4), some (vI x5), some (vI x6), some (vI x7), some (vI x8), some (vI x9), some (vI (x10 + 1)), some (vI (S.1 377 (w32 x11)))] [] S r S'))) : EV q 299 235 [some (.ref 367), some (.ref a1), some (vI x2), some (vI x3), some (.ref a4), some (vI x5), some (vI x6), some (vI x7), some (vI x8), some (vI x9), some (vI x10), some (vI x11)] [] S r S' := by
  unfold EV
  refine ev_bk 1 (S' := (236, [some (.ref 367), some (.ref a1), some (vI x2), some (vI x3), some (.ref a4), some (vI x5), some (vI x6), some (vI x7), some (vI x8), some (vI x9), some (vI x10), some (vI x11)], [.ref 367], hp S, 0, 0)) rfl ?_
  refine mv_gfR rfl rfl (sh_367) (by decide) rfl ?_
  refine ev_bk 1 (S' := (241, [some (.ref 367), some (.ref a1), some (vI x2), some (vI x3), some (.ref a4), some (vI x5), some (vI x6), some (vI x7), some (vI x8), some (vI x9), some (vI x10), some (vI x11)], [vI x9, .ref 378], hp S, 0, 0)) rfl ?_
  obtain ⟨b1, F⟩ := F
  refine mv_lal rfl (sh_378) b1 ?_
  refine ev_bk 1 (S' := (243, [some (.ref 367), some (.ref a1), some (vI x2), some (vI x3), some (.ref a4), some (vI x5), some (vI x6), some (vI x7), some (vI x8), some (vI x9), some (vI x10), some (vI x11)], [vL 0, vL (S.2.1 378 (w32 x9))], hp S, 0, 0)) rfl ?_
  refine mv_lif 272 rfl rfl rfl (fun c => ?_) (fun c => ?_)
  · have F := F.1 c
    exact F
  · have F := F.2 c
    refine ev_bk 1 (S' := (248, [some (.ref 367), some (.ref a1), some (vI x2), some (vI x3), some (.ref a4), some (vI x5), some (vI x6), some (vI x7), some (vI x8), some (vI x9), some (vI x10), some (vI x11)], [.ref 367], hp S, 0, 0)) rfl ?_
    refine mv_gfR rfl rfl (sh_367) (by decide) rfl ?_
    refine ev_bk 1 (S' := (253, [some (.ref 367), some (.ref a1), some (vI x2), some (vI x3), some (.ref a4), some (vI x5), some (vI x6), some (vI x7), some (vI x8), some (vI x9), some (vI x10), some (vI x11)], [vI x11, .ref 377], hp S, 0, 0)) rfl ?_
    obtain ⟨b2, F⟩ := F
    refine mv_ial rfl (sh_377) b2 ?_
    refine mv_if 272 rfl rfl (fun c => ?_) (fun c => ?_)
    · have F := F.1 c
      exact F
    · have F := F.2 c
      refine mv_inc (lv' := [some (.ref 367), some (.ref a1), some (vI x2), some (vI x3), some (.ref a4), some (vI x5), some (vI x6), some (vI x7), some (vI x8), some (vI x9), some (vI (x10 + 1)), some (vI x11)]) 10 1 rfl rfl rfl rfl ?_
      refine ev_bk 1 (S' := (261, [some (.ref 367), some (.ref a1), some (vI x2), some (vI x3), some (.ref a4), some (vI x5), some (vI x6), some (vI x7), some (vI x8), some (vI x9), some (vI (x10 + 1)), some (vI x11)], [.ref 367], hp S, 0, 0)) rfl ?_
      refine mv_gfR rfl rfl (sh_367) (by decide) rfl ?_
      refine ev_bk 1 (S' := (266, [some (.ref 367), some (.ref a1), some (vI x2), some (vI x3), some (.ref a4), some (vI x5), some (vI x6), some (vI x7), some (vI x8), some (vI x9), some (vI (x10 + 1)), some (vI x11)], [vI x11, .ref 377], hp S, 0, 0)) rfl ?_
      obtain ⟨b3, F⟩ := F
      refine mv_ial rfl (sh_377) b3 ?_
      refine ev_bk 1 (S' := (269, [some (.ref 367), some (.ref a1), some (vI x2), some (vI x3), some (.ref a4), some (vI x5), some (vI x6), some (vI x7), some (vI x8), some (vI x9), some (vI (x10 + 1)), some (vI (S.1 377 (w32 x11)))], [], hp S, 0, 0)) rfl ?_
      refine mv_goto 235 rfl rfl ?_
      exact F
theorem vc_MD_lengthsBy_272 {q : Nat × (Nat → Int32)} {S S' : ms} {r : Option Value} (x2 x3 x5 x6 x7 x8 x9 x10 x11 : Int) (a1 na1 : Nat) (ha1 : SH a1 = (0, na1, [])) (a4 na4 : Nat) (ha4 : SH a4 = (0, na4, []))
    (F : (0 ≤ w32 (x5 + x9) ∧ w32 (x5 + x9) < (na4 : Nat)) ∧ ∀ S2 : ms, S2 = wI S a4 (w32 (x5 + x9)) x10 → ((¬ w32 x6 = 0) → EV q 299 293 [some (.ref 367), some (.ref a1), some (vI x2), some (vI x3), some (.ref a4), some (vI x5), some (vI x6), some (vI x7), some (vI x8), some (vI x9), some (vI x10), some (vI x11)] [] S2 r S') ∧ ((¬ (¬ w32 x6 = 0)) → ((w32 x10 ≤ w32 x3) → EV q 299 298 [some (.ref 367), some (.ref a1), some (vI x2), some (vI x3), some (.ref a4), some (vI x5), some (vI x6), some (vI x7), some (vI x8), some (vI x9), some (vI x10), some (vI x11)] [vI 0] S2 r S') ∧ ((¬ w32 x10 ≤ w32 x3) → EV q 299 293 [some (.ref 367), some (.ref a1), some (vI x2), some (vI x3), some (.ref a4), some (vI x5), some (vI x6), some (vI x7), some (vI x8), some (vI x9), some (vI x10), some (vI x11)] [] S2 r S'))) : EV q 299 272 [some (.ref 367), some (.ref a1), some (vI x2), some (vI x3), some (.ref a4), some (vI x5), some (vI x6), some (vI x7), some (vI x8), some (vI x9), some (vI x10), some (vI x11)] [] S r S' := by
  unfold EV
  refine ev_bk 3 (S' := (278, [some (.ref 367), some (.ref a1), some (vI x2), some (vI x3), some (.ref a4), some (vI x5), some (vI x6), some (vI x7), some (vI x8), some (vI x9), some (vI x10), some (vI x11)], [vI x9, vI x5, .ref a4], hp S, 0, 0)) rfl ?_
  refine mv_iadd rfl ?_
  refine ev_bk 1 (S' := (281, [some (.ref 367), some (.ref a1), some (vI x2), some (vI x3), some (.ref a4), some (vI x5), some (vI x6), some (vI x7), some (vI x8), some (vI x9), some (vI x10), some (vI x11)], [vI x10, vI (x5 + x9), .ref a4], hp S, 0, 0)) rfl ?_
  obtain ⟨b1, F⟩ := F
  refine mv_ias rfl (ha4) b1 ?_
  have F := F _ rfl
  refine ev_bk 1 (S' := (284, [some (.ref 367), some (.ref a1), some (vI x2), some (vI x3), some (.ref a4), some (vI x5), some (vI x6), some (vI x7), some (vI x8), some (vI x9), some (vI x10), some (vI x11)], [vI x6], hp (wI S a4 (w32 (x5 + x9)) x10), 0, 0)) rfl ?_
  refine mv_if 293 rfl rfl (fun c => ?_) (fun c => ?_)
  · have F := F.1 c
    exact F
  · have F := F.2 c
    refine ev_bk 2 (S' := (290, [some (.ref 367), some (.ref a1), some (vI x2), some (vI x3), some (.ref a4), some (vI x5), some (vI x6), some (vI x7), some (vI x8), some (vI x9), some (vI x10), some (vI x11)], [vI x3, vI x10], hp (wI S a4 (w32 (x5 + x9)) x10), 0, 0)) rfl ?_
    refine mv_icmp 297 rfl rfl (fun c => ?_) (fun c => ?_)
    · have F := F.1 c
      refine ev_bk 1 (S' := (298, [some (.ref 367), some (.ref a1), some (vI x2), some (vI x3), some (.ref a4), some (vI x5), some (vI x6), some (vI x7), some (vI x8), some (vI x9), some (vI x10), some (vI x11)], [vI 0], hp (wI S a4 (w32 (x5 + x9)) x10), 0, 0)) rfl ?_
      exact F
    · have F := F.2 c
      exact F
theorem vc_MD_lengthsBy_293 {q : Nat × (Nat → Int32)} {S S' : ms} {r : Option Value} (x2 x3 x5 x6 x7 x8 x9 x10 x11 : Int) (a1 na1 : Nat) (ha1 : SH a1 = (0, na1, [])) (a4 na4 : Nat) (ha4 : SH a4 = (0, na4, []))
    (F : EV q 299 298 [some (.ref 367), some (.ref a1), some (vI x2), some (vI x3), some (.ref a4), some (vI x5), some (vI x6), some (vI x7), some (vI x8), some (vI x9), some (vI x10), some (vI x11)] [vI 1] S r S') : EV q 299 293 [some (.ref 367), some (.ref a1), some (vI x2), some (vI x3), some (.ref a4), some (vI x5), some (vI x6), some (vI x7), some (vI x8), some (vI x9), some (vI x10), some (vI x11)] [] S r S' := by
  unfold EV
  refine ev_bk 1 (S' := (294, [some (.ref 367), some (.ref a1), some (vI x2), some (vI x3), some (.ref a4), some (vI x5), some (vI x6), some (vI x7), some (vI x8), some (vI x9), some (vI x10), some (vI x11)], [vI 1], hp S, 0, 0)) rfl ?_
  refine mv_goto 298 rfl rfl ?_
  exact F
theorem vc_MD_lengthsBy_298 {q : Nat × (Nat → Int32)} {S S' : ms} {r : Option Value} (x2 x3 x5 x6 x7 x8 x9 x10 x11 y0 : Int) (a1 na1 : Nat) (ha1 : SH a1 = (0, na1, [])) (a4 na4 : Nat) (ha4 : SH a4 = (0, na4, []))
    (F : EV q 299 200 [some (.ref 367), some (.ref a1), some (vI x2), some (vI x3), some (.ref a4), some (vI x5), some (vI y0), some (vI x7), some (vI x8), some (vI (x9 + 1)), none, none] [] S r S') : EV q 299 298 [some (.ref 367), some (.ref a1), some (vI x2), some (vI x3), some (.ref a4), some (vI x5), some (vI x6), some (vI x7), some (vI x8), some (vI x9), some (vI x10), some (vI x11)] [vI y0] S r S' := by
  unfold EV
  refine ev_bk 1 (S' := (300, [some (.ref 367), some (.ref a1), some (vI x2), some (vI x3), some (.ref a4), some (vI x5), some (vI y0), some (vI x7), some (vI x8), some (vI x9), some (vI x10), some (vI x11)], [], hp S, 0, 0)) rfl ?_
  refine mv_inc (lv' := [some (.ref 367), some (.ref a1), some (vI x2), some (vI x3), some (.ref a4), some (vI x5), some (vI y0), some (vI x7), some (vI x8), some (vI (x9 + 1)), some (vI x10), some (vI x11)]) 9 1 rfl rfl rfl rfl ?_
  refine mv_goto 200 rfl rfl ?_
  exact ev_wk (le_s (le_s (le_s (le_s (le_s (le_s (le_s (le_s (le_s (le_s (le_n (le_n le_0)))))))))))) F
theorem vc_MD_lengthsBy_309 {q : Nat × (Nat → Int32)} {S S' : ms} {r : Option Value} (x2 x3 x5 x6 x7 x8 x9 : Int) (a1 na1 : Nat) (ha1 : SH a1 = (0, na1, [])) (a4 na4 : Nat) (ha4 : SH a4 = (0, na4, []))
    (F : ((w32 x2 ≤ w32 x9) → EV q 299 346 [some (.ref 367), some (.ref a1), some (vI x2), some (vI x3), some (.ref a4), some (vI x5), some (vI x6), some (vI x7), some (vI x8), some (vI x9), none, none] [] S r S') ∧ ((¬ w32 x2 ≤ w32 x9) → ((w32 x6 = 0) → EV q 299 346 [some (.ref 367), some (.ref a1), some (vI x2), some (vI x3), some (.ref a4), some (vI x5), some (vI x6), some (vI x7), some (vI x8), some (vI x9), none, none] [] S r S') ∧ ((¬ w32 x6 = 0) → (0 ≤ w32 x9 ∧ w32 x9 < (300 : Nat)) ∧ (0 ≤ w32 x9 ∧ w32 x9 < (300 : Nat)) ∧ ∀ S3 : ms, S3 = wJ S 378 (w32 x9) (Int.tdiv (w64 ((S.2.1 378 (w32 x9)) + 1)) (w64 2)) → EV q 299 309 [some (.ref 367), some (.ref a1), some (vI x2), some (vI x3), some (.ref a4), some (vI x5), some (vI x6), some (vI x7), some (vI x8), some (vI (x9 + 1)), none, none] [] S3 r S'))) : EV q 299 309 [some (.ref 367), some (.ref a1), some (vI x2), some (vI x3), some (.ref a4), some (vI x5), some (vI x6), some (vI x7), some (vI x8), some (vI x9), none, none] [] S r S' := by
  unfold EV
  refine ev_bk 2 (S' := (312, [some (.ref 367), some (.ref a1), some (vI x2), some (vI x3), some (.ref a4), some (vI x5), some (vI x6), some (vI x7), some (vI x8), some (vI x9), none, none], [vI x2, vI x9], hp S, 0, 0)) rfl ?_
  refine mv_icmp 346 rfl rfl (fun c => ?_) (fun c => ?_)
  · have F := F.1 c
    exact F
  · have F := F.2 c
    refine ev_bk 1 (S' := (317, [some (.ref 367), some (.ref a1), some (vI x2), some (vI x3), some (.ref a4), some (vI x5), some (vI x6), some (vI x7), some (vI x8), some (vI x9), none, none], [vI x6], hp S, 0, 0)) rfl ?_
    refine mv_if 346 rfl rfl (fun c => ?_) (fun c => ?_)
    · have F := F.1 c
      exact F
    · have F := F.2 c
      refine ev_bk 1 (S' := (321, [some (.ref 367), some (.ref a1), some (vI x2), some (vI x3), some (.ref a4), some (vI x5), some (vI x6), some (vI x7), some (vI x8), some (vI x9), none, none], [.ref 367], hp S, 0, 0)) rfl ?_
      refine mv_gfR rfl rfl (sh_367) (by decide) rfl ?_
      refine ev_bk 2 (S' := (327, [some (.ref 367), some (.ref a1), some (vI x2), some (vI x3), some (.ref a4), some (vI x5), some (vI x6), some (vI x7), some (vI x8), some (vI x9), none, none], [.ref 367, vI x9, .ref 378], hp S, 0, 0)) rfl ?_
      refine mv_gfR rfl rfl (sh_367) (by decide) rfl ?_
      refine ev_bk 1 (S' := (332, [some (.ref 367), some (.ref a1), some (vI x2), some (vI x3), some (.ref a4), some (vI x5), some (vI x6), some (vI x7), some (vI x8), some (vI x9), none, none], [vI x9, .ref 378, vI x9, .ref 378], hp S, 0, 0)) rfl ?_
      obtain ⟨b1, F⟩ := F
      refine mv_lal rfl (sh_378) b1 ?_
      refine ev_bk 1 (S' := (334, [some (.ref 367), some (.ref a1), some (vI x2), some (vI x3), some (.ref a4), some (vI x5), some (vI x6), some (vI x7), some (vI x8), some (vI x9), none, none], [vL 1, vL (S.2.1 378 (w32 x9)), vI x9, .ref 378], hp S, 0, 0)) rfl ?_
      refine mv_ladd rfl ?_
      refine ev_bk 1 (S' := (338, [some (.ref 367), some (.ref a1), some (vI x2), some (vI x3), some (.ref a4), some (vI x5), some (vI x6), some (vI x7), some (vI x8), some (vI x9), none, none], [vL 2, vL ((S.2.1 378 (w32 x9)) + 1), vI x9, .ref 378], hp S, 0, 0)) rfl ?_
      refine mv_ldiv (by decide) rfl ?_
      obtain ⟨b2, F⟩ := F
      refine mv_las rfl (sh_378) b2 ?_
      have F := F _ rfl
      refine mv_inc (lv' := [some (.ref 367), some (.ref a1), some (vI x2), some (vI x3), some (.ref a4), some (vI x5), some (vI x6), some (vI x7), some (vI x8), some (vI (x9 + 1)), none, none]) 9 1 rfl rfl rfl rfl ?_
      refine mv_goto 309 rfl rfl ?_
      exact F
theorem vc_MD_lengthsBy_346 {q : Nat × (Nat → Int32)} {S S' : ms} {r : Option Value} (x2 x3 x5 x6 x7 x8 x9 : Int) (a1 na1 : Nat) (ha1 : SH a1 = (0, na1, [])) (a4 na4 : Nat) (ha4 : SH a4 = (0, na4, []))
    (F : EV q 299 30 [some (.ref 367), some (.ref a1), some (vI x2), some (vI x3), some (.ref a4), some (vI x5), some (vI x6), none, none, none, none, none] [] S r S') : EV q 299 346 [some (.ref 367), some (.ref a1), some (vI x2), some (vI x3), some (.ref a4), some (vI x5), some (vI x6), some (vI x7), some (vI x8), some (vI x9), none, none] [] S r S' := by
  unfold EV
  refine mv_goto 30 rfl rfl ?_
  exact ev_wk (le_s (le_s (le_s (le_s (le_s (le_s (le_s (le_n (le_n (le_n (le_s (le_s le_0)))))))))))) F
theorem vc_MD_least {q : Nat × (Nat → Int32)} {S S' : ms} {r : Option Value} (x1 x2 : Int)
    (F : EV q 300 5 [some (.ref 367), some (vI x1), some (vI x2), some (vI ((-1))), some (vI 0), none] [] S r S') : EV q 300 0 [some (.ref 367), some (vI x1), some (vI x2), none, none, none] [] S r S' := by
  unfold EV
  refine ev_bk 4 (S' := (5, [some (.ref 367), some (vI x1), some (vI x2), some (vI ((-1))), some (vI 0), none], [], hp S, 0, 0)) rfl ?_
  exact F
theorem vc_MD_least_5 {q : Nat × (Nat → Int32)} {S S' : ms} {r : Option Value} (x1 x2 x3 x4 : Int)
    (F : ((w32 x1 ≤ w32 x4) → r = some (vI x3) ∧ S' = S) ∧ ((¬ w32 x1 ≤ w32 x4) → (0 ≤ w32 x4 ∧ w32 x4 < (700 : Nat)) ∧ ((0 ≤ w32 (S.1 377 (w32 x4))) → EV q 300 43 [some (.ref 367), some (vI x1), some (vI x2), some (vI x3), some (vI x4), none] [] S r S') ∧ ((¬ 0 ≤ w32 (S.1 377 (w32 x4))) → ((w32 x2 ≤ w32 x4) → EV q 300 39 [some (.ref 367), some (vI x1), some (vI x2), some (vI x3), some (vI x4), none] [] S r S') ∧ ((¬ w32 x2 ≤ w32 x4) → (0 ≤ w32 x4 ∧ w32 x4 < (300 : Nat)) ∧ ((w64 (S.2.1 378 (w32 x4)) ≤ w64 0) → EV q 300 43 [some (.ref 367), some (vI x1), some (vI x2), some (vI x3), some (vI x4), none] [] S r S') ∧ ((¬ w64 (S.2.1 378 (w32 x4)) ≤ w64 0) → EV q 300 39 [some (.ref 367), some (vI x1), some (vI x2), some (vI x3), some (vI x4), none] [] S r S'))))) : EV q 300 5 [some (.ref 367), some (vI x1), some (vI x2), some (vI x3), some (vI x4), none] [] S r S' := by
  unfold EV
  refine ev_bk 2 (S' := (8, [some (.ref 367), some (vI x1), some (vI x2), some (vI x3), some (vI x4), none], [vI x1, vI x4], hp S, 0, 0)) rfl ?_
  refine mv_icmp 81 rfl rfl (fun c => ?_) (fun c => ?_)
  · have F := F.1 c
    refine ev_bk 1 (S' := (82, [some (.ref 367), some (vI x1), some (vI x2), some (vI x3), some (vI x4), none], [vI x3], hp S, 0, 0)) rfl ?_
    obtain ⟨rfl, rfl⟩ := F
    exact ev_ret rfl rfl
  · have F := F.2 c
    refine ev_bk 1 (S' := (12, [some (.ref 367), some (vI x1), some (vI x2), some (vI x3), some (vI x4), none], [.ref 367], hp S, 0, 0)) rfl ?_
    refine mv_gfR rfl rfl (sh_367) (by decide) rfl ?_
    refine ev_bk 1 (S' := (17, [some (.ref 367), some (vI x1), some (vI x2), some (vI x3), some (vI x4), none], [vI x4, .ref 377], hp S, 0, 0)) rfl ?_
    obtain ⟨b1, F⟩ := F
    refine mv_ial rfl (sh_377) b1 ?_
    refine mv_if 43 rfl rfl (fun c => ?_) (fun c => ?_)
    · have F := F.1 c
      exact F
    · have F := F.2 c
      refine ev_bk 2 (S' := (24, [some (.ref 367), some (vI x1), some (vI x2), some (vI x3), some (vI x4), none], [vI x2, vI x4], hp S, 0, 0)) rfl ?_
      refine mv_icmp 39 rfl rfl (fun c => ?_) (fun c => ?_)
      · have F := F.1 c
        exact F
      · have F := F.2 c
        refine ev_bk 1 (S' := (28, [some (.ref 367), some (vI x1), some (vI x2), some (vI x3), some (vI x4), none], [.ref 367], hp S, 0, 0)) rfl ?_
        refine mv_gfR rfl rfl (sh_367) (by decide) rfl ?_
        refine ev_bk 1 (S' := (33, [some (.ref 367), some (vI x1), some (vI x2), some (vI x3), some (vI x4), none], [vI x4, .ref 378], hp S, 0, 0)) rfl ?_
        obtain ⟨b2, F⟩ := F
        refine mv_lal rfl (sh_378) b2 ?_
        refine ev_bk 1 (S' := (35, [some (.ref 367), some (vI x1), some (vI x2), some (vI x3), some (vI x4), none], [vL 0, vL (S.2.1 378 (w32 x4))], hp S, 0, 0)) rfl ?_
        refine mv_lif 43 rfl rfl rfl (fun c => ?_) (fun c => ?_)
        · have F := F.1 c
          exact F
        · have F := F.2 c
          exact F
theorem vc_MD_least_39 {q : Nat × (Nat → Int32)} {S S' : ms} {r : Option Value} (x1 x2 x3 x4 : Int)
    (F : EV q 300 44 [some (.ref 367), some (vI x1), some (vI x2), some (vI x3), some (vI x4), none] [vI 1] S r S') : EV q 300 39 [some (.ref 367), some (vI x1), some (vI x2), some (vI x3), some (vI x4), none] [] S r S' := by
  unfold EV
  refine ev_bk 1 (S' := (40, [some (.ref 367), some (vI x1), some (vI x2), some (vI x3), some (vI x4), none], [vI 1], hp S, 0, 0)) rfl ?_
  refine mv_goto 44 rfl rfl ?_
  exact F
theorem vc_MD_least_43 {q : Nat × (Nat → Int32)} {S S' : ms} {r : Option Value} (x1 x2 x3 x4 : Int)
    (F : EV q 300 44 [some (.ref 367), some (vI x1), some (vI x2), some (vI x3), some (vI x4), none] [vI 0] S r S') : EV q 300 43 [some (.ref 367), some (vI x1), some (vI x2), some (vI x3), some (vI x4), none] [] S r S' := by
  unfold EV
  refine ev_bk 1 (S' := (44, [some (.ref 367), some (vI x1), some (vI x2), some (vI x3), some (vI x4), none], [vI 0], hp S, 0, 0)) rfl ?_
  exact F
theorem vc_MD_least_44 {q : Nat × (Nat → Int32)} {S S' : ms} {r : Option Value} (x1 x2 x3 x4 y0 : Int)
    (F : ((w32 y0 = 0) → EV q 300 75 [some (.ref 367), some (vI x1), some (vI x2), some (vI x3), some (vI x4), some (vI y0)] [] S r S') ∧ ((¬ w32 y0 = 0) → ((w32 x3 < 0) → EV q 300 72 [some (.ref 367), some (vI x1), some (vI x2), some (vI x3), some (vI x4), some (vI y0)] [] S r S') ∧ ((¬ w32 x3 < 0) → (0 ≤ w32 x4 ∧ w32 x4 < (700 : Nat)) ∧ (0 ≤ w32 x3 ∧ w32 x3 < (700 : Nat)) ∧ ((w64 (S.2.1 376 (w32 x3)) ≤ w64 (S.2.1 376 (w32 x4))) → EV q 300 75 [some (.ref 367), some (vI x1), some (vI x2), some (vI x3), some (vI x4), some (vI y0)] [] S r S') ∧ ((¬ w64 (S.2.1 376 (w32 x3)) ≤ w64 (S.2.1 376 (w32 x4))) → EV q 300 72 [some (.ref 367), some (vI x1), some (vI x2), some (vI x3), some (vI x4), some (vI y0)] [] S r S')))) : EV q 300 44 [some (.ref 367), some (vI x1), some (vI x2), some (vI x3), some (vI x4), none] [vI y0] S r S' := by
  unfold EV
  refine ev_bk 2 (S' := (48, [some (.ref 367), some (vI x1), some (vI x2), some (vI x3), some (vI x4), some (vI y0)], [vI y0], hp S, 0, 0)) rfl ?_
  refine mv_if 75 rfl rfl (fun c => ?_) (fun c => ?_)
  · have F := F.1 c
    exact F
  · have F := F.2 c
    refine ev_bk 1 (S' := (52, [some (.ref 367), some (vI x1), some (vI x2), some (vI x3), some (vI x4), some (vI y0)], [vI x3], hp S, 0, 0)) rfl ?_
    refine mv_if 72 rfl rfl (fun c => ?_) (fun c => ?_)
    · have F := F.1 c
      exact F
    · have F := F.2 c
      refine ev_bk 1 (S' := (56, [some (.ref 367), some (vI x1), some (vI x2), some (vI x3), some (vI x4), some (vI y0)], [.ref 367], hp S, 0, 0)) rfl ?_
      refine mv_gfR rfl rfl (sh_367) (by decide) rfl ?_
      refine ev_bk 1 (S' := (61, [some (.ref 367), some (vI x1), some (vI x2), some (vI x3), some (vI x4), some (vI y0)], [vI x4, .ref 376], hp S, 0, 0)) rfl ?_
      obtain ⟨b1, F⟩ := F
      refine mv_lal rfl (sh_376) b1 ?_
      refine ev_bk 1 (S' := (63, [some (.ref 367), some (vI x1), some (vI x2), some (vI x3), some (vI x4), some (vI y0)], [.ref 367, vL (S.2.1 376 (w32 x4))], hp S, 0, 0)) rfl ?_
      refine mv_gfR rfl rfl (sh_367) (by decide) rfl ?_
      refine ev_bk 1 (S' := (67, [some (.ref 367), some (vI x1), some (vI x2), some (vI x3), some (vI x4), some (vI y0)], [vI x3, .ref 376, vL (S.2.1 376 (w32 x4))], hp S, 0, 0)) rfl ?_
      obtain ⟨b2, F⟩ := F
      refine mv_lal rfl (sh_376) b2 ?_
      refine mv_lif 75 rfl rfl rfl (fun c => ?_) (fun c => ?_)
      · have F := F.1 c
        exact F
      · have F := F.2 c
        exact F
theorem vc_MD_least_72 {q : Nat × (Nat → Int32)} {S S' : ms} {r : Option Value} (x1 x2 x3 x4 x5 : Int)
    (F : EV q 300 75 [some (.ref 367), some (vI x1), some (vI x2), some (vI x4), some (vI x4), some (vI x5)] [] S r S') : EV q 300 72 [some (.ref 367), some (vI x1), some (vI x2), some (vI x3), some (vI x4), some (vI x5)] [] S r S' := by
  unfold EV
  refine ev_bk 2 (S' := (75, [some (.ref 367), some (vI x1), some (vI x2), some (vI x4), some (vI x4), some (vI x5)], [], hp S, 0, 0)) rfl ?_
  exact F
theorem vc_MD_least_75 {q : Nat × (Nat → Int32)} {S S' : ms} {r : Option Value} (x1 x2 x3 x4 x5 : Int)
    (F : EV q 300 5 [some (.ref 367), some (vI x1), some (vI x2), some (vI x3), some (vI (x4 + 1)), none] [] S r S') : EV q 300 75 [some (.ref 367), some (vI x1), some (vI x2), some (vI x3), some (vI x4), some (vI x5)] [] S r S' := by
  unfold EV
  refine mv_inc (lv' := [some (.ref 367), some (vI x1), some (vI x2), some (vI x3), some (vI (x4 + 1)), some (vI x5)]) 4 1 rfl rfl rfl rfl ?_
  refine mv_goto 5 rfl rfl ?_
  exact ev_wk (le_s (le_s (le_s (le_s (le_s (le_n le_0)))))) F
theorem vc_MD_codes {q : Nat × (Nat → Int32)} {S S' : ms} {r : Option Value} (x1 x2 : Int) (a0 na0 : Nat) (ha0 : SH a0 = (0, na0, [])) (a3 na3 : Nat) (ha3 : SH a3 = (0, na3, []))
    (F : EV q 301 9 [some (.ref a0), some (vI x1), some (vI x2), some (.ref a3), some (vI 0), some (vI 0), some (vI 1), none] [] S r S') : EV q 301 0 [some (.ref a0), some (vI x1), some (vI x2), some (.ref a3), none, none, none, none] [] S r S' := by
  unfold EV
  refine ev_bk 6 (S' := (9, [some (.ref a0), some (vI x1), some (vI x2), some (.ref a3), some (vI 0), some (vI 0), some (vI 1), none], [], hp S, 0, 0)) rfl ?_
  exact F
theorem vc_MD_codes_9 {q : Nat × (Nat → Int32)} {S S' : ms} {r : Option Value} (x1 x2 x4 x5 x6 : Int) (a0 na0 : Nat) (ha0 : SH a0 = (0, na0, [])) (a3 na3 : Nat) (ha3 : SH a3 = (0, na3, []))
    (F : ((21 ≤ w32 x6) → r = some (vI x5) ∧ S' = S) ∧ ((¬ 21 ≤ w32 x6) → EV q 301 25 [some (.ref a0), some (vI x1), some (vI x2), some (.ref a3), some (vI (2 * x4)), some (vI x5), some (vI x6), some (vI 0)] [] S r S')) : EV q 301 9 [some (.ref a0), some (vI x1), some (vI x2), some (.ref a3), some (vI x4), some (vI x5), some (vI x6), none] [] S r S' := by
  unfold EV
  refine ev_bk 2 (S' := (13, [some (.ref a0), some (vI x1), some (vI x2), some (.ref a3), some (vI x4), some (vI x5), some (vI x6), none], [vI 21, vI x6], hp S, 0, 0)) rfl ?_
  refine mv_icmp 77 rfl rfl (fun c => ?_) (fun c => ?_)
  · have F := F.1 c
    refine ev_bk 1 (S' := (79, [some (.ref a0), some (vI x1), some (vI x2), some (.ref a3), some (vI x4), some (vI x5), some (vI x6), none], [vI x5], hp S, 0, 0)) rfl ?_
    obtain ⟨rfl, rfl⟩ := F
    exact ev_ret rfl rfl
  · have F := F.2 c
    refine ev_bk 2 (S' := (19, [some (.ref a0), some (vI x1), some (vI x2), some (.ref a3), some (vI x4), some (vI x5), some (vI x6), none], [vI x4, vI 2], hp S, 0, 0)) rfl ?_
    refine mv_imul rfl ?_
    refine ev_bk 3 (S' := (25, [some (.ref a0), some (vI x1), some (vI x2), some (.ref a3), some (vI (2 * x4)), some (vI x5), some (vI x6), some (vI 0)], [], hp S, 0, 0)) rfl ?_
    exact F
theorem vc_MD_codes_25 {q : Nat × (Nat → Int32)} {S S' : ms} {r : Option Value} (x1 x2 x4 x5 x6 x7 : Int) (a0 na0 : Nat) (ha0 : SH a0 = (0, na0, [])) (a3 na3 : Nat) (ha3 : SH a3 = (0, na3, []))
    (F : ((w32 x2 ≤ w32 x7) → EV q 301 9 [some (.ref a0), some (vI x1), some (vI x2), some (.ref a3), some (vI x4), some (vI x5), some (vI (x6 + 1)), none] [] S r S') ∧ ((¬ w32 x2 ≤ w32 x7) → (0 ≤ w32 (x1 + x7) ∧ w32 (x1 + x7) < (na0 : Nat)) ∧ ((¬ w32 (S.1 a0 (w32 (x1 + x7))) = w32 x6) → EV q 301 65 [some (.ref a0), some (vI x1), some (vI x2), some (.ref a3), some (vI x4), some (vI x5), some (vI x6), some (vI x7)] [] S r S') ∧ ((¬ (¬ w32 (S.1 a0 (w32 (x1 + x7))) = w32 x6)) → (0 ≤ w32 (x1 + x7) ∧ w32 (x1 + x7) < (na3 : Nat)) ∧ ∀ S3 : ms, S3 = wI S a3 (w32 (x1 + x7)) x4 → EV q 301 65 [some (.ref a0), some (vI x1), some (vI x2), some (.ref a3), some (vI (x4 + 1)), some (vI (x5 + (1 * ((2 : Int) ^ ((20 - x6) % 32).toNat)))), some (vI x6), some (vI x7)] [] S3 r S'))) : EV q 301 25 [some (.ref a0), some (vI x1), some (vI x2), some (.ref a3), some (vI x4), some (vI x5), some (vI x6), some (vI x7)] [] S r S' := by
  unfold EV
  refine ev_bk 2 (S' := (28, [some (.ref a0), some (vI x1), some (vI x2), some (.ref a3), some (vI x4), some (vI x5), some (vI x6), some (vI x7)], [vI x2, vI x7], hp S, 0, 0)) rfl ?_
  refine mv_icmp 71 rfl rfl (fun c => ?_) (fun c => ?_)
  · have F := F.1 c
    refine mv_inc (lv' := [some (.ref a0), some (vI x1), some (vI x2), some (.ref a3), some (vI x4), some (vI x5), some (vI (x6 + 1)), some (vI x7)]) 6 1 rfl rfl rfl rfl ?_
    refine mv_goto 9 rfl rfl ?_
    exact ev_wk (le_s (le_s (le_s (le_s (le_s (le_s (le_s (le_n le_0)))))))) F
  · have F := F.2 c
    refine ev_bk 3 (S' := (35, [some (.ref a0), some (vI x1), some (vI x2), some (.ref a3), some (vI x4), some (vI x5), some (vI x6), some (vI x7)], [vI x7, vI x1, .ref a0], hp S, 0, 0)) rfl ?_
    refine mv_iadd rfl ?_
    obtain ⟨b1, F⟩ := F
    refine mv_ial rfl (ha0) b1 ?_
    refine ev_bk 1 (S' := (39, [some (.ref a0), some (vI x1), some (vI x2), some (.ref a3), some (vI x4), some (vI x5), some (vI x6), some (vI x7)], [vI x6, vI (S.1 a0 (w32 (x1 + x7)))], hp S, 0, 0)) rfl ?_
    refine mv_icmp 65 rfl rfl (fun c => ?_) (fun c => ?_)
    · have F := F.1 c
      exact F
    · have F := F.2 c
      refine ev_bk 3 (S' := (46, [some (.ref a0), some (vI x1), some (vI x2), some (.ref a3), some (vI x4), some (vI x5), some (vI x6), some (vI x7)], [vI x7, vI x1, .ref a3], hp S, 0, 0)) rfl ?_
      refine mv_iadd rfl ?_
      refine ev_bk 1 (S' := (49, [some (.ref a0), some (vI x1), some (vI x2), some (.ref a3), some (vI x4), some (vI x5), some (vI x6), some (vI x7)], [vI x4, vI (x1 + x7), .ref a3], hp S, 0, 0)) rfl ?_
      obtain ⟨b2, F⟩ := F
      refine mv_ias rfl (ha3) b2 ?_
      have F := F _ rfl
      refine mv_inc (lv' := [some (.ref a0), some (vI x1), some (vI x2), some (.ref a3), some (vI (x4 + 1)), some (vI x5), some (vI x6), some (vI x7)]) 4 1 rfl rfl rfl rfl ?_
      refine ev_bk 4 (S' := (60, [some (.ref a0), some (vI x1), some (vI x2), some (.ref a3), some (vI (x4 + 1)), some (vI x5), some (vI x6), some (vI x7)], [vI x6, vI 20, vI 1, vI x5], hp (wI S a3 (w32 (x1 + x7)) x4), 0, 0)) rfl ?_
      refine mv_isub rfl ?_
      refine mv_ishl ((2 : Int) ^ ((20 - x6) % 32).toNat) rfl rfl ?_
      refine mv_iadd rfl ?_
      refine ev_bk 1 (S' := (65, [some (.ref a0), some (vI x1), some (vI x2), some (.ref a3), some (vI (x4 + 1)), some (vI (x5 + (1 * ((2 : Int) ^ ((20 - x6) % 32).toNat)))), some (vI x6), some (vI x7)], [], hp (wI S a3 (w32 (x1 + x7)) x4), 0, 0)) rfl ?_
      exact F
theorem vc_MD_codes_65 {q : Nat × (Nat → Int32)} {S S' : ms} {r : Option Value} (x1 x2 x4 x5 x6 x7 : Int) (a0 na0 : Nat) (ha0 : SH a0 = (0, na0, [])) (a3 na3 : Nat) (ha3 : SH a3 = (0, na3, []))
    (F : EV q 301 25 [some (.ref a0), some (vI x1), some (vI x2), some (.ref a3), some (vI x4), some (vI x5), some (vI x6), some (vI (x7 + 1))] [] S r S') : EV q 301 65 [some (.ref a0), some (vI x1), some (vI x2), some (.ref a3), some (vI x4), some (vI x5), some (vI x6), some (vI x7)] [] S r S' := by
  unfold EV
  refine mv_inc (lv' := [some (.ref a0), some (vI x1), some (vI x2), some (.ref a3), some (vI x4), some (vI x5), some (vI x6), some (vI (x7 + 1))]) 7 1 rfl rfl rfl rfl ?_
  refine mv_goto 25 rfl rfl ?_
  exact F
theorem vc_MD_tellLengths {q : Nat × (Nat → Int32)} {S S' : ms} {r : Option Value} (x1 : Int)
    (F : ∀ S1 : ms, S1 = wI S 367 55 0 → EV q 302 7 [some (.ref 367), some (vI x1), some (vI 0), none, none, none] [] S1 r S') : EV q 302 0 [some (.ref 367), some (vI x1), none, none, none, none] [] S r S' := by
  unfold EV
  refine ev_bk 2 (S' := (2, [some (.ref 367), some (vI x1), none, none, none, none], [vI 0, .ref 367], hp S, 0, 0)) rfl ?_
  refine mv_pfI rfl rfl (sh_367) (by decide) rfl rfl ?_
  have F := F _ rfl
  refine ev_bk 2 (S' := (7, [some (.ref 367), some (vI x1), some (vI 0), none, none, none], [], hp (wI S 367 55 0), 0, 0)) rfl ?_
  exact F
theorem vc_MD_tellLengths_7 {q : Nat × (Nat → Int32)} {S S' : ms} {r : Option Value} (x1 x2 : Int)
    (F : ((20 ≤ w32 x2) → EV q 302 28 [some (.ref 367), some (vI x1), some (vI 0), none, none, none] [] S r S') ∧ ((¬ 20 ≤ w32 x2) → (0 ≤ w32 x2 ∧ w32 x2 < (20 : Nat)) ∧ ∀ S2 : ms, S2 = wI S 400 (w32 x2) 0 → EV q 302 7 [some (.ref 367), some (vI x1), some (vI (x2 + 1)), none, none, none] [] S2 r S')) : EV q 302 7 [some (.ref 367), some (vI x1), some (vI x2), none, none, none] [] S r S' := by
  unfold EV
  refine ev_bk 2 (S' := (10, [some (.ref 367), some (vI x1), some (vI x2), none, none, none], [vI 20, vI x2], hp S, 0, 0)) rfl ?_
  refine mv_icmp 26 rfl rfl (fun c => ?_) (fun c => ?_)
  · have F := F.1 c
    refine ev_bk 2 (S' := (28, [some (.ref 367), some (vI x1), some (vI 0), none, none, none], [], hp S, 0, 0)) rfl ?_
    exact F
  · have F := F.2 c
    refine ev_bk 1 (S' := (14, [some (.ref 367), some (vI x1), some (vI x2), none, none, none], [.ref 367], hp S, 0, 0)) rfl ?_
    refine mv_gfR rfl rfl (sh_367) (by decide) rfl ?_
    refine ev_bk 2 (S' := (19, [some (.ref 367), some (vI x1), some (vI x2), none, none, none], [vI 0, vI x2, .ref 400], hp S, 0, 0)) rfl ?_
    obtain ⟨b1, F⟩ := F
    refine mv_ias rfl (sh_400) b1 ?_
    have F := F _ rfl
    refine mv_inc (lv' := [some (.ref 367), some (vI x1), some (vI (x2 + 1)), none, none, none]) 2 1 rfl rfl rfl rfl ?_
    refine mv_goto 7 rfl rfl ?_
    exact F
theorem vc_MD_tellLengths_28 {q : Nat × (Nat → Int32)} {S S' : ms} {r : Option Value} (x1 x2 : Int)
    (F : ((w32 x1 ≤ w32 x2) → r = none ∧ S' = S) ∧ ((¬ w32 x1 ≤ w32 x2) → (0 ≤ w32 x2 ∧ w32 x2 < (330 : Nat)) ∧ EV q 302 43 [some (.ref 367), some (vI x1), some (vI x2), some (vI (S.1 401 (w32 x2))), some (vI 1), none] [] S r S')) : EV q 302 28 [some (.ref 367), some (vI x1), some (vI x2), none, none, none] [] S r S' := by
  unfold EV
  refine ev_bk 2 (S' := (30, [some (.ref 367), some (vI x1), some (vI x2), none, none, none], [vI x1, vI x2], hp S, 0, 0)) rfl ?_
  refine mv_icmp 210 rfl rfl (fun c => ?_) (fun c => ?_)
  · have F := F.1 c
    obtain ⟨rfl, rfl⟩ := F
    exact ev_ret rfl rfl
  · have F := F.2 c
    refine ev_bk 1 (S' := (34, [some (.ref 367), some (vI x1), some (vI x2), none, none, none], [.ref 367], hp S, 0, 0)) rfl ?_
    refine mv_gfR rfl rfl (sh_367) (by decide) rfl ?_
    refine ev_bk 1 (S' := (38, [some (.ref 367), some (vI x1), some (vI x2), none, none, none], [vI x2, .ref 401], hp S, 0, 0)) rfl ?_
    obtain ⟨b1, F⟩ := F
    refine mv_ial rfl (sh_401) b1 ?_
    refine ev_bk 3 (S' := (43, [some (.ref 367), some (vI x1), some (vI x2), some (vI (S.1 401 (w32 x2))), some (vI 1), none], [], hp S, 0, 0)) rfl ?_
    exact F
theorem vc_MD_tellLengths_43 {q : Nat × (Nat → Int32)} {S S' : ms} {r : Option Value} (x1 x2 x3 x4 : Int)
    (F : ((w32 x1 ≤ w32 (x2 + x4)) → EV q 302 78 [some (.ref 367), some (vI x1), some (vI x2), some (vI x3), some (vI x4), none] [] S r S') ∧ ((¬ w32 x1 ≤ w32 (x2 + x4)) → ((138 ≤ w32 x4) → EV q 302 78 [some (.ref 367), some (vI x1), some (vI x2), some (vI x3), some (vI x4), none] [] S r S') ∧ ((¬ 138 ≤ w32 x4) → (0 ≤ w32 (x2 + x4) ∧ w32 (x2 + x4) < (330 : Nat)) ∧ ((¬ w32 (S.1 401 (w32 (x2 + x4))) = w32 x3) → EV q 302 78 [some (.ref 367), some (vI x1), some (vI x2), some (vI x3), some (vI x4), none] [] S r S') ∧ ((¬ (¬ w32 (S.1 401 (w32 (x2 + x4))) = w32 x3)) → EV q 302 43 [some (.ref 367), some (vI x1), some (vI x2), some (vI x3), some (vI (x4 + 1)), none] [] S r S')))) : EV q 302 43 [some (.ref 367), some (vI x1), some (vI x2), some (vI x3), some (vI x4), none] [] S r S' := by
  unfold EV
  refine ev_bk 2 (S' := (46, [some (.ref 367), some (vI x1), some (vI x2), some (vI x3), some (vI x4), none], [vI x4, vI x2], hp S, 0, 0)) rfl ?_
  refine mv_iadd rfl ?_
  refine ev_bk 1 (S' := (48, [some (.ref 367), some (vI x1), some (vI x2), some (vI x3), some (vI x4), none], [vI x1, vI (x2 + x4)], hp S, 0, 0)) rfl ?_
  refine mv_icmp 78 rfl rfl (fun c => ?_) (fun c => ?_)
  · have F := F.1 c
    exact F
  · have F := F.2 c
    refine ev_bk 2 (S' := (56, [some (.ref 367), some (vI x1), some (vI x2), some (vI x3), some (vI x4), none], [vI 138, vI x4], hp S, 0, 0)) rfl ?_
    refine mv_icmp 78 rfl rfl (fun c => ?_) (fun c => ?_)
    · have F := F.1 c
      exact F
    · have F := F.2 c
      refine ev_bk 1 (S' := (60, [some (.ref 367), some (vI x1), some (vI x2), some (vI x3), some (vI x4), none], [.ref 367], hp S, 0, 0)) rfl ?_
      refine mv_gfR rfl rfl (sh_367) (by decide) rfl ?_
      refine ev_bk 2 (S' := (66, [some (.ref 367), some (vI x1), some (vI x2), some (vI x3), some (vI x4), none], [vI x4, vI x2, .ref 401], hp S, 0, 0)) rfl ?_
      refine mv_iadd rfl ?_
      obtain ⟨b1, F⟩ := F
      refine mv_ial rfl (sh_401) b1 ?_
      refine ev_bk 1 (S' := (69, [some (.ref 367), some (vI x1), some (vI x2), some (vI x3), some (vI x4), none], [vI x3, vI (S.1 401 (w32 (x2 + x4)))], hp S, 0, 0)) rfl ?_
      refine mv_icmp 78 rfl rfl (fun c => ?_) (fun c => ?_)
      · have F := F.1 c
        exact F
      · have F := F.2 c
        refine mv_inc (lv' := [some (.ref 367), some (vI x1), some (vI x2), some (vI x3), some (vI (x4 + 1)), none]) 4 1 rfl rfl rfl rfl ?_
        refine mv_goto 43 rfl rfl ?_
        exact F
theorem vc_MD_tellLengths_78 {q : Nat × (Nat → Int32)} {S S' : ms} {r : Option Value} (x1 x2 x3 x4 : Int)
    (F : ((w32 x2 ≤ 0) → EV q 302 98 [some (.ref 367), some (vI x1), some (vI x2), some (vI x3), some (vI x4), none] [] S r S') ∧ ((¬ w32 x2 ≤ 0) → (0 ≤ w32 (x2 - 1) ∧ w32 (x2 - 1) < (330 : Nat)) ∧ ((¬ w32 (S.1 401 (w32 (x2 - 1))) = w32 x3) → EV q 302 98 [some (.ref 367), some (vI x1), some (vI x2), some (vI x3), some (vI x4), none] [] S r S') ∧ ((¬ (¬ w32 (S.1 401 (w32 (x2 - 1))) = w32 x3)) → EV q 302 99 [some (.ref 367), some (vI x1), some (vI x2), some (vI x3), some (vI x4), none] [vI 1] S r S'))) : EV q 302 78 [some (.ref 367), some (vI x1), some (vI x2), some (vI x3), some (vI x4), none] [] S r S' := by
  unfold EV
  refine ev_bk 1 (S' := (79, [some (.ref 367), some (vI x1), some (vI x2), some (vI x3), some (vI x4), none], [vI x2], hp S, 0, 0)) rfl ?_
  refine mv_if 98 rfl rfl (fun c => ?_) (fun c => ?_)
  · have F := F.1 c
    exact F
  · have F := F.2 c
    refine ev_bk 1 (S' := (83, [some (.ref 367), some (vI x1), some (vI x2), some (vI x3), some (vI x4), none], [.ref 367], hp S, 0, 0)) rfl ?_
    refine mv_gfR rfl rfl (sh_367) (by decide) rfl ?_
    refine ev_bk 2 (S' := (88, [some (.ref 367), some (vI x1), some (vI x2), some (vI x3), some (vI x4), none], [vI 1, vI x2, .ref 401], hp S, 0, 0)) rfl ?_
    refine mv_isub rfl ?_
    obtain ⟨b1, F⟩ := F
    refine mv_ial rfl (sh_401) b1 ?_
    refine ev_bk 1 (S' := (91, [some (.ref 367), some (vI x1), some (vI x2), some (vI x3), some (vI x4), none], [vI x3, vI (S.1 401 (w32 (x2 - 1)))], hp S, 0, 0)) rfl ?_
    refine mv_icmp 98 rfl rfl (fun c => ?_) (fun c => ?_)
    · have F := F.1 c
      exact F
    · have F := F.2 c
      refine ev_bk 1 (S' := (95, [some (.ref 367), some (vI x1), some (vI x2), some (vI x3), some (vI x4), none], [vI 1], hp S, 0, 0)) rfl ?_
      refine mv_goto 99 rfl rfl ?_
      exact F
theorem vc_MD_tellLengths_98 {q : Nat × (Nat → Int32)} {S S' : ms} {r : Option Value} (x1 x2 x3 x4 : Int)
    (F : EV q 302 99 [some (.ref 367), some (vI x1), some (vI x2), some (vI x3), some (vI x4), none] [vI 0] S r S') : EV q 302 98 [some (.ref 367), some (vI x1), some (vI x2), some (vI x3), some (vI x4), none] [] S r S' := by
  unfold EV
  refine ev_bk 1 (S' := (99, [some (.ref 367), some (vI x1), some (vI x2), some (vI x3), some (vI x4), none], [vI 0], hp S, 0, 0)) rfl ?_
  exact F
theorem vc_MD_tellLengths_99 {q : Nat × (Nat → Int32)} {S S' : ms} {r : Option Value} (x1 x2 x3 x4 y0 : Int)
    (F : ((¬ w32 x3 = 0) → EV q 302 126 [some (.ref 367), some (vI x1), some (vI x2), some (vI x3), some (vI x4), some (vI y0)] [] S r S') ∧ ((¬ (¬ w32 x3 = 0)) → ((w32 x4 < 11) → EV q 302 126 [some (.ref 367), some (vI x1), some (vI x2), some (vI x3), some (vI x4), some (vI y0)] [] S r S') ∧ ((¬ w32 x4 < 11) → ∃ (S1 : ms), EV q 303 0 [some (.ref 367), some (vI 18), some (vI (x4 - 11))] [] S none S1 ∧ EV q 302 202 [some (.ref 367), some (vI x1), some (vI x2), some (vI x3), some (vI x4), some (vI y0)] [] S1 r S'))) : EV q 302 99 [some (.ref 367), some (vI x1), some (vI x2), some (vI x3), some (vI x4), none] [vI y0] S r S' := by
  unfold EV
  refine ev_bk 2 (S' := (102, [some (.ref 367), some (vI x1), some (vI x2), some (vI x3), some (vI x4), some (vI y0)], [vI x3], hp S, 0, 0)) rfl ?_
  refine mv_if 126 rfl rfl (fun c => ?_) (fun c => ?_)
  · have F := F.1 c
    exact F
  · have F := F.2 c
    refine ev_bk 2 (S' := (109, [some (.ref 367), some (vI x1), some (vI x2), some (vI x3), some (vI x4), some (vI y0)], [vI 11, vI x4], hp S, 0, 0)) rfl ?_
    refine mv_icmp 126 rfl rfl (fun c => ?_) (fun c => ?_)
    · have F := F.1 c
      exact F
    · have F := F.2 c
      refine ev_bk 4 (S' := (119, [some (.ref 367), some (vI x1), some (vI x2), some (vI x3), some (vI x4), some (vI y0)], [vI 11, vI x4, vI 18, .ref 367], hp S, 0, 0)) rfl ?_
      refine mv_isub rfl ?_
      obtain ⟨S1, e2, F⟩ := F
      refine mv_calv (as := [vI 18, vI (x4 - 11)]) (rest := []) e2 (sh_367) rfl rfl rfl ⟨rfl, rfl⟩ rfl rfl rfl rfl rfl ?_
      refine mv_goto 202 rfl rfl ?_
      exact F
theorem vc_MD_tellLengths_126 {q : Nat × (Nat → Int32)} {S S' : ms} {r : Option Value} (x1 x2 x3 x4 x5 : Int)
    (F : ((¬ w32 x3 = 0) → EV q 302 149 [some (.ref 367), some (vI x1), some (vI x2), some (vI x3), some (vI x4), some (vI x5)] [] S r S') ∧ ((¬ (¬ w32 x3 = 0)) → ((w32 x4 < 3) → EV q 302 149 [some (.ref 367), some (vI x1), some (vI x2), some (vI x3), some (vI x4), some (vI x5)] [] S r S') ∧ ((¬ w32 x4 < 3) → ∃ (S1 : ms), EV q 303 0 [some (.ref 367), some (vI 17), some (vI (x4 - 3))] [] S none S1 ∧ EV q 302 202 [some (.ref 367), some (vI x1), some (vI x2), some (vI x3), some (vI x4), some (vI x5)] [] S1 r S'))) : EV q 302 126 [some (.ref 367), some (vI x1), some (vI x2), some (vI x3), some (vI x4), some (vI x5)] [] S r S' := by
  unfold EV
  refine ev_bk 1 (S' := (127, [some (.ref 367), some (vI x1), some (vI x2), some (vI x3), some (vI x4), some (vI x5)], [vI x3], hp S, 0, 0)) rfl ?_
  refine mv_if 149 rfl rfl (fun c => ?_) (fun c => ?_)
  · have F := F.1 c
    exact F
  · have F := F.2 c
    refine ev_bk 2 (S' := (133, [some (.ref 367), some (vI x1), some (vI x2), some (vI x3), some (vI x4), some (vI x5)], [vI 3, vI x4], hp S, 0, 0)) rfl ?_
    refine mv_icmp 149 rfl rfl (fun c => ?_) (fun c => ?_)
    · have F := F.1 c
      exact F
    · have F := F.2 c
      refine ev_bk 4 (S' := (142, [some (.ref 367), some (vI x1), some (vI x2), some (vI x3), some (vI x4), some (vI x5)], [vI 3, vI x4, vI 17, .ref 367], hp S, 0, 0)) rfl ?_
      refine mv_isub rfl ?_
      obtain ⟨S1, e2, F⟩ := F
      refine mv_calv (as := [vI 17, vI (x4 - 3)]) (rest := []) e2 (sh_367) rfl rfl rfl ⟨rfl, rfl⟩ rfl rfl rfl rfl rfl ?_
      refine mv_goto 202 rfl rfl ?_
      exact F
theorem vc_MD_tellLengths_149 {q : Nat × (Nat → Int32)} {S S' : ms} {r : Option Value} (x1 x2 x3 x4 x5 : Int)
    (F : ((w32 x3 = 0) → EV q 302 193 [some (.ref 367), some (vI x1), some (vI x2), some (vI x3), some (vI x4), some (vI x5)] [] S r S') ∧ ((¬ w32 x3 = 0) → ((w32 x5 = 0) → EV q 302 193 [some (.ref 367), some (vI x1), some (vI x2), some (vI x3), some (vI x4), some (vI x5)] [] S r S') ∧ ((¬ w32 x5 = 0) → ((w32 x4 < 3) → EV q 302 193 [some (.ref 367), some (vI x1), some (vI x2), some (vI x3), some (vI x4), some (vI x5)] [] S r S') ∧ ((¬ w32 x4 < 3) → ((w32 x4 ≤ 6) → EV q 302 178 [some (.ref 367), some (vI x1), some (vI x2), some (vI x3), some (vI x4), some (vI x5)] [vI x4] S r S') ∧ ((¬ w32 x4 ≤ 6) → EV q 302 178 [some (.ref 367), some (vI x1), some (vI x2), some (vI x3), some (vI x4), some (vI x5)] [vI 6] S r S'))))) : EV q 302 149 [some (.ref 367), some (vI x1), some (vI x2), some (vI x3), some (vI x4), some (vI x5)] [] S r S' := by
  unfold EV
  refine ev_bk 1 (S' := (150, [some (.ref 367), some (vI x1), some (vI x2), some (vI x3), some (vI x4), some (vI x5)], [vI x3], hp S, 0, 0)) rfl ?_
  refine mv_if 193 rfl rfl (fun c => ?_) (fun c => ?_)
  · have F := F.1 c
    exact F
  · have F := F.2 c
    refine ev_bk 1 (S' := (155, [some (.ref 367), some (vI x1), some (vI x2), some (vI x3), some (vI x4), some (vI x5)], [vI x5], hp S, 0, 0)) rfl ?_
    refine mv_if 193 rfl rfl (fun c => ?_) (fun c => ?_)
    · have F := F.1 c
      exact F
    · have F := F.2 c
      refine ev_bk 2 (S' := (161, [some (.ref 367), some (vI x1), some (vI x2), some (vI x3), some (vI x4), some (vI x5)], [vI 3, vI x4], hp S, 0, 0)) rfl ?_
      refine mv_icmp 193 rfl rfl (fun c => ?_) (fun c => ?_)
      · have F := F.1 c
        exact F
      · have F := F.2 c
        refine ev_bk 2 (S' := (168, [some (.ref 367), some (vI x1), some (vI x2), some (vI x3), some (vI x4), some (vI x5)], [vI 6, vI x4], hp S, 0, 0)) rfl ?_
        refine mv_icmp 176 rfl rfl (fun c => ?_) (fun c => ?_)
        · have F := F.1 c
          refine ev_bk 1 (S' := (178, [some (.ref 367), some (vI x1), some (vI x2), some (vI x3), some (vI x4), some (vI x5)], [vI x4], hp S, 0, 0)) rfl ?_
          exact F
        · have F := F.2 c
          refine ev_bk 1 (S' := (173, [some (.ref 367), some (vI x1), some (vI x2), some (vI x3), some (vI x4), some (vI x5)], [vI 6], hp S, 0, 0)) rfl ?_
          refine mv_goto 178 rfl rfl ?_
          exact F
theorem vc_MD_tellLengths_178 {q : Nat × (Nat → Int32)} {S S' : ms} {r : Option Value} (x1 x2 x3 x4 x5 y0 : Int)
    (F : ∃ (S1 : ms), EV q 303 0 [some (.ref 367), some (vI 16), some (vI (y0 - 3))] [] S none S1 ∧ EV q 302 202 [some (.ref 367), some (vI x1), some (vI x2), some (vI x3), some (vI y0), some (vI x5)] [] S1 r S') : EV q 302 178 [some (.ref 367), some (vI x1), some (vI x2), some (vI x3), some (vI x4), some (vI x5)] [vI y0] S r S' := by
  unfold EV
  refine ev_bk 5 (S' := (186, [some (.ref 367), some (vI x1), some (vI x2), some (vI x3), some (vI y0), some (vI x5)], [vI 3, vI y0, vI 16, .ref 367], hp S, 0, 0)) rfl ?_
  refine mv_isub rfl ?_
  obtain ⟨S1, e2, F⟩ := F
  refine mv_calv (as := [vI 16, vI (y0 - 3)]) (rest := []) e2 (sh_367) rfl rfl rfl ⟨rfl, rfl⟩ rfl rfl rfl rfl rfl ?_
  refine mv_goto 202 rfl rfl ?_
  exact F
theorem vc_MD_tellLengths_193 {q : Nat × (Nat → Int32)} {S S' : ms} {r : Option Value} (x1 x2 x3 x4 x5 : Int)
    (F : ∃ (S1 : ms), EV q 303 0 [some (.ref 367), some (vI x3), some (vI 0)] [] S none S1 ∧ EV q 302 202 [some (.ref 367), some (vI x1), some (vI x2), some (vI x3), some (vI 1), some (vI x5)] [] S1 r S') : EV q 302 193 [some (.ref 367), some (vI x1), some (vI x2), some (vI x3), some (vI x4), some (vI x5)] [] S r S' := by
  unfold EV
  refine ev_bk 3 (S' := (196, [some (.ref 367), some (vI x1), some (vI x2), some (vI x3), some (vI x4), some (vI x5)], [vI 0, vI x3, .ref 367], hp S, 0, 0)) rfl ?_
  obtain ⟨S1, e2, F⟩ := F
  refine mv_calv (as := [vI x3, vI 0]) (rest := []) e2 (sh_367) rfl rfl rfl ⟨rfl, rfl⟩ rfl rfl rfl rfl rfl ?_
  refine ev_bk 2 (S' := (202, [some (.ref 367), some (vI x1), some (vI x2), some (vI x3), some (vI 1), some (vI x5)], [], hp S1, 0, 0)) rfl ?_
  exact F
theorem vc_MD_tellLengths_202 {q : Nat × (Nat → Int32)} {S S' : ms} {r : Option Value} (x1 x2 x3 x4 x5 : Int)
    (F : EV q 302 28 [some (.ref 367), some (vI x1), some (vI (x2 + x4)), none, none, none] [] S r S') : EV q 302 202 [some (.ref 367), some (vI x1), some (vI x2), some (vI x3), some (vI x4), some (vI x5)] [] S r S' := by
  unfold EV
  refine ev_bk 2 (S' := (205, [some (.ref 367), some (vI x1), some (vI x2), some (vI x3), some (vI x4), some (vI x5)], [vI x4, vI x2], hp S, 0, 0)) rfl ?_
  refine mv_iadd rfl ?_
  refine ev_bk 1 (S' := (207, [some (.ref 367), some (vI x1), some (vI (x2 + x4)), some (vI x3), some (vI x4), some (vI x5)], [], hp S, 0, 0)) rfl ?_
  refine mv_goto 28 rfl rfl ?_
  exact ev_wk (le_s (le_s (le_s (le_n (le_n (le_n le_0)))))) F
theorem vc_MD_tell {q : Nat × (Nat → Int32)} {S S' : ms} {r : Option Value} (x1 x2 : Int)
    (F : (0 ≤ w32 (S.1 367 55) ∧ w32 (S.1 367 55) < (330 : Nat)) ∧ ∀ S2 : ms, S2 = wI S 402 (w32 (S.1 367 55)) x1 → (0 ≤ w32 (S2.1 367 55) ∧ w32 (S2.1 367 55) < (330 : Nat)) ∧ ∀ S4 : ms, S4 = wI S2 403 (w32 (S2.1 367 55)) x2 → ∀ S5 : ms, S5 = wI S4 367 55 (S4.1 367 55 + 1) → (0 ≤ w32 x1 ∧ w32 x1 < (20 : Nat)) ∧ (0 ≤ w32 x1 ∧ w32 x1 < (20 : Nat)) ∧ ∀ S8 : ms, S8 = wI S5 400 (w32 x1) ((S5.1 400 (w32 x1)) + 1) → r = none ∧ S' = S8) : EV q 303 0 [some (.ref 367), some (vI x1), some (vI x2)] [] S r S' := by
  unfold EV
  refine ev_bk 1 (S' := (1, [some (.ref 367), some (vI x1), some (vI x2)], [.ref 367], hp S, 0, 0)) rfl ?_
  refine mv_gfR rfl rfl (sh_367) (by decide) rfl ?_
  refine ev_bk 1 (S' := (5, [some (.ref 367), some (vI x1), some (vI x2)], [.ref 367, .ref 402], hp S, 0, 0)) rfl ?_
  refine mv_gfI rfl rfl (sh_367) (by decide) rfl ?_
  refine ev_bk 1 (S' := (9, [some (.ref 367), some (vI x1), some (vI x2)], [vI x1, vI (S.1 367 55), .ref 402], hp S, 0, 0)) rfl ?_
  obtain ⟨b1, F⟩ := F
  refine mv_ias rfl (sh_402) b1 ?_
  have F := F _ rfl
  refine ev_bk 1 (S' := (11, [some (.ref 367), some (vI x1), some (vI x2)], [.ref 367], hp (wI S 402 (w32 (S.1 367 55)) x1), 0, 0)) rfl ?_
  refine mv_gfR rfl rfl (sh_367) (by decide) rfl ?_
  refine ev_bk 1 (S' := (15, [some (.ref 367), some (vI x1), some (vI x2)], [.ref 367, .ref 403], hp (wI S 402 (w32 (S.1 367 55)) x1), 0, 0)) rfl ?_
  refine mv_gfI rfl rfl (sh_367) (by decide) rfl ?_
  refine ev_bk 1 (S' := (19, [some (.ref 367), some (vI x1), some (vI x2)], [vI x2, vI ((wI S 402 (w32 (S.1 367 55)) x1).1 367 55), .ref 403], hp (wI S 402 (w32 (S.1 367 55)) x1), 0, 0)) rfl ?_
  obtain ⟨b3, F⟩ := F
  refine mv_ias rfl (sh_403) b3 ?_
  have F := F _ rfl
  refine ev_bk 2 (S' := (22, [some (.ref 367), some (vI x1), some (vI x2)], [.ref 367, .ref 367], hp (wI (wI S 402 (w32 (S.1 367 55)) x1) 403 (w32 ((wI S 402 (w32 (S.1 367 55)) x1).1 367 55)) x2), 0, 0)) rfl ?_
  refine mv_gfI rfl rfl (sh_367) (by decide) rfl ?_
  refine ev_bk 1 (S' := (26, [some (.ref 367), some (vI x1), some (vI x2)], [vI 1, vI ((wI (wI S 402 (w32 (S.1 367 55)) x1) 403 (w32 ((wI S 402 (w32 (S.1 367 55)) x1).1 367 55)) x2).1 367 55), .ref 367], hp (wI (wI S 402 (w32 (S.1 367 55)) x1) 403 (w32 ((wI S 402 (w32 (S.1 367 55)) x1).1 367 55)) x2), 0, 0)) rfl ?_
  refine mv_iadd rfl ?_
  refine mv_pfI rfl rfl (sh_367) (by decide) rfl rfl ?_
  have F := F _ rfl
  refine ev_bk 1 (S' := (31, [some (.ref 367), some (vI x1), some (vI x2)], [.ref 367], hp (wI (wI (wI S 402 (w32 (S.1 367 55)) x1) 403 (w32 ((wI S 402 (w32 (S.1 367 55)) x1).1 367 55)) x2) 367 55 ((wI (wI S 402 (w32 (S.1 367 55)) x1) 403 (w32 ((wI S 402 (w32 (S.1 367 55)) x1).1 367 55)) x2).1 367 55 + 1)), 0, 0)) rfl ?_
  refine mv_gfR rfl rfl (sh_367) (by decide) rfl ?_
  refine ev_bk 2 (S' := (36, [some (.ref 367), some (vI x1), some (vI x2)], [vI x1, .ref 400, vI x1, .ref 400], hp (wI (wI (wI S 402 (w32 (S.1 367 55)) x1) 403 (w32 ((wI S 402 (w32 (S.1 367 55)) x1).1 367 55)) x2) 367 55 ((wI (wI S 402 (w32 (S.1 367 55)) x1) 403 (w32 ((wI S 402 (w32 (S.1 367 55)) x1).1 367 55)) x2).1 367 55 + 1)), 0, 0)) rfl ?_
  obtain ⟨b6, F⟩ := F
  refine mv_ial rfl (sh_400) b6 ?_
  refine ev_bk 1 (S' := (38, [some (.ref 367), some (vI x1), some (vI x2)], [vI 1, vI ((wI (wI (wI S 402 (w32 (S.1 367 55)) x1) 403 (w32 ((wI S 402 (w32 (S.1 367 55)) x1).1 367 55)) x2) 367 55 ((wI (wI S 402 (w32 (S.1 367 55)) x1) 403 (w32 ((wI S 402 (w32 (S.1 367 55)) x1).1 367 55)) x2).1 367 55 + 1)).1 400 (w32 x1)), vI x1, .ref 400], hp (wI (wI (wI S 402 (w32 (S.1 367 55)) x1) 403 (w32 ((wI S 402 (w32 (S.1 367 55)) x1).1 367 55)) x2) 367 55 ((wI (wI S 402 (w32 (S.1 367 55)) x1) 403 (w32 ((wI S 402 (w32 (S.1 367 55)) x1).1 367 55)) x2).1 367 55 + 1)), 0, 0)) rfl ?_
  refine mv_iadd rfl ?_
  obtain ⟨b7, F⟩ := F
  refine mv_ias rfl (sh_400) b7 ?_
  have F := F _ rfl
  obtain ⟨rfl, rfl⟩ := F
  exact ev_ret rfl rfl
theorem vc_MD_codeOf {q : Nat × (Nat → Int32)} {S S' : ms} {r : Option Value} (x1 x2 : Int)
    (F : EV q 304 4 [some (.ref 367), some (vI x1), some (vI x2), some (vI (x2 - 1))] [] S r S') : EV q 304 0 [some (.ref 367), some (vI x1), some (vI x2), none] [] S r S' := by
  unfold EV
  refine ev_bk 2 (S' := (2, [some (.ref 367), some (vI x1), some (vI x2), none], [vI 1, vI x2], hp S, 0, 0)) rfl ?_
  refine mv_isub rfl ?_
  refine ev_bk 1 (S' := (4, [some (.ref 367), some (vI x1), some (vI x2), some (vI (x2 - 1))], [], hp S, 0, 0)) rfl ?_
  exact F
theorem vc_MD_codeOf_4 {q : Nat × (Nat → Int32)} {S S' : ms} {r : Option Value} (x1 x2 x3 : Int)
    (F : ((w32 x3 < 0) → r = none ∧ S' = S) ∧ ((¬ w32 x3 < 0) → ∃ (S1 : ms), EV q 285 0 [some (.ref 367), some (vI ((w32 x1 / ((2 : Int) ^ (x3 % 32).toNat)) % 2))] [] S none S1 ∧ EV q 304 4 [some (.ref 367), some (vI x1), some (vI x2), some (vI (x3 - 1))] [] S1 r S')) : EV q 304 4 [some (.ref 367), some (vI x1), some (vI x2), some (vI x3)] [] S r S' := by
  unfold EV
  refine ev_bk 1 (S' := (5, [some (.ref 367), some (vI x1), some (vI x2), some (vI x3)], [vI x3], hp S, 0, 0)) rfl ?_
  refine mv_if 23 rfl rfl (fun c => ?_) (fun c => ?_)
  · have F := F.1 c
    obtain ⟨rfl, rfl⟩ := F
    exact ev_ret rfl rfl
  · have F := F.2 c
    refine ev_bk 3 (S' := (11, [some (.ref 367), some (vI x1), some (vI x2), some (vI x3)], [vI x3, vI x1, .ref 367], hp S, 0, 0)) rfl ?_
    refine mv_ishr ((2 : Int) ^ (x3 % 32).toNat) rfl rfl ?_
    refine ev_bk 1 (S' := (13, [some (.ref 367), some (vI x1), some (vI x2), some (vI x3)], [vI 1, vI (w32 x1 / ((2 : Int) ^ (x3 % 32).toNat)), .ref 367], hp S, 0, 0)) rfl ?_
    refine mv_iandm 2 1 (by decide) rfl rfl rfl ?_
    obtain ⟨S1, e2, F⟩ := F
    refine mv_calv (as := [vI ((w32 x1 / ((2 : Int) ^ (x3 % 32).toNat)) % 2)]) (rest := []) e2 (sh_367) rfl rfl rfl ⟨rfl, rfl⟩ rfl rfl rfl rfl rfl ?_
    refine mv_inc (lv' := [some (.ref 367), some (vI x1), some (vI x2), some (vI (x3 - 1))]) 3 (-1) rfl rfl rfl (by omega) ?_
    refine mv_goto 4 rfl rfl ?_
    exact F
theorem vc_MD_writeTokens {q : Nat × (Nat → Int32)} {S S' : ms} {r : Option Value} (x1 x2 : Int)
    (F : EV q 305 2 [some (.ref 367), some (vI x1), some (vI x2), some (vI x1), none, none] [] S r S') : EV q 305 0 [some (.ref 367), some (vI x1), some (vI x2), none, none, none] [] S r S' := by
  unfold EV
  refine ev_bk 2 (S' := (2, [some (.ref 367), some (vI x1), some (vI x2), some (vI x1), none, none], [], hp S, 0, 0)) rfl ?_
  exact F
theorem vc_MD_writeTokens_2 {q : Nat × (Nat → Int32)} {S S' : ms} {r : Option Value} (x1 x2 x3 : Int)
    (F : ((w32 x2 ≤ w32 x3) → (0 ≤ w32 256 ∧ w32 256 < (330 : Nat)) ∧ (0 ≤ w32 256 ∧ w32 256 < (330 : Nat)) ∧ ∃ (S3 : ms), EV q 304 0 [some (.ref 367), some (vI (S.1 386 (w32 256))), some (vI (S.1 385 (w32 256))), none] [] S none S3 ∧ r = none ∧ S' = S3) ∧ ((¬ w32 x2 ≤ w32 x3) → (0 ≤ w32 x3 ∧ w32 x3 < (6000 : Nat)) ∧ ((¬ w32 (S.1 381 (w32 x3)) = 0) → (0 ≤ w32 x3 ∧ w32 x3 < (6000 : Nat)) ∧ ∃ (z9 : Int) (S7 : ms), EV q 297 0 [some (.ref 367), some (vI (S.1 380 (w32 x3))), none] [] S (some (vI z9)) S7 ∧ (0 ≤ w32 (257 + z9) ∧ w32 (257 + z9) < (330 : Nat)) ∧ (0 ≤ w32 (257 + z9) ∧ w32 (257 + z9) < (330 : Nat)) ∧ ∃ (S12 : ms), EV q 304 0 [some (.ref 367), some (vI (S7.1 386 (w32 (257 + z9)))), some (vI (S7.1 385 (w32 (257 + z9)))), none] [] S7 none S12 ∧ (0 ≤ w32 x3 ∧ w32 x3 < (6000 : Nat)) ∧ (0 ≤ w32 z9 ∧ w32 z9 < (30 : Nat)) ∧ (0 ≤ w32 z9 ∧ w32 z9 < (30 : Nat)) ∧ ∃ (S17 : ms), EV q 284 0 [some (.ref 367), some (vL (w32 ((S12.1 380 (w32 x3)) - (S12.1 391 (w32 z9))))), none, some (vI (S12.1 392 (w32 z9))), none] [] S12 none S17 ∧ (0 ≤ w32 x3 ∧ w32 x3 < (6000 : Nat)) ∧ ∃ (z22 : Int) (S20 : ms), EV q 298 0 [some (.ref 367), some (vI (S17.1 381 (w32 x3))), none] [] S17 (some (vI z22)) S20 ∧ (0 ≤ w32 z22 ∧ w32 z22 < (40 : Nat)) ∧ (0 ≤ w32 z22 ∧ w32 z22 < (40 : Nat)) ∧ ∃ (S25 : ms), EV q 304 0 [some (.ref 367), some (vI (S20.1 388 (w32 z22))), some (vI (S20.1 387 (w32 z22))), none] [] S20 none S25 ∧ (0 ≤ w32 x3 ∧ w32 x3 < (6000 : Nat)) ∧ (0 ≤ w32 z22 ∧ w32 z22 < (30 : Nat)) ∧ (0 ≤ w32 z22 ∧ w32 z22 < (30 : Nat)) ∧ ∃ (S30 : ms), EV q 284 0 [some (.ref 367), some (vL (w32 ((S25.1 381 (w32 x3)) - (S25.1 393 (w32 z22))))), none, some (vI (S25.1 394 (w32 z22))), none] [] S25 none S30 ∧ EV q 305 174 [some (.ref 367), some (vI x1), some (vI x2), some (vI x3), some (vI z9), none] [] S30 r S') ∧ ((¬ (¬ w32 (S.1 381 (w32 x3)) = 0)) → (0 ≤ w32 x3 ∧ w32 x3 < (6000 : Nat)) ∧ (0 ≤ w32 (S.1 382 (w32 x3)) ∧ w32 (S.1 382 (w32 x3)) < (6000 : Nat)) ∧ (0 ≤ w32 ((S.1 368 (w32 (S.1 382 (w32 x3)))) % 256) ∧ w32 ((S.1 368 (w32 (S.1 382 (w32 x3)))) % 256) < (330 : Nat)) ∧ (0 ≤ w32 ((S.1 368 (w32 (S.1 382 (w32 x3)))) % 256) ∧ w32 ((S.1 368 (w32 (S.1 382 (w32 x3)))) % 256) < (330 : Nat)) ∧ ∃ (S36 : ms), EV q 304 0 [some (.ref 367), some (vI (S.1 386 (w32 ((S.1 368 (w32 (S.1 382 (w32 x3)))) % 256)))), some (vI (S.1 385 (w32 ((S.1 368 (w32 (S.1 382 (w32 x3)))) % 256)))), none] [] S none S36 ∧ EV q 305 174 [some (.ref 367), some (vI x1), some (vI x2), some (vI x3), some (vI ((S.1 368 (w32 (S.1 382 (w32 x3)))) % 256)), none] [] S36 r S'))) : EV q 305 2 [some (.ref 367), some (vI x1), some (vI x2), some (vI x3), none, none] [] S r S' := by
  unfold EV
  refine ev_bk 2 (S' := (4, [some (.ref 367), some (vI x1), some (vI x2), some (vI x3), none, none], [vI x2, vI x3], hp S, 0, 0)) rfl ?_
  refine mv_icmp 180 rfl rfl (fun c => ?_) (fun c => ?_)
  · have F := F.1 c
    refine ev_bk 2 (S' := (182, [some (.ref 367), some (vI x1), some (vI x2), some (vI x3), none, none], [.ref 367, .ref 367], hp S, 0, 0)) rfl ?_
    refine mv_gfR rfl rfl (sh_367) (by decide) rfl ?_
    refine ev_bk 1 (S' := (188, [some (.ref 367), some (vI x1), some (vI x2), some (vI x3), none, none], [vI 256, .ref 386, .ref 367], hp S, 0, 0)) rfl ?_
    obtain ⟨b1, F⟩ := F
    refine mv_ial rfl (sh_386) b1 ?_
    refine ev_bk 1 (S' := (190, [some (.ref 367), some (vI x1), some (vI x2), some (vI x3), none, none], [.ref 367, vI (S.1 386 (w32 256)), .ref 367], hp S, 0, 0)) rfl ?_
    refine mv_gfR rfl rfl (sh_367) (by decide) rfl ?_
    refine ev_bk 1 (S' := (196, [some (.ref 367), some (vI x1), some (vI x2), some (vI x3), none, none], [vI 256, .ref 385, vI (S.1 386 (w32 256)), .ref 367], hp S, 0, 0)) rfl ?_
    obtain ⟨b2, F⟩ := F
    refine mv_ial rfl (sh_385) b2 ?_
    obtain ⟨S3, e4, F⟩ := F
    refine mv_calv (as := [vI (S.1 386 (w32 256)), vI (S.1 385 (w32 256))]) (rest := []) e4 (sh_367) rfl rfl rfl ⟨rfl, rfl⟩ rfl rfl rfl rfl rfl ?_
    obtain ⟨rfl, rfl⟩ := F
    exact ev_ret rfl rfl
  · have F := F.2 c
    refine ev_bk 1 (S' := (8, [some (.ref 367), some (vI x1), some (vI x2), some (vI x3), none, none], [.ref 367], hp S, 0, 0)) rfl ?_
    refine mv_gfR rfl rfl (sh_367) (by decide) rfl ?_
    refine ev_bk 1 (S' := (12, [some (.ref 367), some (vI x1), some (vI x2), some (vI x3), none, none], [vI x3, .ref 381], hp S, 0, 0)) rfl ?_
    obtain ⟨b5, F⟩ := F
    refine mv_ial rfl (sh_381) b5 ?_
    refine mv_if 54 rfl rfl (fun c => ?_) (fun c => ?_)
    · have F := F.1 c
      refine ev_bk 2 (S' := (56, [some (.ref 367), some (vI x1), some (vI x2), some (vI x3), none, none], [.ref 367, .ref 367], hp S, 0, 0)) rfl ?_
      refine mv_gfR rfl rfl (sh_367) (by decide) rfl ?_
      refine ev_bk 1 (S' := (60, [some (.ref 367), some (vI x1), some (vI x2), some (vI x3), none, none], [vI x3, .ref 380, .ref 367], hp S, 0, 0)) rfl ?_
      obtain ⟨b6, F⟩ := F
      refine mv_ial rfl (sh_380) b6 ?_
      obtain ⟨z9, S7, e8, F⟩ := F
      refine mv_calv (as := [vI (S.1 380 (w32 x3))]) (rest := []) e8 (sh_367) rfl rfl rfl ⟨rfl, rfl⟩ rfl rfl rfl rfl rfl ?_
      refine ev_bk 3 (S' := (68, [some (.ref 367), some (vI x1), some (vI x2), some (vI x3), some (vI z9), none], [.ref 367, .ref 367], hp S7, 0, 0)) rfl ?_
      refine mv_gfR rfl rfl (sh_367) (by decide) rfl ?_
      refine ev_bk 2 (S' := (76, [some (.ref 367), some (vI x1), some (vI x2), some (vI x3), some (vI z9), none], [vI z9, vI 257, .ref 386, .ref 367], hp S7, 0, 0)) rfl ?_
      refine mv_iadd rfl ?_
      obtain ⟨b10, F⟩ := F
      refine mv_ial rfl (sh_386) b10 ?_
      refine ev_bk 1 (S' := (79, [some (.ref 367), some (vI x1), some (vI x2), some (vI x3), some (vI z9), none], [.ref 367, vI (S7.1 386 (w32 (257 + z9))), .ref 367], hp S7, 0, 0)) rfl ?_
      refine mv_gfR rfl rfl (sh_367) (by decide) rfl ?_
      refine ev_bk 2 (S' := (87, [some (.ref 367), some (vI x1), some (vI x2), some (vI x3), some (vI z9), none], [vI z9, vI 257, .ref 385, vI (S7.1 386 (w32 (257 + z9))), .ref 367], hp S7, 0, 0)) rfl ?_
      refine mv_iadd rfl ?_
      obtain ⟨b11, F⟩ := F
      refine mv_ial rfl (sh_385) b11 ?_
      obtain ⟨S12, e13, F⟩ := F
      refine mv_calv (as := [vI (S7.1 386 (w32 (257 + z9))), vI (S7.1 385 (w32 (257 + z9)))]) (rest := []) e13 (sh_367) rfl rfl rfl ⟨rfl, rfl⟩ rfl rfl rfl rfl rfl ?_
      refine ev_bk 2 (S' := (94, [some (.ref 367), some (vI x1), some (vI x2), some (vI x3), some (vI z9), none], [.ref 367, .ref 367], hp S12, 0, 0)) rfl ?_
      refine mv_gfR rfl rfl (sh_367) (by decide) rfl ?_
      refine ev_bk 1 (S' := (98, [some (.ref 367), some (vI x1), some (vI x2), some (vI x3), some (vI z9), none], [vI x3, .ref 380, .ref 367], hp S12, 0, 0)) rfl ?_
      obtain ⟨b14, F⟩ := F
      refine mv_ial rfl (sh_380) b14 ?_
      refine ev_bk 1 (S' := (100, [some (.ref 367), some (vI x1), some (vI x2), some (vI x3), some (vI z9), none], [.ref 367, vI (S12.1 380 (w32 x3)), .ref 367], hp S12, 0, 0)) rfl ?_
      refine mv_gfR rfl rfl (sh_367) (by decide) rfl ?_
      refine ev_bk 1 (S' := (105, [some (.ref 367), some (vI x1), some (vI x2), some (vI x3), some (vI z9), none], [vI z9, .ref 391, vI (S12.1 380 (w32 x3)), .ref 367], hp S12, 0, 0)) rfl ?_
      obtain ⟨b15, F⟩ := F
      refine mv_ial rfl (sh_391) b15 ?_
      refine mv_isub rfl ?_
      refine mv_i2l rfl ?_
      refine ev_bk 1 (S' := (109, [some (.ref 367), some (vI x1), some (vI x2), some (vI x3), some (vI z9), none], [.ref 367, vL (w32 ((S12.1 380 (w32 x3)) - (S12.1 391 (w32 z9)))), .ref 367], hp S12, 0, 0)) rfl ?_
      refine mv_gfR rfl rfl (sh_367) (by decide) rfl ?_
      refine ev_bk 1 (S' := (114, [some (.ref 367), some (vI x1), some (vI x2), some (vI x3), some (vI z9), none], [vI z9, .ref 392, vL (w32 ((S12.1 380 (w32 x3)) - (S12.1 391 (w32 z9)))), .ref 367], hp S12, 0, 0)) rfl ?_
      obtain ⟨b16, F⟩ := F
      refine mv_ial rfl (sh_392) b16 ?_
      obtain ⟨S17, e18, F⟩ := F
      refine mv_calv (as := [vL (w32 ((S12.1 380 (w32 x3)) - (S12.1 391 (w32 z9)))), vI (S12.1 392 (w32 z9))]) (rest := []) e18 (sh_367) rfl rfl rfl ⟨rfl, rfl⟩ rfl rfl rfl rfl rfl ?_
      refine ev_bk 2 (S' := (120, [some (.ref 367), some (vI x1), some (vI x2), some (vI x3), some (vI z9), none], [.ref 367, .ref 367], hp S17, 0, 0)) rfl ?_
      refine mv_gfR rfl rfl (sh_367) (by decide) rfl ?_
      refine ev_bk 1 (S' := (124, [some (.ref 367), some (vI x1), some (vI x2), some (vI x3), some (vI z9), none], [vI x3, .ref 381, .ref 367], hp S17, 0, 0)) rfl ?_
      obtain ⟨b19, F⟩ := F
      refine mv_ial rfl (sh_381) b19 ?_
      obtain ⟨z22, S20, e21, F⟩ := F
      refine mv_calv (as := [vI (S17.1 381 (w32 x3))]) (rest := []) e21 (sh_367) rfl rfl rfl ⟨rfl, rfl⟩ rfl rfl rfl rfl rfl ?_
      refine ev_bk 3 (S' := (132, [some (.ref 367), some (vI x1), some (vI x2), some (vI x3), some (vI z9), some (vI z22)], [.ref 367, .ref 367], hp S20, 0, 0)) rfl ?_
      refine mv_gfR rfl rfl (sh_367) (by decide) rfl ?_
      refine ev_bk 1 (S' := (137, [some (.ref 367), some (vI x1), some (vI x2), some (vI x3), some (vI z9), some (vI z22)], [vI z22, .ref 388, .ref 367], hp S20, 0, 0)) rfl ?_
      obtain ⟨b23, F⟩ := F
      refine mv_ial rfl (sh_388) b23 ?_
      refine ev_bk 1 (S' := (139, [some (.ref 367), some (vI x1), some (vI x2), some (vI x3), some (vI z9), some (vI z22)], [.ref 367, vI (S20.1 388 (w32 z22)), .ref 367], hp S20, 0, 0)) rfl ?_
      refine mv_gfR rfl rfl (sh_367) (by decide) rfl ?_
      refine ev_bk 1 (S' := (144, [some (.ref 367), some (vI x1), some (vI x2), some (vI x3), some (vI z9), some (vI z22)], [vI z22, .ref 387, vI (S20.1 388 (w32 z22)), .ref 367], hp S20, 0, 0)) rfl ?_
      obtain ⟨b24, F⟩ := F
      refine mv_ial rfl (sh_387) b24 ?_
      obtain ⟨S25, e26, F⟩ := F
      refine mv_calv (as := [vI (S20.1 388 (w32 z22)), vI (S20.1 387 (w32 z22))]) (rest := []) e26 (sh_367) rfl rfl rfl ⟨rfl, rfl⟩ rfl rfl rfl rfl rfl ?_
      refine ev_bk 2 (S' := (150, [some (.ref 367), some (vI x1), some (vI x2), some (vI x3), some (vI z9), some (vI z22)], [.ref 367, .ref 367], hp S25, 0, 0)) rfl ?_
      refine mv_gfR rfl rfl (sh_367) (by decide) rfl ?_
      refine ev_bk 1 (S' := (154, [some (.ref 367), some (vI x1), some (vI x2), some (vI x3), some (vI z9), some (vI z22)], [vI x3, .ref 381, .ref 367], hp S25, 0, 0)) rfl ?_
      obtain ⟨b27, F⟩ := F
      refine mv_ial rfl (sh_381) b27 ?_
      refine ev_bk 1 (S' := (156, [some (.ref 367), some (vI x1), some (vI x2), some (vI x3), some (vI z9), some (vI z22)], [.ref 367, vI (S25.1 381 (w32 x3)), .ref 367], hp S25, 0, 0)) rfl ?_
      refine mv_gfR rfl rfl (sh_367) (by decide) rfl ?_
      refine ev_bk 1 (S' := (161, [some (.ref 367), some (vI x1), some (vI x2), some (vI x3), some (vI z9), some (vI z22)], [vI z22, .ref 393, vI (S25.1 381 (w32 x3)), .ref 367], hp S25, 0, 0)) rfl ?_
      obtain ⟨b28, F⟩ := F
      refine mv_ial rfl (sh_393) b28 ?_
      refine mv_isub rfl ?_
      refine mv_i2l rfl ?_
      refine ev_bk 1 (S' := (165, [some (.ref 367), some (vI x1), some (vI x2), some (vI x3), some (vI z9), some (vI z22)], [.ref 367, vL (w32 ((S25.1 381 (w32 x3)) - (S25.1 393 (w32 z22)))), .ref 367], hp S25, 0, 0)) rfl ?_
      refine mv_gfR rfl rfl (sh_367) (by decide) rfl ?_
      refine ev_bk 1 (S' := (170, [some (.ref 367), some (vI x1), some (vI x2), some (vI x3), some (vI z9), some (vI z22)], [vI z22, .ref 394, vL (w32 ((S25.1 381 (w32 x3)) - (S25.1 393 (w32 z22)))), .ref 367], hp S25, 0, 0)) rfl ?_
      obtain ⟨b29, F⟩ := F
      refine mv_ial rfl (sh_394) b29 ?_
      obtain ⟨S30, e31, F⟩ := F
      refine mv_calv (as := [vL (w32 ((S25.1 381 (w32 x3)) - (S25.1 393 (w32 z22)))), vI (S25.1 394 (w32 z22))]) (rest := []) e31 (sh_367) rfl rfl rfl ⟨rfl, rfl⟩ rfl rfl rfl rfl rfl ?_
      exact ev_wk (le_s (le_s (le_s (le_s (le_s (le_n le_0)))))) F
    · have F := F.2 c
      refine ev_bk 1 (S' := (17, [some (.ref 367), some (vI x1), some (vI x2), some (vI x3), none, none], [.ref 367], hp S, 0, 0)) rfl ?_
      refine mv_gfR rfl rfl (sh_367) (by decide) rfl ?_
      refine ev_bk 1 (S' := (21, [some (.ref 367), some (vI x1), some (vI x2), some (vI x3), none, none], [.ref 367, .ref 368], hp S, 0, 0)) rfl ?_
      refine mv_gfR rfl rfl (sh_367) (by decide) rfl ?_
      refine ev_bk 1 (S' := (25, [some (.ref 367), some (vI x1), some (vI x2), some (vI x3), none, none], [vI x3, .ref 382, .ref 368], hp S, 0, 0)) rfl ?_
      obtain ⟨b32, F⟩ := F
      refine mv_ial rfl (sh_382) b32 ?_
      obtain ⟨b33, F⟩ := F
      refine mv_bal rfl (sh_368) b33 ?_
      refine ev_bk 1 (S' := (30, [some (.ref 367), some (vI x1), some (vI x2), some (vI x3), none, none], [vI 255, vI (S.1 368 (w32 (S.1 382 (w32 x3))))], hp S, 0, 0)) rfl ?_
      refine mv_iandm 256 8 (by decide) rfl rfl rfl ?_
      refine ev_bk 3 (S' := (35, [some (.ref 367), some (vI x1), some (vI x2), some (vI x3), some (vI ((S.1 368 (w32 (S.1 382 (w32 x3)))) % 256)), none], [.ref 367, .ref 367], hp S, 0, 0)) rfl ?_
      refine mv_gfR rfl rfl (sh_367) (by decide) rfl ?_
      refine ev_bk 1 (S' := (40, [some (.ref 367), some (vI x1), some (vI x2), some (vI x3), some (vI ((S.1 368 (w32 (S.1 382 (w32 x3)))) % 256)), none], [vI ((S.1 368 (w32 (S.1 382 (w32 x3)))) % 256), .ref 386, .ref 367], hp S, 0, 0)) rfl ?_
      obtain ⟨b34, F⟩ := F
      refine mv_ial rfl (sh_386) b34 ?_
      refine ev_bk 1 (S' := (42, [some (.ref 367), some (vI x1), some (vI x2), some (vI x3), some (vI ((S.1 368 (w32 (S.1 382 (w32 x3)))) % 256)), none], [.ref 367, vI (S.1 386 (w32 ((S.1 368 (w32 (S.1 382 (w32 x3)))) % 256))), .ref 367], hp S, 0, 0)) rfl ?_
      refine mv_gfR rfl rfl (sh_367) (by decide) rfl ?_
      refine ev_bk 1 (S' := (47, [some (.ref 367), some (vI x1), some (vI x2), some (vI x3), some (vI ((S.1 368 (w32 (S.1 382 (w32 x3)))) % 256)), none], [vI ((S.1 368 (w32 (S.1 382 (w32 x3)))) % 256), .ref 385, vI (S.1 386 (w32 ((S.1 368 (w32 (S.1 382 (w32 x3)))) % 256))), .ref 367], hp S, 0, 0)) rfl ?_
      obtain ⟨b35, F⟩ := F
      refine mv_ial rfl (sh_385) b35 ?_
      obtain ⟨S36, e37, F⟩ := F
      refine mv_calv (as := [vI (S.1 386 (w32 ((S.1 368 (w32 (S.1 382 (w32 x3)))) % 256))), vI (S.1 385 (w32 ((S.1 368 (w32 (S.1 382 (w32 x3)))) % 256)))]) (rest := []) e37 (sh_367) rfl rfl rfl ⟨rfl, rfl⟩ rfl rfl rfl rfl rfl ?_
      refine mv_goto 174 rfl rfl ?_
      exact F
theorem vc_MD_writeTokens_174 {q : Nat × (Nat → Int32)} {S S' : ms} {r : Option Value} (x1 x2 x3 x4 : Int)
    (F : EV q 305 2 [some (.ref 367), some (vI x1), some (vI x2), some (vI (x3 + 1)), none, none] [] S r S') : EV q 305 174 [some (.ref 367), some (vI x1), some (vI x2), some (vI x3), some (vI x4), none] [] S r S' := by
  unfold EV
  refine mv_inc (lv' := [some (.ref 367), some (vI x1), some (vI x2), some (vI (x3 + 1)), some (vI x4), none]) 3 1 rfl rfl rfl rfl ?_
  refine mv_goto 2 rfl rfl ?_
  exact ev_wk (le_s (le_s (le_s (le_s (le_n (le_s le_0)))))) F
theorem vc_MD_fixed {q : Nat × (Nat → Int32)} {S S' : ms} {r : Option Value}
    (F : EV q 306 2 [some (.ref 367), some (vI 0), none] [] S r S') : EV q 306 0 [some (.ref 367), none, none] [] S r S' := by
  unfold EV
  refine ev_bk 2 (S' := (2, [some (.ref 367), some (vI 0), none], [], hp S, 0, 0)) rfl ?_
  exact F
theorem vc_MD_fixed_2 {q : Nat × (Nat → Int32)} {S S' : ms} {r : Option Value} (x1 : Int)
    (F : ((288 ≤ w32 x1) → EV q 306 61 [some (.ref 367), some (vI 0), none] [] S r S') ∧ ((¬ 288 ≤ w32 x1) → ((144 ≤ w32 x1) → ((256 ≤ w32 x1) → ((280 ≤ w32 x1) → EV q 306 52 [some (.ref 367), some (vI x1), none] [vI 8, vI x1, .ref 385] S r S') ∧ ((¬ 280 ≤ w32 x1) → EV q 306 52 [some (.ref 367), some (vI x1), none] [vI 7, vI x1, .ref 385] S r S')) ∧ ((¬ 256 ≤ w32 x1) → EV q 306 52 [some (.ref 367), some (vI x1), none] [vI 9, vI x1, .ref 385] S r S')) ∧ ((¬ 144 ≤ w32 x1) → EV q 306 52 [some (.ref 367), some (vI x1), none] [vI 8, vI x1, .ref 385] S r S'))) : EV q 306 2 [some (.ref 367), some (vI x1), none] [] S r S' := by
  unfold EV
  refine ev_bk 2 (S' := (6, [some (.ref 367), some (vI x1), none], [vI 288, vI x1], hp S, 0, 0)) rfl ?_
  refine mv_icmp 59 rfl rfl (fun c => ?_) (fun c => ?_)
  · have F := F.1 c
    refine ev_bk 2 (S' := (61, [some (.ref 367), some (vI 0), none], [], hp S, 0, 0)) rfl ?_
    exact F
  · have F := F.2 c
    refine ev_bk 1 (S' := (10, [some (.ref 367), some (vI x1), none], [.ref 367], hp S, 0, 0)) rfl ?_
    refine mv_gfR rfl rfl (sh_367) (by decide) rfl ?_
    refine ev_bk 3 (S' := (18, [some (.ref 367), some (vI x1), none], [vI 144, vI x1, vI x1, .ref 385], hp S, 0, 0)) rfl ?_
    refine mv_icmp 26 rfl rfl (fun c => ?_) (fun c => ?_)
    · have F := F.1 c
      refine ev_bk 2 (S' := (30, [some (.ref 367), some (vI x1), none], [vI 256, vI x1, vI x1, .ref 385], hp S, 0, 0)) rfl ?_
      refine mv_icmp 38 rfl rfl (fun c => ?_) (fun c => ?_)
      · have F := F.1 c
        refine ev_bk 2 (S' := (42, [some (.ref 367), some (vI x1), none], [vI 280, vI x1, vI x1, .ref 385], hp S, 0, 0)) rfl ?_
        refine mv_icmp 50 rfl rfl (fun c => ?_) (fun c => ?_)
        · have F := F.1 c
          refine ev_bk 1 (S' := (52, [some (.ref 367), some (vI x1), none], [vI 8, vI x1, .ref 385], hp S, 0, 0)) rfl ?_
          exact F
        · have F := F.2 c
          refine ev_bk 1 (S' := (47, [some (.ref 367), some (vI x1), none], [vI 7, vI x1, .ref 385], hp S, 0, 0)) rfl ?_
          refine mv_goto 52 rfl rfl ?_
          exact F
      · have F := F.2 c
        refine ev_bk 1 (S' := (35, [some (.ref 367), some (vI x1), none], [vI 9, vI x1, .ref 385], hp S, 0, 0)) rfl ?_
        refine mv_goto 52 rfl rfl ?_
        exact F
    · have F := F.2 c
      refine ev_bk 1 (S' := (23, [some (.ref 367), some (vI x1), none], [vI 8, vI x1, .ref 385], hp S, 0, 0)) rfl ?_
      refine mv_goto 52 rfl rfl ?_
      exact F
theorem vc_MD_fixed_52 {q : Nat × (Nat → Int32)} {S S' : ms} {r : Option Value} (x1 y0 y1 : Int)
    (F : (0 ≤ w32 y1 ∧ w32 y1 < (330 : Nat)) ∧ ∀ S2 : ms, S2 = wI S 385 (w32 y1) y0 → EV q 306 2 [some (.ref 367), some (vI (x1 + 1)), none] [] S2 r S') : EV q 306 52 [some (.ref 367), some (vI x1), none] [vI y0, vI y1, .ref 385] S r S' := by
  unfold EV
  obtain ⟨b1, F⟩ := F
  refine mv_ias rfl (sh_385) b1 ?_
  have F := F _ rfl
  refine mv_inc (lv' := [some (.ref 367), some (vI (x1 + 1)), none]) 1 1 rfl rfl rfl rfl ?_
  refine mv_goto 2 rfl rfl ?_
  exact F
theorem vc_MD_fixed_61 {q : Nat × (Nat → Int32)} {S S' : ms} {r : Option Value} (x1 : Int)
    (F : ((32 ≤ w32 x1) → ∃ (z3 : Int) (S1 : ms), EV q 301 0 [some (.ref 385), some (vI 0), some (vI 288), some (.ref 386), none, none, none, none] [] S (some (vI z3)) S1 ∧ ∃ (z6 : Int) (S4 : ms), EV q 301 0 [some (.ref 387), some (vI 0), some (vI 32), some (.ref 388), none, none, none, none] [] S1 (some (vI z6)) S4 ∧ r = none ∧ S' = S4) ∧ ((¬ 32 ≤ w32 x1) → (0 ≤ w32 x1 ∧ w32 x1 < (40 : Nat)) ∧ ∀ S8 : ms, S8 = wI S 387 (w32 x1) 5 → EV q 306 61 [some (.ref 367), some (vI (x1 + 1)), none] [] S8 r S')) : EV q 306 61 [some (.ref 367), some (vI x1), none] [] S r S' := by
  unfold EV
  refine ev_bk 2 (S' := (64, [some (.ref 367), some (vI x1), none], [vI 32, vI x1], hp S, 0, 0)) rfl ?_
  refine mv_icmp 80 rfl rfl (fun c => ?_) (fun c => ?_)
  · have F := F.1 c
    refine ev_bk 1 (S' := (81, [some (.ref 367), some (vI x1), none], [.ref 367], hp S, 0, 0)) rfl ?_
    refine mv_gfR rfl rfl (sh_367) (by decide) rfl ?_
    refine ev_bk 3 (S' := (89, [some (.ref 367), some (vI x1), none], [.ref 367, vI 288, vI 0, .ref 385], hp S, 0, 0)) rfl ?_
    refine mv_gfR rfl rfl (sh_367) (by decide) rfl ?_
    obtain ⟨z3, S1, e2, F⟩ := F
    refine mv_cals (as := [.ref 385, vI 0, vI 288, .ref 386]) (rest := []) e2 rfl rfl rfl ⟨rfl, rfl, rfl⟩ rfl rfl rfl rfl ?_
    refine ev_bk 2 (S' := (97, [some (.ref 367), some (vI z3), none], [.ref 367], hp S1, 0, 0)) rfl ?_
    refine mv_gfR rfl rfl (sh_367) (by decide) rfl ?_
    refine ev_bk 3 (S' := (104, [some (.ref 367), some (vI z3), none], [.ref 367, vI 32, vI 0, .ref 387], hp S1, 0, 0)) rfl ?_
    refine mv_gfR rfl rfl (sh_367) (by decide) rfl ?_
    obtain ⟨z6, S4, e5, F⟩ := F
    refine mv_cals (as := [.ref 387, vI 0, vI 32, .ref 388]) (rest := []) e5 rfl rfl rfl ⟨rfl, rfl, rfl⟩ rfl rfl rfl rfl ?_
    refine ev_bk 1 (S' := (111, [some (.ref 367), some (vI z3), some (vI z6)], [], hp S4, 0, 0)) rfl ?_
    obtain ⟨rfl, rfl⟩ := F
    exact ev_ret rfl rfl
  · have F := F.2 c
    refine ev_bk 1 (S' := (68, [some (.ref 367), some (vI x1), none], [.ref 367], hp S, 0, 0)) rfl ?_
    refine mv_gfR rfl rfl (sh_367) (by decide) rfl ?_
    refine ev_bk 2 (S' := (73, [some (.ref 367), some (vI x1), none], [vI 5, vI x1, .ref 387], hp S, 0, 0)) rfl ?_
    obtain ⟨b7, F⟩ := F
    refine mv_ias rfl (sh_387) b7 ?_
    have F := F _ rfl
    refine mv_inc (lv' := [some (.ref 367), some (vI (x1 + 1)), none]) 1 1 rfl rfl rfl rfl ?_
    refine mv_goto 61 rfl rfl ?_
    exact F
theorem vc_MD_parseLeast {q : Nat × (Nat → Int32)} {S S' : ms} {r : Option Value}
    (F : (0 ≤ w32 (S.1 367 2) ∧ w32 (S.1 367 2) < (6001 : Nat)) ∧ ∀ S2 : ms, S2 = wI S 395 (w32 (S.1 367 2)) 0 → EV q 307 17 [some (.ref 367), some (vI ((S2.1 367 2) - 1)), none, none, none, none, none] [] S2 r S') : EV q 307 0 [some (.ref 367), none, none, none, none, none, none] [] S r S' := by
  unfold EV
  refine ev_bk 1 (S' := (1, [some (.ref 367), none, none, none, none, none, none], [.ref 367], hp S, 0, 0)) rfl ?_
  refine mv_gfR rfl rfl (sh_367) (by decide) rfl ?_
  refine ev_bk 1 (S' := (5, [some (.ref 367), none, none, none, none, none, none], [.ref 367, .ref 395], hp S, 0, 0)) rfl ?_
  refine mv_gfI rfl rfl (sh_367) (by decide) rfl ?_
  refine ev_bk 1 (S' := (9, [some (.ref 367), none, none, none, none, none, none], [vI 0, vI (S.1 367 2), .ref 395], hp S, 0, 0)) rfl ?_
  obtain ⟨b1, F⟩ := F
  refine mv_ias rfl (sh_395) b1 ?_
  have F := F _ rfl
  refine ev_bk 1 (S' := (11, [some (.ref 367), none, none, none, none, none, none], [.ref 367], hp (wI S 395 (w32 (S.1 367 2)) 0), 0, 0)) rfl ?_
  refine mv_gfI rfl rfl (sh_367) (by decide) rfl ?_
  refine ev_bk 1 (S' := (15, [some (.ref 367), none, none, none, none, none, none], [vI 1, vI ((wI S 395 (w32 (S.1 367 2)) 0).1 367 2)], hp (wI S 395 (w32 (S.1 367 2)) 0), 0, 0)) rfl ?_
  refine mv_isub rfl ?_
  refine ev_bk 1 (S' := (17, [some (.ref 367), some (vI (((wI S 395 (w32 (S.1 367 2)) 0).1 367 2) - 1)), none, none, none, none, none], [], hp (wI S 395 (w32 (S.1 367 2)) 0), 0, 0)) rfl ?_
  exact F
theorem vc_MD_parseLeast_17 {q : Nat × (Nat → Int32)} {S S' : ms} {r : Option Value} (x1 : Int)
    (F : ((w32 x1 < 0) → EV q 307 212 [some (.ref 367), some (vI 0), none, none, none, none, none] [] S r S') ∧ ((¬ w32 x1 < 0) → (0 ≤ w32 x1 ∧ w32 x1 < (6000 : Nat)) ∧ (0 ≤ w32 ((S.1 368 (w32 x1)) % 256) ∧ w32 ((S.1 368 (w32 x1)) % 256) < (330 : Nat)) ∧ (0 ≤ w32 (x1 + 1) ∧ w32 (x1 + 1) < (6001 : Nat)) ∧ (0 ≤ w32 x1 ∧ w32 x1 < (6001 : Nat)) ∧ ∀ S5 : ms, S5 = wI S 395 (w32 x1) ((S.1 385 (w32 ((S.1 368 (w32 x1)) % 256))) + (S.1 395 (w32 (x1 + 1)))) → (0 ≤ w32 x1 ∧ w32 x1 < (6000 : Nat)) ∧ ∀ S7 : ms, S7 = wI S5 396 (w32 x1) 1 → (0 ≤ w32 x1 ∧ w32 x1 < (6000 : Nat)) ∧ ∀ S9 : ms, S9 = wI S7 397 (w32 x1) 0 → ∃ (S10 : ms), EV q 293 0 [some (.ref 367), some (.ref 368), some (vI (S9.1 367 2)), some (vI x1), some (vI 258), some (vI 32768), none, none, none, none, none] [] S9 none S10 ∧ EV q 307 87 [some (.ref 367), some (vI x1), some (vI ((S.1 368 (w32 x1)) % 256)), some (vI 3), none, none, none] [] S10 r S')) : EV q 307 17 [some (.ref 367), some (vI x1), none, none, none, none, none] [] S r S' := by
  unfold EV
  refine ev_bk 1 (S' := (18, [some (.ref 367), some (vI x1), none, none, none, none, none], [vI x1], hp S, 0, 0)) rfl ?_
  refine mv_if 210 rfl rfl (fun c => ?_) (fun c => ?_)
  · have F := F.1 c
    refine ev_bk 2 (S' := (212, [some (.ref 367), some (vI 0), none, none, none, none, none], [], hp S, 0, 0)) rfl ?_
    exact F
  · have F := F.2 c
    refine ev_bk 1 (S' := (22, [some (.ref 367), some (vI x1), none, none, none, none, none], [.ref 367], hp S, 0, 0)) rfl ?_
    refine mv_gfR rfl rfl (sh_367) (by decide) rfl ?_
    refine ev_bk 1 (S' := (26, [some (.ref 367), some (vI x1), none, none, none, none, none], [vI x1, .ref 368], hp S, 0, 0)) rfl ?_
    obtain ⟨b1, F⟩ := F
    refine mv_bal rfl (sh_368) b1 ?_
    refine ev_bk 1 (S' := (30, [some (.ref 367), some (vI x1), none, none, none, none, none], [vI 255, vI (S.1 368 (w32 x1))], hp S, 0, 0)) rfl ?_
    refine mv_iandm 256 8 (by decide) rfl rfl rfl ?_
    refine ev_bk 2 (S' := (33, [some (.ref 367), some (vI x1), some (vI ((S.1 368 (w32 x1)) % 256)), none, none, none, none], [.ref 367], hp S, 0, 0)) rfl ?_
    refine mv_gfR rfl rfl (sh_367) (by decide) rfl ?_
    refine ev_bk 2 (S' := (38, [some (.ref 367), some (vI x1), some (vI ((S.1 368 (w32 x1)) % 256)), none, none, none, none], [.ref 367, vI x1, .ref 395], hp S, 0, 0)) rfl ?_
    refine mv_gfR rfl rfl (sh_367) (by decide) rfl ?_
    refine ev_bk 1 (S' := (42, [some (.ref 367), some (vI x1), some (vI ((S.1 368 (w32 x1)) % 256)), none, none, none, none], [vI ((S.1 368 (w32 x1)) % 256), .ref 385, vI x1, .ref 395], hp S, 0, 0)) rfl ?_
    obtain ⟨b2, F⟩ := F
    refine mv_ial rfl (sh_385) b2 ?_
    refine ev_bk 1 (S' := (44, [some (.ref 367), some (vI x1), some (vI ((S.1 368 (w32 x1)) % 256)), none, none, none, none], [.ref 367, vI (S.1 385 (w32 ((S.1 368 (w32 x1)) % 256))), vI x1, .ref 395], hp S, 0, 0)) rfl ?_
    refine mv_gfR rfl rfl (sh_367) (by decide) rfl ?_
    refine ev_bk 2 (S' := (49, [some (.ref 367), some (vI x1), some (vI ((S.1 368 (w32 x1)) % 256)), none, none, none, none], [vI 1, vI x1, .ref 395, vI (S.1 385 (w32 ((S.1 368 (w32 x1)) % 256))), vI x1, .ref 395], hp S, 0, 0)) rfl ?_
    refine mv_iadd rfl ?_
    obtain ⟨b3, F⟩ := F
    refine mv_ial rfl (sh_395) b3 ?_
    refine mv_iadd rfl ?_
    obtain ⟨b4, F⟩ := F
    refine mv_ias rfl (sh_395) b4 ?_
    have F := F _ rfl
    refine ev_bk 1 (S' := (54, [some (.ref 367), some (vI x1), some (vI ((S.1 368 (w32 x1)) % 256)), none, none, none, none], [.ref 367], hp (wI S 395 (w32 x1) ((S.1 385 (w32 ((S.1 368 (w32 x1)) % 256))) + (S.1 395 (w32 (x1 + 1))))), 0, 0)) rfl ?_
    refine mv_gfR rfl rfl (sh_367) (by decide) rfl ?_
    refine ev_bk 2 (S' := (59, [some (.ref 367), some (vI x1), some (vI ((S.1 368 (w32 x1)) % 256)), none, none, none, none], [vI 1, vI x1, .ref 396], hp (wI S 395 (w32 x1) ((S.1 385 (w32 ((S.1 368 (w32 x1)) % 256))) + (S.1 395 (w32 (x1 + 1))))), 0, 0)) rfl ?_
    obtain ⟨b6, F⟩ := F
    refine mv_ias rfl (sh_396) b6 ?_
    have F := F _ rfl
    refine ev_bk 1 (S' := (61, [some (.ref 367), some (vI x1), some (vI ((S.1 368 (w32 x1)) % 256)), none, none, none, none], [.ref 367], hp (wI (wI S 395 (w32 x1) ((S.1 385 (w32 ((S.1 368 (w32 x1)) % 256))) + (S.1 395 (w32 (x1 + 1))))) 396 (w32 x1) 1), 0, 0)) rfl ?_
    refine mv_gfR rfl rfl (sh_367) (by decide) rfl ?_
    refine ev_bk 2 (S' := (66, [some (.ref 367), some (vI x1), some (vI ((S.1 368 (w32 x1)) % 256)), none, none, none, none], [vI 0, vI x1, .ref 397], hp (wI (wI S 395 (w32 x1) ((S.1 385 (w32 ((S.1 368 (w32 x1)) % 256))) + (S.1 395 (w32 (x1 + 1))))) 396 (w32 x1) 1), 0, 0)) rfl ?_
    obtain ⟨b8, F⟩ := F
    refine mv_ias rfl (sh_397) b8 ?_
    have F := F _ rfl
    refine ev_bk 2 (S' := (69, [some (.ref 367), some (vI x1), some (vI ((S.1 368 (w32 x1)) % 256)), none, none, none, none], [.ref 367, .ref 367], hp (wI (wI (wI S 395 (w32 x1) ((S.1 385 (w32 ((S.1 368 (w32 x1)) % 256))) + (S.1 395 (w32 (x1 + 1))))) 396 (w32 x1) 1) 397 (w32 x1) 0), 0, 0)) rfl ?_
    refine mv_gfR rfl rfl (sh_367) (by decide) rfl ?_
    refine ev_bk 1 (S' := (73, [some (.ref 367), some (vI x1), some (vI ((S.1 368 (w32 x1)) % 256)), none, none, none, none], [.ref 367, .ref 368, .ref 367], hp (wI (wI (wI S 395 (w32 x1) ((S.1 385 (w32 ((S.1 368 (w32 x1)) % 256))) + (S.1 395 (w32 (x1 + 1))))) 396 (w32 x1) 1) 397 (w32 x1) 0), 0, 0)) rfl ?_
    refine mv_gfI rfl rfl (sh_367) (by decide) rfl ?_
    refine ev_bk 3 (S' := (82, [some (.ref 367), some (vI x1), some (vI ((S.1 368 (w32 x1)) % 256)), none, none, none, none], [vI 32768, vI 258, vI x1, vI ((wI (wI (wI S 395 (w32 x1) ((S.1 385 (w32 ((S.1 368 (w32 x1)) % 256))) + (S.1 395 (w32 (x1 + 1))))) 396 (w32 x1) 1) 397 (w32 x1) 0).1 367 2), .ref 368, .ref 367], hp (wI (wI (wI S 395 (w32 x1) ((S.1 385 (w32 ((S.1 368 (w32 x1)) % 256))) + (S.1 395 (w32 (x1 + 1))))) 396 (w32 x1) 1) 397 (w32 x1) 0), 0, 0)) rfl ?_
    obtain ⟨S10, e11, F⟩ := F
    refine mv_calv (as := [.ref 368, vI ((wI (wI (wI S 395 (w32 x1) ((S.1 385 (w32 ((S.1 368 (w32 x1)) % 256))) + (S.1 395 (w32 (x1 + 1))))) 396 (w32 x1) 1) 397 (w32 x1) 0).1 367 2), vI x1, vI 258, vI 32768]) (rest := []) e11 (sh_367) rfl rfl rfl ⟨rfl, rfl⟩ rfl rfl rfl rfl rfl ?_
    refine ev_bk 2 (S' := (87, [some (.ref 367), some (vI x1), some (vI ((S.1 368 (w32 x1)) % 256)), some (vI 3), none, none, none], [], hp S10, 0, 0)) rfl ?_
    exact F
theorem vc_MD_parseLeast_87 {q : Nat × (Nat → Int32)} {S S' : ms} {r : Option Value} (x1 x2 x3 : Int)
    (F : ((w32 (S.1 367 26) < w32 x3) → EV q 307 17 [some (.ref 367), some (vI (x1 - 1)), none, none, none, none, none] [] S r S') ∧ ((¬ w32 (S.1 367 26) < w32 x3) → ∃ (z3 : Int) (S1 : ms), EV q 297 0 [some (.ref 367), some (vI x3), none] [] S (some (vI z3)) S1 ∧ (0 ≤ w32 x3 ∧ w32 x3 < (260 : Nat)) ∧ ∃ (z7 : Int) (S5 : ms), EV q 298 0 [some (.ref 367), some (vI (S1.1 379 (w32 x3))), none] [] S1 (some (vI z7)) S5 ∧ (0 ≤ w32 (257 + z3) ∧ w32 (257 + z3) < (330 : Nat)) ∧ (0 ≤ w32 z3 ∧ w32 z3 < (30 : Nat)) ∧ (0 ≤ w32 z7 ∧ w32 z7 < (40 : Nat)) ∧ (0 ≤ w32 z7 ∧ w32 z7 < (30 : Nat)) ∧ (0 ≤ w32 (x1 + x3) ∧ w32 (x1 + x3) < (6001 : Nat)) ∧ (0 ≤ w32 x1 ∧ w32 x1 < (6001 : Nat)) ∧ ((w32 (S5.1 395 (w32 x1)) ≤ w32 (((((S5.1 385 (w32 (257 + z3))) + (S5.1 392 (w32 z3))) + (S5.1 387 (w32 z7))) + (S5.1 394 (w32 z7))) + (S5.1 395 (w32 (x1 + x3))))) → EV q 307 198 [some (.ref 367), some (vI x1), some (vI x2), some (vI x3), some (vI z3), some (vI z7), some (vI (((((S5.1 385 (w32 (257 + z3))) + (S5.1 392 (w32 z3))) + (S5.1 387 (w32 z7))) + (S5.1 394 (w32 z7))) + (S5.1 395 (w32 (x1 + x3)))))] [] S5 r S') ∧ ((¬ w32 (S5.1 395 (w32 x1)) ≤ w32 (((((S5.1 385 (w32 (257 + z3))) + (S5.1 392 (w32 z3))) + (S5.1 387 (w32 z7))) + (S5.1 394 (w32 z7))) + (S5.1 395 (w32 (x1 + x3))))) → (0 ≤ w32 x1 ∧ w32 x1 < (6001 : Nat)) ∧ ∀ S15 : ms, S15 = wI S5 395 (w32 x1) (((((S5.1 385 (w32 (257 + z3))) + (S5.1 392 (w32 z3))) + (S5.1 387 (w32 z7))) + (S5.1 394 (w32 z7))) + (S5.1 395 (w32 (x1 + x3)))) → (0 ≤ w32 x1 ∧ w32 x1 < (6000 : Nat)) ∧ ∀ S17 : ms, S17 = wI S15 396 (w32 x1) x3 → (0 ≤ w32 x3 ∧ w32 x3 < (260 : Nat)) ∧ (0 ≤ w32 x1 ∧ w32 x1 < (6000 : Nat)) ∧ ∀ S20 : ms, S20 = wI S17 397 (w32 x1) (S17.1 379 (w32 x3)) → EV q 307 198 [some (.ref 367), some (vI x1), some (vI x2), some (vI x3), some (vI z3), some (vI z7), some (vI (((((S5.1 385 (w32 (257 + z3))) + (S5.1 392 (w32 z3))) + (S5.1 387 (w32 z7))) + (S5.1 394 (w32 z7))) + (S5.1 395 (w32 (x1 + x3)))))] [] S20 r S'))) : EV q 307 87 [some (.ref 367), some (vI x1), some (vI x2), some (vI x3), none, none, none] [] S r S' := by
  unfold EV
  refine ev_bk 2 (S' := (89, [some (.ref 367), some (vI x1), some (vI x2), some (vI x3), none, none, none], [.ref 367, vI x3], hp S, 0, 0)) rfl ?_
  refine mv_gfI rfl rfl (sh_367) (by decide) rfl ?_
  refine mv_icmp 204 rfl rfl (fun c => ?_) (fun c => ?_)
  · have F := F.1 c
    refine mv_inc (lv' := [some (.ref 367), some (vI (x1 - 1)), some (vI x2), some (vI x3), none, none, none]) 1 (-1) rfl rfl rfl (by omega) ?_
    refine mv_goto 17 rfl rfl ?_
    exact ev_wk (le_s (le_s (le_n (le_n (le_s (le_s (le_s le_0))))))) F
  · have F := F.2 c
    refine ev_bk 2 (S' := (97, [some (.ref 367), some (vI x1), some (vI x2), some (vI x3), none, none, none], [vI x3, .ref 367], hp S, 0, 0)) rfl ?_
    obtain ⟨z3, S1, e2, F⟩ := F
    refine mv_calv (as := [vI x3]) (rest := []) e2 (sh_367) rfl rfl rfl ⟨rfl, rfl⟩ rfl rfl rfl rfl rfl ?_
    refine ev_bk 3 (S' := (104, [some (.ref 367), some (vI x1), some (vI x2), some (vI x3), some (vI z3), none, none], [.ref 367, .ref 367], hp S1, 0, 0)) rfl ?_
    refine mv_gfR rfl rfl (sh_367) (by decide) rfl ?_
    refine ev_bk 1 (S' := (108, [some (.ref 367), some (vI x1), some (vI x2), some (vI x3), some (vI z3), none, none], [vI x3, .ref 379, .ref 367], hp S1, 0, 0)) rfl ?_
    obtain ⟨b4, F⟩ := F
    refine mv_ial rfl (sh_379) b4 ?_
    obtain ⟨z7, S5, e6, F⟩ := F
    refine mv_calv (as := [vI (S1.1 379 (w32 x3))]) (rest := []) e6 (sh_367) rfl rfl rfl ⟨rfl, rfl⟩ rfl rfl rfl rfl rfl ?_
    refine ev_bk 2 (S' := (115, [some (.ref 367), some (vI x1), some (vI x2), some (vI x3), some (vI z3), some (vI z7), none], [.ref 367], hp S5, 0, 0)) rfl ?_
    refine mv_gfR rfl rfl (sh_367) (by decide) rfl ?_
    refine ev_bk 2 (S' := (123, [some (.ref 367), some (vI x1), some (vI x2), some (vI x3), some (vI z3), some (vI z7), none], [vI z3, vI 257, .ref 385], hp S5, 0, 0)) rfl ?_
    refine mv_iadd rfl ?_
    obtain ⟨b8, F⟩ := F
    refine mv_ial rfl (sh_385) b8 ?_
    refine ev_bk 1 (S' := (126, [some (.ref 367), some (vI x1), some (vI x2), some (vI x3), some (vI z3), some (vI z7), none], [.ref 367, vI (S5.1 385 (w32 (257 + z3)))], hp S5, 0, 0)) rfl ?_
    refine mv_gfR rfl rfl (sh_367) (by decide) rfl ?_
    refine ev_bk 1 (S' := (131, [some (.ref 367), some (vI x1), some (vI x2), some (vI x3), some (vI z3), some (vI z7), none], [vI z3, .ref 392, vI (S5.1 385 (w32 (257 + z3)))], hp S5, 0, 0)) rfl ?_
    obtain ⟨b9, F⟩ := F
    refine mv_ial rfl (sh_392) b9 ?_
    refine mv_iadd rfl ?_
    refine ev_bk 1 (S' := (134, [some (.ref 367), some (vI x1), some (vI x2), some (vI x3), some (vI z3), some (vI z7), none], [.ref 367, vI ((S5.1 385 (w32 (257 + z3))) + (S5.1 392 (w32 z3)))], hp S5, 0, 0)) rfl ?_
    refine mv_gfR rfl rfl (sh_367) (by decide) rfl ?_
    refine ev_bk 1 (S' := (139, [some (.ref 367), some (vI x1), some (vI x2), some (vI x3), some (vI z3), some (vI z7), none], [vI z7, .ref 387, vI ((S5.1 385 (w32 (257 + z3))) + (S5.1 392 (w32 z3)))], hp S5, 0, 0)) rfl ?_
    obtain ⟨b10, F⟩ := F
    refine mv_ial rfl (sh_387) b10 ?_
    refine mv_iadd rfl ?_
    refine ev_bk 1 (S' := (142, [some (.ref 367), some (vI x1), some (vI x2), some (vI x3), some (vI z3), some (vI z7), none], [.ref 367, vI (((S5.1 385 (w32 (257 + z3))) + (S5.1 392 (w32 z3))) + (S5.1 387 (w32 z7)))], hp S5, 0, 0)) rfl ?_
    refine mv_gfR rfl rfl (sh_367) (by decide) rfl ?_
    refine ev_bk 1 (S' := (147, [some (.ref 367), some (vI x1), some (vI x2), some (vI x3), some (vI z3), some (vI z7), none], [vI z7, .ref 394, vI (((S5.1 385 (w32 (257 + z3))) + (S5.1 392 (w32 z3))) + (S5.1 387 (w32 z7)))], hp S5, 0, 0)) rfl ?_
    obtain ⟨b11, F⟩ := F
    refine mv_ial rfl (sh_394) b11 ?_
    refine mv_iadd rfl ?_
    refine ev_bk 1 (S' := (150, [some (.ref 367), some (vI x1), some (vI x2), some (vI x3), some (vI z3), some (vI z7), none], [.ref 367, vI ((((S5.1 385 (w32 (257 + z3))) + (S5.1 392 (w32 z3))) + (S5.1 387 (w32 z7))) + (S5.1 394 (w32 z7)))], hp S5, 0, 0)) rfl ?_
    refine mv_gfR rfl rfl (sh_367) (by decide) rfl ?_
    refine ev_bk 2 (S' := (155, [some (.ref 367), some (vI x1), some (vI x2), some (vI x3), some (vI z3), some (vI z7), none], [vI x3, vI x1, .ref 395, vI ((((S5.1 385 (w32 (257 + z3))) + (S5.1 392 (w32 z3))) + (S5.1 387 (w32 z7))) + (S5.1 394 (w32 z7)))], hp S5, 0, 0)) rfl ?_
    refine mv_iadd rfl ?_
    obtain ⟨b12, F⟩ := F
    refine mv_ial rfl (sh_395) b12 ?_
    refine mv_iadd rfl ?_
    refine ev_bk 3 (S' := (163, [some (.ref 367), some (vI x1), some (vI x2), some (vI x3), some (vI z3), some (vI z7), some (vI (((((S5.1 385 (w32 (257 + z3))) + (S5.1 392 (w32 z3))) + (S5.1 387 (w32 z7))) + (S5.1 394 (w32 z7))) + (S5.1 395 (w32 (x1 + x3)))))], [.ref 367, vI (((((S5.1 385 (w32 (257 + z3))) + (S5.1 392 (w32 z3))) + (S5.1 387 (w32 z7))) + (S5.1 394 (w32 z7))) + (S5.1 395 (w32 (x1 + x3))))], hp S5, 0, 0)) rfl ?_
    refine mv_gfR rfl rfl (sh_367) (by decide) rfl ?_
    refine ev_bk 1 (S' := (167, [some (.ref 367), some (vI x1), some (vI x2), some (vI x3), some (vI z3), some (vI z7), some (vI (((((S5.1 385 (w32 (257 + z3))) + (S5.1 392 (w32 z3))) + (S5.1 387 (w32 z7))) + (S5.1 394 (w32 z7))) + (S5.1 395 (w32 (x1 + x3)))))], [vI x1, .ref 395, vI (((((S5.1 385 (w32 (257 + z3))) + (S5.1 392 (w32 z3))) + (S5.1 387 (w32 z7))) + (S5.1 394 (w32 z7))) + (S5.1 395 (w32 (x1 + x3))))], hp S5, 0, 0)) rfl ?_
    obtain ⟨b13, F⟩ := F
    refine mv_ial rfl (sh_395) b13 ?_
    refine mv_icmp 198 rfl rfl (fun c => ?_) (fun c => ?_)
    · have F := F.1 c
      exact F
    · have F := F.2 c
      refine ev_bk 1 (S' := (172, [some (.ref 367), some (vI x1), some (vI x2), some (vI x3), some (vI z3), some (vI z7), some (vI (((((S5.1 385 (w32 (257 + z3))) + (S5.1 392 (w32 z3))) + (S5.1 387 (w32 z7))) + (S5.1 394 (w32 z7))) + (S5.1 395 (w32 (x1 + x3)))))], [.ref 367], hp S5, 0, 0)) rfl ?_
      refine mv_gfR rfl rfl (sh_367) (by decide) rfl ?_
      refine ev_bk 2 (S' := (178, [some (.ref 367), some (vI x1), some (vI x2), some (vI x3), some (vI z3), some (vI z7), some (vI (((((S5.1 385 (w32 (257 + z3))) + (S5.1 392 (w32 z3))) + (S5.1 387 (w32 z7))) + (S5.1 394 (w32 z7))) + (S5.1 395 (w32 (x1 + x3)))))], [vI (((((S5.1 385 (w32 (257 + z3))) + (S5.1 392 (w32 z3))) + (S5.1 387 (w32 z7))) + (S5.1 394 (w32 z7))) + (S5.1 395 (w32 (x1 + x3)))), vI x1, .ref 395], hp S5, 0, 0)) rfl ?_
      obtain ⟨b14, F⟩ := F
      refine mv_ias rfl (sh_395) b14 ?_
      have F := F _ rfl
      refine ev_bk 1 (S' := (180, [some (.ref 367), some (vI x1), some (vI x2), some (vI x3), some (vI z3), some (vI z7), some (vI (((((S5.1 385 (w32 (257 + z3))) + (S5.1 392 (w32 z3))) + (S5.1 387 (w32 z7))) + (S5.1 394 (w32 z7))) + (S5.1 395 (w32 (x1 + x3)))))], [.ref 367], hp (wI S5 395 (w32 x1) (((((S5.1 385 (w32 (257 + z3))) + (S5.1 392 (w32 z3))) + (S5.1 387 (w32 z7))) + (S5.1 394 (w32 z7))) + (S5.1 395 (w32 (x1 + x3))))), 0, 0)) rfl ?_
      refine mv_gfR rfl rfl (sh_367) (by decide) rfl ?_
      refine ev_bk 2 (S' := (185, [some (.ref 367), some (vI x1), some (vI x2), some (vI x3), some (vI z3), some (vI z7), some (vI (((((S5.1 385 (w32 (257 + z3))) + (S5.1 392 (w32 z3))) + (S5.1 387 (w32 z7))) + (S5.1 394 (w32 z7))) + (S5.1 395 (w32 (x1 + x3)))))], [vI x3, vI x1, .ref 396], hp (wI S5 395 (w32 x1) (((((S5.1 385 (w32 (257 + z3))) + (S5.1 392 (w32 z3))) + (S5.1 387 (w32 z7))) + (S5.1 394 (w32 z7))) + (S5.1 395 (w32 (x1 + x3))))), 0, 0)) rfl ?_
      obtain ⟨b16, F⟩ := F
      refine mv_ias rfl (sh_396) b16 ?_
      have F := F _ rfl
      refine ev_bk 1 (S' := (187, [some (.ref 367), some (vI x1), some (vI x2), some (vI x3), some (vI z3), some (vI z7), some (vI (((((S5.1 385 (w32 (257 + z3))) + (S5.1 392 (w32 z3))) + (S5.1 387 (w32 z7))) + (S5.1 394 (w32 z7))) + (S5.1 395 (w32 (x1 + x3)))))], [.ref 367], hp (wI (wI S5 395 (w32 x1) (((((S5.1 385 (w32 (257 + z3))) + (S5.1 392 (w32 z3))) + (S5.1 387 (w32 z7))) + (S5.1 394 (w32 z7))) + (S5.1 395 (w32 (x1 + x3))))) 396 (w32 x1) x3), 0, 0)) rfl ?_
      refine mv_gfR rfl rfl (sh_367) (by decide) rfl ?_
      refine ev_bk 2 (S' := (192, [some (.ref 367), some (vI x1), some (vI x2), some (vI x3), some (vI z3), some (vI z7), some (vI (((((S5.1 385 (w32 (257 + z3))) + (S5.1 392 (w32 z3))) + (S5.1 387 (w32 z7))) + (S5.1 394 (w32 z7))) + (S5.1 395 (w32 (x1 + x3)))))], [.ref 367, vI x1, .ref 397], hp (wI (wI S5 395 (w32 x1) (((((S5.1 385 (w32 (257 + z3))) + (S5.1 392 (w32 z3))) + (S5.1 387 (w32 z7))) + (S5.1 394 (w32 z7))) + (S5.1 395 (w32 (x1 + x3))))) 396 (w32 x1) x3), 0, 0)) rfl ?_
      refine mv_gfR rfl rfl (sh_367) (by decide) rfl ?_
      refine ev_bk 1 (S' := (196, [some (.ref 367), some (vI x1), some (vI x2), some (vI x3), some (vI z3), some (vI z7), some (vI (((((S5.1 385 (w32 (257 + z3))) + (S5.1 392 (w32 z3))) + (S5.1 387 (w32 z7))) + (S5.1 394 (w32 z7))) + (S5.1 395 (w32 (x1 + x3)))))], [vI x3, .ref 379, vI x1, .ref 397], hp (wI (wI S5 395 (w32 x1) (((((S5.1 385 (w32 (257 + z3))) + (S5.1 392 (w32 z3))) + (S5.1 387 (w32 z7))) + (S5.1 394 (w32 z7))) + (S5.1 395 (w32 (x1 + x3))))) 396 (w32 x1) x3), 0, 0)) rfl ?_
      obtain ⟨b18, F⟩ := F
      refine mv_ial rfl (sh_379) b18 ?_
      obtain ⟨b19, F⟩ := F
      refine mv_ias rfl (sh_397) b19 ?_
      have F := F _ rfl
      exact F
theorem vc_MD_parseLeast_198 {q : Nat × (Nat → Int32)} {S S' : ms} {r : Option Value} (x1 x2 x3 x4 x5 x6 : Int)
    (F : EV q 307 87 [some (.ref 367), some (vI x1), some (vI x2), some (vI (x3 + 1)), none, none, none] [] S r S') : EV q 307 198 [some (.ref 367), some (vI x1), some (vI x2), some (vI x3), some (vI x4), some (vI x5), some (vI x6)] [] S r S' := by
  unfold EV
  refine mv_inc (lv' := [some (.ref 367), some (vI x1), some (vI x2), some (vI (x3 + 1)), some (vI x4), some (vI x5), some (vI x6)]) 3 1 rfl rfl rfl rfl ?_
  refine mv_goto 87 rfl rfl ?_
  exact ev_wk (le_s (le_s (le_s (le_s (le_n (le_n (le_n le_0))))))) F
theorem vc_MD_parseLeast_212 {q : Nat × (Nat → Int32)} {S S' : ms} {r : Option Value} (x1 : Int)
    (F : ((w32 (S.1 367 2) ≤ w32 x1) → r = none ∧ S' = S) ∧ ((¬ w32 (S.1 367 2) ≤ w32 x1) → (0 ≤ w32 x1 ∧ w32 x1 < (6000 : Nat)) ∧ (0 ≤ w32 x1 ∧ w32 x1 < (6000 : Nat)) ∧ ∃ (S3 : ms), EV q 294 0 [some (.ref 367), some (vI (S.1 396 (w32 x1))), some (vI (S.1 397 (w32 x1))), some (vI x1)] [] S none S3 ∧ (0 ≤ w32 x1 ∧ w32 x1 < (6000 : Nat)) ∧ EV q 307 212 [some (.ref 367), some (vI (x1 + (S3.1 396 (w32 x1)))), none, none, none, none, none] [] S3 r S')) : EV q 307 212 [some (.ref 367), some (vI x1), none, none, none, none, none] [] S r S' := by
  unfold EV
  refine ev_bk 2 (S' := (214, [some (.ref 367), some (vI x1), none, none, none, none, none], [.ref 367, vI x1], hp S, 0, 0)) rfl ?_
  refine mv_gfI rfl rfl (sh_367) (by decide) rfl ?_
  refine mv_icmp 249 rfl rfl (fun c => ?_) (fun c => ?_)
  · have F := F.1 c
    obtain ⟨rfl, rfl⟩ := F
    exact ev_ret rfl rfl
  · have F := F.2 c
    refine ev_bk 2 (S' := (222, [some (.ref 367), some (vI x1), none, none, none, none, none], [.ref 367, .ref 367], hp S, 0, 0)) rfl ?_
    refine mv_gfR rfl rfl (sh_367) (by decide) rfl ?_
    refine ev_bk 1 (S' := (226, [some (.ref 367), some (vI x1), none, none, none, none, none], [vI x1, .ref 396, .ref 367], hp S, 0, 0)) rfl ?_
    obtain ⟨b1, F⟩ := F
    refine mv_ial rfl (sh_396) b1 ?_
    refine ev_bk 1 (S' := (228, [some (.ref 367), some (vI x1), none, none, none, none, none], [.ref 367, vI (S.1 396 (w32 x1)), .ref 367], hp S, 0, 0)) rfl ?_
    refine mv_gfR rfl rfl (sh_367) (by decide) rfl ?_
    refine ev_bk 1 (S' := (232, [some (.ref 367), some (vI x1), none, none, none, none, none], [vI x1, .ref 397, vI (S.1 396 (w32 x1)), .ref 367], hp S, 0, 0)) rfl ?_
    obtain ⟨b2, F⟩ := F
    refine mv_ial rfl (sh_397) b2 ?_
    refine ev_bk 1 (S' := (234, [some (.ref 367), some (vI x1), none, none, none, none, none], [vI x1, vI (S.1 397 (w32 x1)), vI (S.1 396 (w32 x1)), .ref 367], hp S, 0, 0)) rfl ?_
    obtain ⟨S3, e4, F⟩ := F
    refine mv_calv (as := [vI (S.1 396 (w32 x1)), vI (S.1 397 (w32 x1)), vI x1]) (rest := []) e4 (sh_367) rfl rfl rfl ⟨rfl, rfl⟩ rfl rfl rfl rfl rfl ?_
    refine ev_bk 2 (S' := (239, [some (.ref 367), some (vI x1), none, none, none, none, none], [.ref 367, vI x1], hp S3, 0, 0)) rfl ?_
    refine mv_gfR rfl rfl (sh_367) (by decide) rfl ?_
    refine ev_bk 1 (S' := (243, [some (.ref 367), some (vI x1), none, none, none, none, none], [vI x1, .ref 396, vI x1], hp S3, 0, 0)) rfl ?_
    obtain ⟨b5, F⟩ := F
    refine mv_ial rfl (sh_396) b5 ?_
    refine mv_iadd rfl ?_
    refine ev_bk 1 (S' := (246, [some (.ref 367), some (vI (x1 + (S3.1 396 (w32 x1)))), none, none, none, none, none], [], hp S3, 0, 0)) rfl ?_
    refine mv_goto 212 rfl rfl ?_
    exact F
theorem vc_MD_packRim {q : Nat × (Nat → Int32)} {S S' : ms} {r : Option Value} (x1 : Int)
    (F : ((w32 x1 ≤ 3) → EV q 308 10 [some (.ref 367), some (vI x1), none] [vI x1] S r S') ∧ ((¬ w32 x1 ≤ 3) → EV q 308 10 [some (.ref 367), some (vI x1), none] [vI 3] S r S')) : EV q 308 0 [some (.ref 367), some (vI x1), none] [] S r S' := by
  unfold EV
  refine ev_bk 2 (S' := (2, [some (.ref 367), some (vI x1), none], [vI 3, vI x1], hp S, 0, 0)) rfl ?_
  refine mv_icmp 9 rfl rfl (fun c => ?_) (fun c => ?_)
  · have F := F.1 c
    refine ev_bk 1 (S' := (10, [some (.ref 367), some (vI x1), none], [vI x1], hp S, 0, 0)) rfl ?_
    exact F
  · have F := F.2 c
    refine ev_bk 1 (S' := (6, [some (.ref 367), some (vI x1), none], [vI 3], hp S, 0, 0)) rfl ?_
    refine mv_goto 10 rfl rfl ?_
    exact F
theorem vc_MD_packRim_10 {q : Nat × (Nat → Int32)} {S S' : ms} {r : Option Value} (x1 y0 : Int)
    (F : EV q 308 14 [some (.ref 367), some (vI x1), some (vI (y0 * 64))] [] S r S') : EV q 308 10 [some (.ref 367), some (vI x1), none] [vI y0] S r S' := by
  unfold EV
  refine ev_bk 1 (S' := (12, [some (.ref 367), some (vI x1), none], [vI 6, vI y0], hp S, 0, 0)) rfl ?_
  refine mv_ishl 64 rfl rfl ?_
  refine ev_bk 1 (S' := (14, [some (.ref 367), some (vI x1), some (vI (y0 * 64))], [], hp S, 0, 0)) rfl ?_
  exact F
theorem vc_MD_packRim_14 {q : Nat × (Nat → Int32)} {S S' : ms} {r : Option Value} (x1 x2 : Int)
    (F : ((w32 (Int.tmod (w32 (30720 + x2)) (w32 31)) = 0) → ∃ (S1 : ms), EV q 282 0 [some (.ref 367), some (vI 120)] [] S none S1 ∧ ∃ (S3 : ms), EV q 282 0 [some (.ref 367), some (vI x2)] [] S1 none S3 ∧ ∃ (S5 : ms), EV q 289 0 [some (.ref 367), some (vI x1), none, none, none, none, none] [] S3 none S5 ∧ ∃ (z9 : Int) (S7 : ms), EV q 263 0 [some (.ref 368), some (vI 0), some (vI (S5.1 367 2)), none, none, none] [] S5 (some (vL z9)) S7 ∧ ∃ (S10 : ms), EV q 309 0 [some (.ref 367), some (vL z9), none, some (vI 4), none] [] S7 none S10 ∧ r = none ∧ S' = S10) ∧ ((¬ w32 (Int.tmod (w32 (30720 + x2)) (w32 31)) = 0) → EV q 308 14 [some (.ref 367), some (vI x1), some (vI (x2 + 1))] [] S r S')) : EV q 308 14 [some (.ref 367), some (vI x1), some (vI x2)] [] S r S' := by
  unfold EV
  refine ev_bk 2 (S' := (18, [some (.ref 367), some (vI x1), some (vI x2)], [vI x2, vI 30720], hp S, 0, 0)) rfl ?_
  refine mv_iadd rfl ?_
  refine ev_bk 1 (S' := (21, [some (.ref 367), some (vI x1), some (vI x2)], [vI 31, vI (30720 + x2)], hp S, 0, 0)) rfl ?_
  refine mv_irem (by decide) rfl ?_
  refine mv_if 31 rfl rfl (fun c => ?_) (fun c => ?_)
  · have F := F.1 c
    refine ev_bk 2 (S' := (34, [some (.ref 367), some (vI x1), some (vI x2)], [vI 120, .ref 367], hp S, 0, 0)) rfl ?_
    obtain ⟨S1, e2, F⟩ := F
    refine mv_calv (as := [vI 120]) (rest := []) e2 (sh_367) rfl rfl rfl ⟨rfl, rfl⟩ rfl rfl rfl rfl rfl ?_
    refine ev_bk 2 (S' := (39, [some (.ref 367), some (vI x1), some (vI x2)], [vI x2, .ref 367], hp S1, 0, 0)) rfl ?_
    obtain ⟨S3, e4, F⟩ := F
    refine mv_calv (as := [vI x2]) (rest := []) e4 (sh_367) rfl rfl rfl ⟨rfl, rfl⟩ rfl rfl rfl rfl rfl ?_
    refine ev_bk 2 (S' := (44, [some (.ref 367), some (vI x1), some (vI x2)], [vI x1, .ref 367], hp S3, 0, 0)) rfl ?_
    obtain ⟨S5, e6, F⟩ := F
    refine mv_calv (as := [vI x1]) (rest := []) e6 (sh_367) rfl rfl rfl ⟨rfl, rfl⟩ rfl rfl rfl rfl rfl ?_
    refine ev_bk 2 (S' := (49, [some (.ref 367), some (vI x1), some (vI x2)], [.ref 367, .ref 367], hp S5, 0, 0)) rfl ?_
    refine mv_gfR rfl rfl (sh_367) (by decide) rfl ?_
    refine ev_bk 2 (S' := (54, [some (.ref 367), some (vI x1), some (vI x2)], [.ref 367, vI 0, .ref 368, .ref 367], hp S5, 0, 0)) rfl ?_
    refine mv_gfI rfl rfl (sh_367) (by decide) rfl ?_
    obtain ⟨z9, S7, e8, F⟩ := F
    refine mv_cals (as := [.ref 368, vI 0, vI (S5.1 367 2)]) (rest := [.ref 367]) e8 rfl rfl rfl ⟨rfl, rfl, rfl⟩ rfl rfl rfl rfl ?_
    refine ev_bk 1 (S' := (61, [some (.ref 367), some (vI x1), some (vI x2)], [vI 4, vL z9, .ref 367], hp S7, 0, 0)) rfl ?_
    obtain ⟨S10, e11, F⟩ := F
    refine mv_calv (as := [vL z9, vI 4]) (rest := []) e11 (sh_367) rfl rfl rfl ⟨rfl, rfl⟩ rfl rfl rfl rfl rfl ?_
    obtain ⟨rfl, rfl⟩ := F
    exact ev_ret rfl rfl
  · have F := F.2 c
    refine mv_inc (lv' := [some (.ref 367), some (vI x1), some (vI (x2 + 1))]) 2 1 rfl rfl rfl rfl ?_
    refine mv_goto 14 rfl rfl ?_
    exact F
theorem vc_MD_highFirst {q : Nat × (Nat → Int32)} {S S' : ms} {r : Option Value} (x1 x3 : Int)
    (F : EV q 309 5 [some (.ref 367), some (vL x1), none, some (vI x3), some (vI (x3 - 1))] [] S r S') : EV q 309 0 [some (.ref 367), some (vL x1), none, some (vI x3), none] [] S r S' := by
  unfold EV
  refine ev_bk 2 (S' := (2, [some (.ref 367), some (vL x1), none, some (vI x3), none], [vI 1, vI x3], hp S, 0, 0)) rfl ?_
  refine mv_isub rfl ?_
  refine ev_bk 1 (S' := (5, [some (.ref 367), some (vL x1), none, some (vI x3), some (vI (x3 - 1))], [], hp S, 0, 0)) rfl ?_
  exact F
theorem vc_MD_highFirst_5 {q : Nat × (Nat → Int32)} {S S' : ms} {r : Option Value} (x1 x3 x4 : Int)
    (F : ((w32 x4 < 0) → r = none ∧ S' = S) ∧ ((¬ w32 x4 < 0) → ∃ (S1 : ms), EV q 282 0 [some (.ref 367), some (vI (w64 x1 / ((2 : Int) ^ ((8 * x4) % 64).toNat)))] [] S none S1 ∧ EV q 309 5 [some (.ref 367), some (vL x1), none, some (vI x3), some (vI (x4 - 1))] [] S1 r S')) : EV q 309 5 [some (.ref 367), some (vL x1), none, some (vI x3), some (vI x4)] [] S r S' := by
  unfold EV
  refine ev_bk 1 (S' := (7, [some (.ref 367), some (vL x1), none, some (vI x3), some (vI x4)], [vI x4], hp S, 0, 0)) rfl ?_
  refine mv_if 28 rfl rfl (fun c => ?_) (fun c => ?_)
  · have F := F.1 c
    obtain ⟨rfl, rfl⟩ := F
    exact ev_ret rfl rfl
  · have F := F.2 c
    refine ev_bk 4 (S' := (16, [some (.ref 367), some (vL x1), none, some (vI x3), some (vI x4)], [vI x4, vI 8, vL x1, .ref 367], hp S, 0, 0)) rfl ?_
    refine mv_imul rfl ?_
    refine mv_lshr ((2 : Int) ^ ((8 * x4) % 64).toNat) rfl rfl ?_
    refine mv_l2i rfl ?_
    obtain ⟨S1, e2, F⟩ := F
    refine mv_calv (as := [vI (w64 x1 / ((2 : Int) ^ ((8 * x4) % 64).toNat))]) (rest := []) e2 (sh_367) rfl rfl rfl ⟨rfl, rfl⟩ rfl rfl rfl rfl rfl ?_
    refine mv_inc (lv' := [some (.ref 367), some (vL x1), none, some (vI x3), some (vI (x4 - 1))]) 4 (-1) rfl rfl rfl (by omega) ?_
    refine mv_goto 5 rfl rfl ?_
    exact F
theorem vc_MD_packMember {q : Nat × (Nat → Int32)} {S S' : ms} {r : Option Value} (x1 : Int)
    (F : ∃ (S1 : ms), EV q 282 0 [some (.ref 367), some (vI 31)] [] S none S1 ∧ ∃ (S3 : ms), EV q 282 0 [some (.ref 367), some (vI 139)] [] S1 none S3 ∧ ∃ (S5 : ms), EV q 282 0 [some (.ref 367), some (vI 8)] [] S3 none S5 ∧ ∃ (S7 : ms), EV q 282 0 [some (.ref 367), some (vI 0)] [] S5 none S7 ∧ ∃ (S9 : ms), EV q 291 0 [some (.ref 367), some (vL 0), none, some (vI 4), none] [] S7 none S9 ∧ ∃ (S11 : ms), EV q 282 0 [some (.ref 367), some (vI 0)] [] S9 none S11 ∧ ∃ (S13 : ms), EV q 282 0 [some (.ref 367), some (vI 255)] [] S11 none S13 ∧ ∃ (S15 : ms), EV q 289 0 [some (.ref 367), some (vI x1), none, none, none, none, none] [] S13 none S15 ∧ ∃ (z19 : Int) (S17 : ms), EV q 264 0 [some (.ref 367), some (.ref 368), some (vI 0), some (vI (S15.1 367 2)), none, none] [] S15 (some (vI z19)) S17 ∧ ∃ (S20 : ms), EV q 291 0 [some (.ref 367), some (vL (w32 z19)), none, some (vI 4), none] [] S17 none S20 ∧ ∃ (S22 : ms), EV q 291 0 [some (.ref 367), some (vL (w32 (S20.1 367 2))), none, some (vI 4), none] [] S20 none S22 ∧ r = none ∧ S' = S22) : EV q 310 0 [some (.ref 367), some (vI x1)] [] S r S' := by
  unfold EV
  refine ev_bk 2 (S' := (3, [some (.ref 367), some (vI x1)], [vI 31, .ref 367], hp S, 0, 0)) rfl ?_
  obtain ⟨S1, e2, F⟩ := F
  refine mv_calv (as := [vI 31]) (rest := []) e2 (sh_367) rfl rfl rfl ⟨rfl, rfl⟩ rfl rfl rfl rfl rfl ?_
  refine ev_bk 2 (S' := (10, [some (.ref 367), some (vI x1)], [vI 139, .ref 367], hp S1, 0, 0)) rfl ?_
  obtain ⟨S3, e4, F⟩ := F
  refine mv_calv (as := [vI 139]) (rest := []) e4 (sh_367) rfl rfl rfl ⟨rfl, rfl⟩ rfl rfl rfl rfl rfl ?_
  refine ev_bk 2 (S' := (16, [some (.ref 367), some (vI x1)], [vI 8, .ref 367], hp S3, 0, 0)) rfl ?_
  obtain ⟨S5, e6, F⟩ := F
  refine mv_calv (as := [vI 8]) (rest := []) e6 (sh_367) rfl rfl rfl ⟨rfl, rfl⟩ rfl rfl rfl rfl rfl ?_
  refine ev_bk 2 (S' := (21, [some (.ref 367), some (vI x1)], [vI 0, .ref 367], hp S5, 0, 0)) rfl ?_
  obtain ⟨S7, e8, F⟩ := F
  refine mv_calv (as := [vI 0]) (rest := []) e8 (sh_367) rfl rfl rfl ⟨rfl, rfl⟩ rfl rfl rfl rfl rfl ?_
  refine ev_bk 3 (S' := (27, [some (.ref 367), some (vI x1)], [vI 4, vL 0, .ref 367], hp S7, 0, 0)) rfl ?_
  obtain ⟨S9, e10, F⟩ := F
  refine mv_calv (as := [vL 0, vI 4]) (rest := []) e10 (sh_367) rfl rfl rfl ⟨rfl, rfl⟩ rfl rfl rfl rfl rfl ?_
  refine ev_bk 2 (S' := (32, [some (.ref 367), some (vI x1)], [vI 0, .ref 367], hp S9, 0, 0)) rfl ?_
  obtain ⟨S11, e12, F⟩ := F
  refine mv_calv (as := [vI 0]) (rest := []) e12 (sh_367) rfl rfl rfl ⟨rfl, rfl⟩ rfl rfl rfl rfl rfl ?_
  refine ev_bk 2 (S' := (39, [some (.ref 367), some (vI x1)], [vI 255, .ref 367], hp S11, 0, 0)) rfl ?_
  obtain ⟨S13, e14, F⟩ := F
  refine mv_calv (as := [vI 255]) (rest := []) e14 (sh_367) rfl rfl rfl ⟨rfl, rfl⟩ rfl rfl rfl rfl rfl ?_
  refine ev_bk 2 (S' := (44, [some (.ref 367), some (vI x1)], [vI x1, .ref 367], hp S13, 0, 0)) rfl ?_
  obtain ⟨S15, e16, F⟩ := F
  refine mv_calv (as := [vI x1]) (rest := []) e16 (sh_367) rfl rfl rfl ⟨rfl, rfl⟩ rfl rfl rfl rfl rfl ?_
  refine ev_bk 3 (S' := (50, [some (.ref 367), some (vI x1)], [.ref 367, .ref 367, .ref 367], hp S15, 0, 0)) rfl ?_
  refine mv_gfR rfl rfl (sh_367) (by decide) rfl ?_
  refine ev_bk 2 (S' := (55, [some (.ref 367), some (vI x1)], [.ref 367, vI 0, .ref 368, .ref 367, .ref 367], hp S15, 0, 0)) rfl ?_
  refine mv_gfI rfl rfl (sh_367) (by decide) rfl ?_
  obtain ⟨z19, S17, e18, F⟩ := F
  refine mv_calv (as := [.ref 368, vI 0, vI (S15.1 367 2)]) (rest := [.ref 367]) e18 (sh_367) rfl rfl rfl ⟨rfl, rfl⟩ rfl rfl rfl rfl rfl ?_
  refine mv_i2l rfl ?_
  refine ev_bk 1 (S' := (63, [some (.ref 367), some (vI x1)], [vI 4, vL (w32 z19), .ref 367], hp S17, 0, 0)) rfl ?_
  obtain ⟨S20, e21, F⟩ := F
  refine mv_calv (as := [vL (w32 z19), vI 4]) (rest := []) e21 (sh_367) rfl rfl rfl ⟨rfl, rfl⟩ rfl rfl rfl rfl rfl ?_
  refine ev_bk 2 (S' := (68, [some (.ref 367), some (vI x1)], [.ref 367, .ref 367], hp S20, 0, 0)) rfl ?_
  refine mv_gfI rfl rfl (sh_367) (by decide) rfl ?_
  refine mv_i2l rfl ?_
  refine ev_bk 1 (S' := (73, [some (.ref 367), some (vI x1)], [vI 4, vL (w32 (S20.1 367 2)), .ref 367], hp S20, 0, 0)) rfl ?_
  obtain ⟨S22, e23, F⟩ := F
  refine mv_calv (as := [vL (w32 (S20.1 367 2)), vI 4]) (rest := []) e23 (sh_367) rfl rfl rfl ⟨rfl, rfl⟩ rfl rfl rfl rfl rfl ?_
  obtain ⟨rfl, rfl⟩ := F
  exact ev_ret rfl rfl
theorem vc_MD_packFast {q : Nat × (Nat → Int32)} {S S' : ms} {r : Option Value}
    (F : ∀ S1 : ms, S1 = wI S 367 29 0 → EV q 311 9 [some (.ref 367), some (vI 0), some (vI 0), none] [] S1 r S') : EV q 311 0 [some (.ref 367), none, none, none] [] S r S' := by
  unfold EV
  refine ev_bk 2 (S' := (2, [some (.ref 367), none, none, none], [vI 0, .ref 367], hp S, 0, 0)) rfl ?_
  refine mv_pfI rfl rfl (sh_367) (by decide) rfl rfl ?_
  have F := F _ rfl
  refine ev_bk 4 (S' := (9, [some (.ref 367), some (vI 0), some (vI 0), none], [], hp (wI S 367 29 0), 0, 0)) rfl ?_
  exact F
theorem vc_MD_packFast_9 {q : Nat × (Nat → Int32)} {S S' : ms} {r : Option Value} (x1 x2 : Int)
    (F : ((w32 (S.1 367 2) ≤ w32 x2) → ∃ (S1 : ms), EV q 312 0 [some (.ref 367), some (vI x1), some (vI ((S.1 367 2) - x1)), some (vI 0), some (vI 0), none, none] [] S none S1 ∧ r = none ∧ S' = S1) ∧ ((¬ w32 (S.1 367 2) ≤ w32 x2) → ((w32 ((S.1 367 2) - x2) < 12) → EV q 311 80 [some (.ref 367), some (vI x1), some (vI x2), some (vI 0)] [] S r S') ∧ ((¬ w32 ((S.1 367 2) - x2) < 12) → ∃ (S3 : ms), EV q 293 0 [some (.ref 367), some (.ref 368), some (vI (S.1 367 2)), some (vI x2), some (vI 6000), some (vI 65535), none, none, none, none, none] [] S none S3 ∧ ((w32 (S3.1 367 26) ≤ w32 (((S3.1 367 2) - 5) - x2)) → EV q 311 79 [some (.ref 367), some (vI x1), some (vI x2), some (vI 0)] [vI (S3.1 367 26)] S3 r S') ∧ ((¬ w32 (S3.1 367 26) ≤ w32 (((S3.1 367 2) - 5) - x2)) → EV q 311 79 [some (.ref 367), some (vI x1), some (vI x2), some (vI 0)] [vI (((S3.1 367 2) - 5) - x2)] S3 r S')))) : EV q 311 9 [some (.ref 367), some (vI x1), some (vI x2), none] [] S r S' := by
  unfold EV
  refine ev_bk 2 (S' := (11, [some (.ref 367), some (vI x1), some (vI x2), none], [.ref 367, vI x2], hp S, 0, 0)) rfl ?_
  refine mv_gfI rfl rfl (sh_367) (by decide) rfl ?_
  refine mv_icmp 130 rfl rfl (fun c => ?_) (fun c => ?_)
  · have F := F.1 c
    refine ev_bk 3 (S' := (133, [some (.ref 367), some (vI x1), some (vI x2), none], [.ref 367, vI x1, .ref 367], hp S, 0, 0)) rfl ?_
    refine mv_gfI rfl rfl (sh_367) (by decide) rfl ?_
    refine ev_bk 1 (S' := (137, [some (.ref 367), some (vI x1), some (vI x2), none], [vI x1, vI (S.1 367 2), vI x1, .ref 367], hp S, 0, 0)) rfl ?_
    refine mv_isub rfl ?_
    refine ev_bk 2 (S' := (140, [some (.ref 367), some (vI x1), some (vI x2), none], [vI 0, vI 0, vI ((S.1 367 2) - x1), vI x1, .ref 367], hp S, 0, 0)) rfl ?_
    obtain ⟨S1, e2, F⟩ := F
    refine mv_calv (as := [vI x1, vI ((S.1 367 2) - x1), vI 0, vI 0]) (rest := []) e2 (sh_367) rfl rfl rfl ⟨rfl, rfl⟩ rfl rfl rfl rfl rfl ?_
    obtain ⟨rfl, rfl⟩ := F
    exact ev_ret rfl rfl
  · have F := F.2 c
    refine ev_bk 3 (S' := (20, [some (.ref 367), some (vI x1), some (vI x2), some (vI 0)], [.ref 367], hp S, 0, 0)) rfl ?_
    refine mv_gfI rfl rfl (sh_367) (by decide) rfl ?_
    refine ev_bk 1 (S' := (24, [some (.ref 367), some (vI x1), some (vI x2), some (vI 0)], [vI x2, vI (S.1 367 2)], hp S, 0, 0)) rfl ?_
    refine mv_isub rfl ?_
    refine ev_bk 1 (S' := (27, [some (.ref 367), some (vI x1), some (vI x2), some (vI 0)], [vI 12, vI ((S.1 367 2) - x2)], hp S, 0, 0)) rfl ?_
    refine mv_icmp 80 rfl rfl (fun c => ?_) (fun c => ?_)
    · have F := F.1 c
      exact F
    · have F := F.2 c
      refine ev_bk 2 (S' := (32, [some (.ref 367), some (vI x1), some (vI x2), some (vI 0)], [.ref 367, .ref 367], hp S, 0, 0)) rfl ?_
      refine mv_gfR rfl rfl (sh_367) (by decide) rfl ?_
      refine ev_bk 1 (S' := (36, [some (.ref 367), some (vI x1), some (vI x2), some (vI 0)], [.ref 367, .ref 368, .ref 367], hp S, 0, 0)) rfl ?_
      refine mv_gfI rfl rfl (sh_367) (by decide) rfl ?_
      refine ev_bk 3 (S' := (46, [some (.ref 367), some (vI x1), some (vI x2), some (vI 0)], [vI 65535, vI 6000, vI x2, vI (S.1 367 2), .ref 368, .ref 367], hp S, 0, 0)) rfl ?_
      obtain ⟨S3, e4, F⟩ := F
      refine mv_calv (as := [.ref 368, vI (S.1 367 2), vI x2, vI 6000, vI 65535]) (rest := []) e4 (sh_367) rfl rfl rfl ⟨rfl, rfl⟩ rfl rfl rfl rfl rfl ?_
      refine ev_bk 1 (S' := (50, [some (.ref 367), some (vI x1), some (vI x2), some (vI 0)], [.ref 367], hp S3, 0, 0)) rfl ?_
      refine mv_gfI rfl rfl (sh_367) (by decide) rfl ?_
      refine ev_bk 1 (S' := (54, [some (.ref 367), some (vI x1), some (vI x2), some (vI 0)], [.ref 367, vI (S3.1 367 26)], hp S3, 0, 0)) rfl ?_
      refine mv_gfI rfl rfl (sh_367) (by decide) rfl ?_
      refine ev_bk 1 (S' := (58, [some (.ref 367), some (vI x1), some (vI x2), some (vI 0)], [vI 5, vI (S3.1 367 2), vI (S3.1 367 26)], hp S3, 0, 0)) rfl ?_
      refine mv_isub rfl ?_
      refine ev_bk 1 (S' := (60, [some (.ref 367), some (vI x1), some (vI x2), some (vI 0)], [vI x2, vI ((S3.1 367 2) - 5), vI (S3.1 367 26)], hp S3, 0, 0)) rfl ?_
      refine mv_isub rfl ?_
      refine mv_icmp 75 rfl rfl (fun c => ?_) (fun c => ?_)
      · have F := F.1 c
        refine ev_bk 1 (S' := (76, [some (.ref 367), some (vI x1), some (vI x2), some (vI 0)], [.ref 367], hp S3, 0, 0)) rfl ?_
        refine mv_gfI rfl rfl (sh_367) (by decide) rfl ?_
        exact F
      · have F := F.2 c
        refine ev_bk 1 (S' := (65, [some (.ref 367), some (vI x1), some (vI x2), some (vI 0)], [.ref 367], hp S3, 0, 0)) rfl ?_
        refine mv_gfI rfl rfl (sh_367) (by decide) rfl ?_
        refine ev_bk 1 (S' := (69, [some (.ref 367), some (vI x1), some (vI x2), some (vI 0)], [vI 5, vI (S3.1 367 2)], hp S3, 0, 0)) rfl ?_
        refine mv_isub rfl ?_
        refine ev_bk 1 (S' := (71, [some (.ref 367), some (vI x1), some (vI x2), some (vI 0)], [vI x2, vI ((S3.1 367 2) - 5)], hp S3, 0, 0)) rfl ?_
        refine mv_isub rfl ?_
        refine mv_goto 79 rfl rfl ?_
        exact F
theorem vc_MD_packFast_79 {q : Nat × (Nat → Int32)} {S S' : ms} {r : Option Value} (x1 x2 x3 y0 : Int)
    (F : EV q 311 80 [some (.ref 367), some (vI x1), some (vI x2), some (vI y0)] [] S r S') : EV q 311 79 [some (.ref 367), some (vI x1), some (vI x2), some (vI x3)] [vI y0] S r S' := by
  unfold EV
  refine ev_bk 1 (S' := (80, [some (.ref 367), some (vI x1), some (vI x2), some (vI y0)], [], hp S, 0, 0)) rfl ?_
  exact F
theorem vc_MD_packFast_80 {q : Nat × (Nat → Int32)} {S S' : ms} {r : Option Value} (x1 x2 x3 : Int)
    (F : ((w32 x3 < 4) → ∃ (S1 : ms), EV q 294 0 [some (.ref 367), some (vI 1), some (vI 0), some (vI x2)] [] S none S1 ∧ EV q 311 127 [some (.ref 367), some (vI x1), some (vI (x2 + 1)), some (vI x3)] [] S1 r S') ∧ ((¬ w32 x3 < 4) → ∃ (S3 : ms), EV q 294 0 [some (.ref 367), some (vI x3), some (vI (S.1 367 27)), some (vI x2)] [] S none S3 ∧ ∃ (S5 : ms), EV q 312 0 [some (.ref 367), some (vI x1), some (vI (x2 - x1)), some (vI x3), some (vI (S3.1 367 27)), none, none] [] S3 none S5 ∧ EV q 311 127 [some (.ref 367), some (vI (x2 + x3)), some (vI (x2 + x3)), some (vI x3)] [] S5 r S')) : EV q 311 80 [some (.ref 367), some (vI x1), some (vI x2), some (vI x3)] [] S r S' := by
  unfold EV
  refine ev_bk 2 (S' := (82, [some (.ref 367), some (vI x1), some (vI x2), some (vI x3)], [vI 4, vI x3], hp S, 0, 0)) rfl ?_
  refine mv_icmp 117 rfl rfl (fun c => ?_) (fun c => ?_)
  · have F := F.1 c
    refine ev_bk 4 (S' := (121, [some (.ref 367), some (vI x1), some (vI x2), some (vI x3)], [vI x2, vI 0, vI 1, .ref 367], hp S, 0, 0)) rfl ?_
    obtain ⟨S1, e2, F⟩ := F
    refine mv_calv (as := [vI 1, vI 0, vI x2]) (rest := []) e2 (sh_367) rfl rfl rfl ⟨rfl, rfl⟩ rfl rfl rfl rfl rfl ?_
    refine mv_inc (lv' := [some (.ref 367), some (vI x1), some (vI (x2 + 1)), some (vI x3)]) 2 1 rfl rfl rfl rfl ?_
    exact F
  · have F := F.2 c
    refine ev_bk 3 (S' := (88, [some (.ref 367), some (vI x1), some (vI x2), some (vI x3)], [.ref 367, vI x3, .ref 367], hp S, 0, 0)) rfl ?_
    refine mv_gfI rfl rfl (sh_367) (by decide) rfl ?_
    refine ev_bk 1 (S' := (92, [some (.ref 367), some (vI x1), some (vI x2), some (vI x3)], [vI x2, vI (S.1 367 27), vI x3, .ref 367], hp S, 0, 0)) rfl ?_
    obtain ⟨S3, e4, F⟩ := F
    refine mv_calv (as := [vI x3, vI (S.1 367 27), vI x2]) (rest := []) e4 (sh_367) rfl rfl rfl ⟨rfl, rfl⟩ rfl rfl rfl rfl rfl ?_
    refine ev_bk 4 (S' := (99, [some (.ref 367), some (vI x1), some (vI x2), some (vI x3)], [vI x1, vI x2, vI x1, .ref 367], hp S3, 0, 0)) rfl ?_
    refine mv_isub rfl ?_
    refine ev_bk 2 (S' := (102, [some (.ref 367), some (vI x1), some (vI x2), some (vI x3)], [.ref 367, vI x3, vI (x2 - x1), vI x1, .ref 367], hp S3, 0, 0)) rfl ?_
    refine mv_gfI rfl rfl (sh_367) (by decide) rfl ?_
    obtain ⟨S5, e6, F⟩ := F
    refine mv_calv (as := [vI x1, vI (x2 - x1), vI x3, vI (S3.1 367 27)]) (rest := []) e6 (sh_367) rfl rfl rfl ⟨rfl, rfl⟩ rfl rfl rfl rfl rfl ?_
    refine ev_bk 2 (S' := (110, [some (.ref 367), some (vI x1), some (vI x2), some (vI x3)], [vI x3, vI x2], hp S5, 0, 0)) rfl ?_
    refine mv_iadd rfl ?_
    refine ev_bk 3 (S' := (114, [some (.ref 367), some (vI (x2 + x3)), some (vI (x2 + x3)), some (vI x3)], [], hp S5, 0, 0)) rfl ?_
    refine mv_goto 127 rfl rfl ?_
    exact F
theorem vc_MD_packFast_127 {q : Nat × (Nat → Int32)} {S S' : ms} {r : Option Value} (x1 x2 x3 : Int)
    (F : EV q 311 9 [some (.ref 367), some (vI x1), some (vI x2), none] [] S r S') : EV q 311 127 [some (.ref 367), some (vI x1), some (vI x2), some (vI x3)] [] S r S' := by
  unfold EV
  refine mv_goto 9 rfl rfl ?_
  exact ev_wk (le_s (le_s (le_s (le_n le_0)))) F
theorem vc_MD_sequence {q : Nat × (Nat → Int32)} {S S' : ms} {r : Option Value} (x1 x2 x3 x4 : Int)
    (F : ((¬ w32 x3 = 0) → EV q 312 11 [some (.ref 367), some (vI x1), some (vI x2), some (vI x3), some (vI x4), none, none] [vI (x3 - 4)] S r S') ∧ ((¬ (¬ w32 x3 = 0)) → EV q 312 11 [some (.ref 367), some (vI x1), some (vI x2), some (vI x3), some (vI x4), none, none] [vI 0] S r S')) : EV q 312 0 [some (.ref 367), some (vI x1), some (vI x2), some (vI x3), some (vI x4), none, none] [] S r S' := by
  unfold EV
  refine ev_bk 1 (S' := (1, [some (.ref 367), some (vI x1), some (vI x2), some (vI x3), some (vI x4), none, none], [vI x3], hp S, 0, 0)) rfl ?_
  refine mv_if 8 rfl rfl (fun c => ?_) (fun c => ?_)
  · have F := F.1 c
    refine ev_bk 2 (S' := (10, [some (.ref 367), some (vI x1), some (vI x2), some (vI x3), some (vI x4), none, none], [vI 4, vI x3], hp S, 0, 0)) rfl ?_
    refine mv_isub rfl ?_
    exact F
  · have F := F.2 c
    refine ev_bk 1 (S' := (5, [some (.ref 367), some (vI x1), some (vI x2), some (vI x3), some (vI x4), none, none], [vI 0], hp S, 0, 0)) rfl ?_
    refine mv_goto 11 rfl rfl ?_
    exact F
theorem vc_MD_sequence_11 {q : Nat × (Nat → Int32)} {S S' : ms} {r : Option Value} (x1 x2 x3 x4 y0 : Int)
    (F : ((15 ≤ w32 x2) → EV q 312 26 [some (.ref 367), some (vI x1), some (vI x2), some (vI x3), some (vI x4), some (vI y0), none] [vI 15, .ref 367] S r S') ∧ ((¬ 15 ≤ w32 x2) → EV q 312 26 [some (.ref 367), some (vI x1), some (vI x2), some (vI x3), some (vI x4), some (vI y0), none] [vI x2, .ref 367] S r S')) : EV q 312 11 [some (.ref 367), some (vI x1), some (vI x2), some (vI x3), some (vI x4), none, none] [vI y0] S r S' := by
  unfold EV
  refine ev_bk 4 (S' := (17, [some (.ref 367), some (vI x1), some (vI x2), some (vI x3), some (vI x4), some (vI y0), none], [vI 15, vI x2, .ref 367], hp S, 0, 0)) rfl ?_
  refine mv_icmp 24 rfl rfl (fun c => ?_) (fun c => ?_)
  · have F := F.1 c
    refine ev_bk 1 (S' := (26, [some (.ref 367), some (vI x1), some (vI x2), some (vI x3), some (vI x4), some (vI y0), none], [vI 15, .ref 367], hp S, 0, 0)) rfl ?_
    exact F
  · have F := F.2 c
    refine ev_bk 1 (S' := (21, [some (.ref 367), some (vI x1), some (vI x2), some (vI x3), some (vI x4), some (vI y0), none], [vI x2, .ref 367], hp S, 0, 0)) rfl ?_
    refine mv_goto 26 rfl rfl ?_
    exact F
theorem vc_MD_sequence_26 {q : Nat × (Nat → Int32)} {S S' : ms} {r : Option Value} (x1 x2 x3 x4 x5 y0 : Int)
    (F : ((15 ≤ w32 x5) → EV q 312 42 [some (.ref 367), some (vI x1), some (vI x2), some (vI x3), some (vI x4), some (vI x5), none] [vI 15, vI (y0 * 16), .ref 367] S r S') ∧ ((¬ 15 ≤ w32 x5) → EV q 312 42 [some (.ref 367), some (vI x1), some (vI x2), some (vI x3), some (vI x4), some (vI x5), none] [vI x5, vI (y0 * 16), .ref 367] S r S')) : EV q 312 26 [some (.ref 367), some (vI x1), some (vI x2), some (vI x3), some (vI x4), some (vI x5), none] [vI y0, .ref 367] S r S' := by
  unfold EV
  refine ev_bk 1 (S' := (27, [some (.ref 367), some (vI x1), some (vI x2), some (vI x3), some (vI x4), some (vI x5), none], [vI 4, vI y0, .ref 367], hp S, 0, 0)) rfl ?_
  refine mv_ishl 16 rfl rfl ?_
  refine ev_bk 2 (S' := (32, [some (.ref 367), some (vI x1), some (vI x2), some (vI x3), some (vI x4), some (vI x5), none], [vI 15, vI x5, vI (y0 * 16), .ref 367], hp S, 0, 0)) rfl ?_
  refine mv_icmp 40 rfl rfl (fun c => ?_) (fun c => ?_)
  · have F := F.1 c
    refine ev_bk 1 (S' := (42, [some (.ref 367), some (vI x1), some (vI x2), some (vI x3), some (vI x4), some (vI x5), none], [vI 15, vI (y0 * 16), .ref 367], hp S, 0, 0)) rfl ?_
    exact F
  · have F := F.2 c
    refine ev_bk 1 (S' := (37, [some (.ref 367), some (vI x1), some (vI x2), some (vI x3), some (vI x4), some (vI x5), none], [vI x5, vI (y0 * 16), .ref 367], hp S, 0, 0)) rfl ?_
    refine mv_goto 42 rfl rfl ?_
    exact F
theorem vc_MD_sequence_42 {q : Nat × (Nat → Int32)} {S S' : ms} {r : Option Value} (x1 x2 x3 x4 x5 y0 y1 : Int)
    (F : ∃ (S1 : ms), EV q 282 0 [some (.ref 367), some (vI (bO y1 y0))] [] S none S1 ∧ ((w32 x2 < 15) → EV q 312 60 [some (.ref 367), some (vI x1), some (vI x2), some (vI x3), some (vI x4), some (vI x5), none] [] S1 r S') ∧ ((¬ w32 x2 < 15) → ∃ (S3 : ms), EV q 313 0 [some (.ref 367), some (vI (x2 - 15)), none] [] S1 none S3 ∧ EV q 312 60 [some (.ref 367), some (vI x1), some (vI x2), some (vI x3), some (vI x4), some (vI x5), none] [] S3 r S')) : EV q 312 42 [some (.ref 367), some (vI x1), some (vI x2), some (vI x3), some (vI x4), some (vI x5), none] [vI y0, vI y1, .ref 367] S r S' := by
  unfold EV
  refine mv_ior rfl ?_
  obtain ⟨S1, e2, F⟩ := F
  refine mv_calv (as := [vI (bO y1 y0)]) (rest := []) e2 (sh_367) rfl rfl rfl ⟨rfl, rfl⟩ rfl rfl rfl rfl rfl ?_
  refine ev_bk 2 (S' := (49, [some (.ref 367), some (vI x1), some (vI x2), some (vI x3), some (vI x4), some (vI x5), none], [vI 15, vI x2], hp S1, 0, 0)) rfl ?_
  refine mv_icmp 60 rfl rfl (fun c => ?_) (fun c => ?_)
  · have F := F.1 c
    exact F
  · have F := F.2 c
    refine ev_bk 3 (S' := (56, [some (.ref 367), some (vI x1), some (vI x2), some (vI x3), some (vI x4), some (vI x5), none], [vI 15, vI x2, .ref 367], hp S1, 0, 0)) rfl ?_
    refine mv_isub rfl ?_
    obtain ⟨S3, e4, F⟩ := F
    refine mv_calv (as := [vI (x2 - 15)]) (rest := []) e4 (sh_367) rfl rfl rfl ⟨rfl, rfl⟩ rfl rfl rfl rfl rfl ?_
    exact F
theorem vc_MD_sequence_60 {q : Nat × (Nat → Int32)} {S S' : ms} {r : Option Value} (x1 x2 x3 x4 x5 : Int)
    (F : EV q 312 63 [some (.ref 367), some (vI x1), some (vI x2), some (vI x3), some (vI x4), some (vI x5), some (vI 0)] [] S r S') : EV q 312 60 [some (.ref 367), some (vI x1), some (vI x2), some (vI x3), some (vI x4), some (vI x5), none] [] S r S' := by
  unfold EV
  refine ev_bk 2 (S' := (63, [some (.ref 367), some (vI x1), some (vI x2), some (vI x3), some (vI x4), some (vI x5), some (vI 0)], [], hp S, 0, 0)) rfl ?_
  exact F
theorem vc_MD_sequence_63 {q : Nat × (Nat → Int32)} {S S' : ms} {r : Option Value} (x1 x2 x3 x4 x5 x6 : Int)
    (F : ((w32 x2 ≤ w32 x6) → ((¬ w32 x3 = 0) → ∃ (S1 : ms), EV q 291 0 [some (.ref 367), some (vL (w32 x4)), none, some (vI 2), none] [] S none S1 ∧ ((w32 x5 < 15) → r = none ∧ S' = S1) ∧ ((¬ w32 x5 < 15) → ∃ (S3 : ms), EV q 313 0 [some (.ref 367), some (vI (x5 - 15)), none] [] S1 none S3 ∧ r = none ∧ S' = S3)) ∧ ((¬ (¬ w32 x3 = 0)) → r = none ∧ S' = S)) ∧ ((¬ w32 x2 ≤ w32 x6) → (0 ≤ w32 (x1 + x6) ∧ w32 (x1 + x6) < (6000 : Nat)) ∧ ∃ (S6 : ms), EV q 282 0 [some (.ref 367), some (vI (S.1 368 (w32 (x1 + x6))))] [] S none S6 ∧ EV q 312 63 [some (.ref 367), some (vI x1), some (vI x2), some (vI x3), some (vI x4), some (vI x5), some (vI (x6 + 1))] [] S6 r S')) : EV q 312 63 [some (.ref 367), some (vI x1), some (vI x2), some (vI x3), some (vI x4), some (vI x5), some (vI x6)] [] S r S' := by
  unfold EV
  refine ev_bk 2 (S' := (66, [some (.ref 367), some (vI x1), some (vI x2), some (vI x3), some (vI x4), some (vI x5), some (vI x6)], [vI x2, vI x6], hp S, 0, 0)) rfl ?_
  refine mv_icmp 88 rfl rfl (fun c => ?_) (fun c => ?_)
  · have F := F.1 c
    refine ev_bk 1 (S' := (89, [some (.ref 367), some (vI x1), some (vI x2), some (vI x3), some (vI x4), some (vI x5), some (vI x6)], [vI x3], hp S, 0, 0)) rfl ?_
    refine mv_if 93 rfl rfl (fun c => ?_) (fun c => ?_)
    · have F := F.1 c
      refine ev_bk 2 (S' := (96, [some (.ref 367), some (vI x1), some (vI x2), some (vI x3), some (vI x4), some (vI x5), some (vI x6)], [vI x4, .ref 367], hp S, 0, 0)) rfl ?_
      refine mv_i2l rfl ?_
      refine ev_bk 1 (S' := (98, [some (.ref 367), some (vI x1), some (vI x2), some (vI x3), some (vI x4), some (vI x5), some (vI x6)], [vI 2, vL (w32 x4), .ref 367], hp S, 0, 0)) rfl ?_
      obtain ⟨S1, e2, F⟩ := F
      refine mv_calv (as := [vL (w32 x4), vI 2]) (rest := []) e2 (sh_367) rfl rfl rfl ⟨rfl, rfl⟩ rfl rfl rfl rfl rfl ?_
      refine ev_bk 2 (S' := (105, [some (.ref 367), some (vI x1), some (vI x2), some (vI x3), some (vI x4), some (vI x5), some (vI x6)], [vI 15, vI x5], hp S1, 0, 0)) rfl ?_
      refine mv_icmp 117 rfl rfl (fun c => ?_) (fun c => ?_)
      · have F := F.1 c
        obtain ⟨rfl, rfl⟩ := F
        exact ev_ret rfl rfl
      · have F := F.2 c
        refine ev_bk 3 (S' := (113, [some (.ref 367), some (vI x1), some (vI x2), some (vI x3), some (vI x4), some (vI x5), some (vI x6)], [vI 15, vI x5, .ref 367], hp S1, 0, 0)) rfl ?_
        refine mv_isub rfl ?_
        obtain ⟨S3, e4, F⟩ := F
        refine mv_calv (as := [vI (x5 - 15)]) (rest := []) e4 (sh_367) rfl rfl rfl ⟨rfl, rfl⟩ rfl rfl rfl rfl rfl ?_
        obtain ⟨rfl, rfl⟩ := F
        exact ev_ret rfl rfl
    · have F := F.2 c
      obtain ⟨rfl, rfl⟩ := F
      exact ev_ret rfl rfl
  · have F := F.2 c
    refine ev_bk 2 (S' := (71, [some (.ref 367), some (vI x1), some (vI x2), some (vI x3), some (vI x4), some (vI x5), some (vI x6)], [.ref 367, .ref 367], hp S, 0, 0)) rfl ?_
    refine mv_gfR rfl rfl (sh_367) (by decide) rfl ?_
    refine ev_bk 2 (S' := (77, [some (.ref 367), some (vI x1), some (vI x2), some (vI x3), some (vI x4), some (vI x5), some (vI x6)], [vI x6, vI x1, .ref 368, .ref 367], hp S, 0, 0)) rfl ?_
    refine mv_iadd rfl ?_
    obtain ⟨b5, F⟩ := F
    refine mv_bal rfl (sh_368) b5 ?_
    obtain ⟨S6, e7, F⟩ := F
    refine mv_calv (as := [vI (S.1 368 (w32 (x1 + x6)))]) (rest := []) e7 (sh_367) rfl rfl rfl ⟨rfl, rfl⟩ rfl rfl rfl rfl rfl ?_
    refine mv_inc (lv' := [some (.ref 367), some (vI x1), some (vI x2), some (vI x3), some (vI x4), some (vI x5), some (vI (x6 + 1))]) 6 1 rfl rfl rfl rfl ?_
    refine mv_goto 63 rfl rfl ?_
    exact F
