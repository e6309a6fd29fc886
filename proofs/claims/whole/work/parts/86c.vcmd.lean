/-! what is to be shown of each method, by program (wip/gen/vcall.py) -/
theorem vc_MD_bits {q : Nat × (Nat → Int32)} {S S' : ms} {r : Option Value}
    (F : ∀ S1 : ms, S1 = wI S 367 0 0 → r = some (vI (S1.1 367 83)) ∧ S' = S1) : EV q 371 0 [some (.ref 367)] [] S r S' := by
  unfold EV
  refine ev_bk 2 (S' := (2, [some (.ref 367)], [vI 0, .ref 367], hp S, 0, 0)) rfl ?_
  refine mv_pfI rfl rfl (sh_367) (by decide) rfl rfl ?_
  have F := F _ rfl
  refine ev_bk 1 (S' := (6, [some (.ref 367)], [.ref 367], hp (wI S 367 0 0), 0, 0)) rfl ?_
  refine mv_gfI rfl rfl (sh_367) (by decide) rfl ?_
  obtain ⟨rfl, rfl⟩ := F
  exact ev_ret rfl rfl
theorem vc_MD_name {q : Nat × (Nat → Int32)} {S S' : ms} {r : Option Value} (x1 x3 : Int)
    (F : ∀ S1 : ms, S1 = wI S 367 0 0 → ∃ (z4 : Int) (S2 : ms), EV q 257 0 [some (vI x3), some (vI 0), some (vI 8)] [] S1 (some (vI z4)) S2 ∧ ((¬ w32 z4 = 0) → ((¬ w32 x3 = 0) → EV q 372 32 [some (.ref 367), some (vL x1), none, some (vI x3), some (vI 0)] [] S2 r S') ∧ ((¬ (¬ w32 x3 = 0)) → ∀ S5 : ms, S5 = wI S2 367 103 0 → r = some (vI 0) ∧ S' = S5)) ∧ ((¬ (¬ w32 z4 = 0)) → r = some (vI ((-2))) ∧ S' = S2)) : EV q 372 0 [some (.ref 367), some (vL x1), none, some (vI x3), none] [] S r S' := by
  unfold EV
  refine ev_bk 2 (S' := (2, [some (.ref 367), some (vL x1), none, some (vI x3), none], [vI 0, .ref 367], hp S, 0, 0)) rfl ?_
  refine mv_pfI rfl rfl (sh_367) (by decide) rfl rfl ?_
  have F := F _ rfl
  refine ev_bk 3 (S' := (9, [some (.ref 367), some (vL x1), none, some (vI x3), none], [vI 8, vI 0, vI x3], hp (wI S 367 0 0), 0, 0)) rfl ?_
  obtain ⟨z4, S2, e3, F⟩ := F
  refine mv_cals (as := [vI x3, vI 0, vI 8]) (rest := []) e3 rfl rfl rfl ⟨rfl, rfl, rfl⟩ rfl rfl rfl rfl ?_
  refine mv_if 18 rfl rfl (fun c => ?_) (fun c => ?_)
  · have F := F.1 c
    refine ev_bk 1 (S' := (19, [some (.ref 367), some (vL x1), none, some (vI x3), none], [vI x3], hp S2, 0, 0)) rfl ?_
    refine mv_if 29 rfl rfl (fun c => ?_) (fun c => ?_)
    · have F := F.1 c
      refine ev_bk 2 (S' := (32, [some (.ref 367), some (vL x1), none, some (vI x3), some (vI 0)], [], hp S2, 0, 0)) rfl ?_
      exact F
    · have F := F.2 c
      refine ev_bk 2 (S' := (24, [some (.ref 367), some (vL x1), none, some (vI x3), none], [vI 0, .ref 367], hp S2, 0, 0)) rfl ?_
      refine mv_pfI rfl rfl (sh_367) (by decide) rfl rfl ?_
      have F := F _ rfl
      refine ev_bk 1 (S' := (28, [some (.ref 367), some (vL x1), none, some (vI x3), none], [vI 0], hp (wI S2 367 103 0), 0, 0)) rfl ?_
      obtain ⟨rfl, rfl⟩ := F
      exact ev_ret rfl rfl
  · have F := F.2 c
    refine ev_bk 1 (S' := (17, [some (.ref 367), some (vL x1), none, some (vI x3), none], [vI ((-2))], hp S2, 0, 0)) rfl ?_
    obtain ⟨rfl, rfl⟩ := F
    exact ev_ret rfl rfl
theorem vc_MD_name_32 {q : Nat × (Nat → Int32)} {S S' : ms} {r : Option Value} (x1 x3 x4 : Int)
    (F : ((w32 x3 ≤ w32 x4) → ((w32 (S.1 367 103 + x3) ≤ 100) → EV q 372 82 [some (.ref 367), some (vL x1), none, some (vI x3), some (vI (x3 - 1))] [] S r S') ∧ ((¬ w32 (S.1 367 103 + x3) ≤ 100) → r = some (vI ((-4))) ∧ S' = S)) ∧ ((¬ w32 x3 ≤ w32 x4) → ((¬ w64 ((w64 x1 / ((2 : Int) ^ ((8 * x4) % 64).toNat)) % 256) = w64 0) → EV q 372 32 [some (.ref 367), some (vL x1), none, some (vI x3), some (vI (x4 + 1))] [] S r S') ∧ ((¬ (¬ w64 ((w64 x1 / ((2 : Int) ^ ((8 * x4) % 64).toNat)) % 256) = w64 0)) → r = some (vI ((-2))) ∧ S' = S))) : EV q 372 32 [some (.ref 367), some (vL x1), none, some (vI x3), some (vI x4)] [] S r S' := by
  unfold EV
  refine ev_bk 2 (S' := (35, [some (.ref 367), some (vL x1), none, some (vI x3), some (vI x4)], [vI x3, vI x4], hp S, 0, 0)) rfl ?_
  refine mv_icmp 63 rfl rfl (fun c => ?_) (fun c => ?_)
  · have F := F.1 c
    refine ev_bk 1 (S' := (64, [some (.ref 367), some (vL x1), none, some (vI x3), some (vI x4)], [.ref 367], hp S, 0, 0)) rfl ?_
    refine mv_gfI rfl rfl (sh_367) (by decide) rfl ?_
    refine ev_bk 1 (S' := (68, [some (.ref 367), some (vL x1), none, some (vI x3), some (vI x4)], [vI x3, vI (S.1 367 103)], hp S, 0, 0)) rfl ?_
    refine mv_iadd rfl ?_
    refine ev_bk 1 (S' := (71, [some (.ref 367), some (vL x1), none, some (vI x3), some (vI x4)], [vI 100, vI (S.1 367 103 + x3)], hp S, 0, 0)) rfl ?_
    refine mv_icmp 77 rfl rfl (fun c => ?_) (fun c => ?_)
    · have F := F.1 c
      refine ev_bk 2 (S' := (79, [some (.ref 367), some (vL x1), none, some (vI x3), some (vI x4)], [vI 1, vI x3], hp S, 0, 0)) rfl ?_
      refine mv_isub rfl ?_
      refine ev_bk 1 (S' := (82, [some (.ref 367), some (vL x1), none, some (vI x3), some (vI (x3 - 1))], [], hp S, 0, 0)) rfl ?_
      exact F
    · have F := F.2 c
      refine ev_bk 1 (S' := (76, [some (.ref 367), some (vL x1), none, some (vI x3), some (vI x4)], [vI ((-4))], hp S, 0, 0)) rfl ?_
      obtain ⟨rfl, rfl⟩ := F
      exact ev_ret rfl rfl
  · have F := F.2 c
    refine ev_bk 3 (S' := (43, [some (.ref 367), some (vL x1), none, some (vI x3), some (vI x4)], [vI x4, vI 8, vL x1], hp S, 0, 0)) rfl ?_
    refine mv_imul rfl ?_
    refine mv_lshr ((2 : Int) ^ ((8 * x4) % 64).toNat) rfl rfl ?_
    refine ev_bk 1 (S' := (48, [some (.ref 367), some (vL x1), none, some (vI x3), some (vI x4)], [vL 255, vL (w64 x1 / ((2 : Int) ^ ((8 * x4) % 64).toNat))], hp S, 0, 0)) rfl ?_
    refine mv_landm 256 8 (by decide) rfl rfl rfl ?_
    refine ev_bk 1 (S' := (50, [some (.ref 367), some (vL x1), none, some (vI x3), some (vI x4)], [vL 0, vL ((w64 x1 / ((2 : Int) ^ ((8 * x4) % 64).toNat)) % 256)], hp S, 0, 0)) rfl ?_
    refine mv_lif 57 rfl rfl rfl (fun c => ?_) (fun c => ?_)
    · have F := F.1 c
      refine mv_inc (lv' := [some (.ref 367), some (vL x1), none, some (vI x3), some (vI (x4 + 1))]) 4 1 rfl rfl rfl rfl ?_
      refine mv_goto 32 rfl rfl ?_
      exact F
    · have F := F.2 c
      refine ev_bk 1 (S' := (56, [some (.ref 367), some (vL x1), none, some (vI x3), some (vI x4)], [vI ((-2))], hp S, 0, 0)) rfl ?_
      obtain ⟨rfl, rfl⟩ := F
      exact ev_ret rfl rfl
theorem vc_MD_name_82 {q : Nat × (Nat → Int32)} {S S' : ms} {r : Option Value} (x1 x3 x4 : Int)
    (F : ((w32 x4 < 0) → r = some (vI (S.1 367 103)) ∧ S' = S) ∧ ((¬ w32 x4 < 0) → (0 ≤ w32 (S.1 367 103) ∧ w32 (S.1 367 103) < (100 : Nat)) ∧ ∀ S2 : ms, S2 = wI S 431 (w32 (S.1 367 103)) (b8 (b8 (w64 x1 / ((2 : Int) ^ ((8 * x4) % 64).toNat)))) → ∀ S3 : ms, S3 = wI S2 367 103 (S2.1 367 103 + 1) → EV q 372 82 [some (.ref 367), some (vL x1), none, some (vI x3), some (vI (x4 - 1))] [] S3 r S')) : EV q 372 82 [some (.ref 367), some (vL x1), none, some (vI x3), some (vI x4)] [] S r S' := by
  unfold EV
  refine ev_bk 1 (S' := (84, [some (.ref 367), some (vL x1), none, some (vI x3), some (vI x4)], [vI x4], hp S, 0, 0)) rfl ?_
  refine mv_if 121 rfl rfl (fun c => ?_) (fun c => ?_)
  · have F := F.1 c
    refine ev_bk 1 (S' := (122, [some (.ref 367), some (vL x1), none, some (vI x3), some (vI x4)], [.ref 367], hp S, 0, 0)) rfl ?_
    refine mv_gfI rfl rfl (sh_367) (by decide) rfl ?_
    obtain ⟨rfl, rfl⟩ := F
    exact ev_ret rfl rfl
  · have F := F.2 c
    refine ev_bk 1 (S' := (88, [some (.ref 367), some (vL x1), none, some (vI x3), some (vI x4)], [.ref 367], hp S, 0, 0)) rfl ?_
    refine mv_gfR rfl rfl (sh_367) (by decide) rfl ?_
    refine ev_bk 1 (S' := (92, [some (.ref 367), some (vL x1), none, some (vI x3), some (vI x4)], [.ref 367, .ref 431], hp S, 0, 0)) rfl ?_
    refine mv_gfI rfl rfl (sh_367) (by decide) rfl ?_
    refine ev_bk 3 (S' := (100, [some (.ref 367), some (vL x1), none, some (vI x3), some (vI x4)], [vI x4, vI 8, vL x1, vI (S.1 367 103), .ref 431], hp S, 0, 0)) rfl ?_
    refine mv_imul rfl ?_
    refine mv_lshr ((2 : Int) ^ ((8 * x4) % 64).toNat) rfl rfl ?_
    refine mv_l2i rfl ?_
    refine mv_i2b rfl ?_
    obtain ⟨b1, F⟩ := F
    refine mv_bas rfl (sh_431) b1 ?_
    have F := F _ rfl
    refine ev_bk 2 (S' := (107, [some (.ref 367), some (vL x1), none, some (vI x3), some (vI x4)], [.ref 367, .ref 367], hp (wI S 431 (w32 (S.1 367 103)) (b8 (b8 (w64 x1 / ((2 : Int) ^ ((8 * x4) % 64).toNat))))), 0, 0)) rfl ?_
    refine mv_gfI rfl rfl (sh_367) (by decide) rfl ?_
    refine ev_bk 1 (S' := (111, [some (.ref 367), some (vL x1), none, some (vI x3), some (vI x4)], [vI 1, vI ((wI S 431 (w32 (S.1 367 103)) (b8 (b8 (w64 x1 / ((2 : Int) ^ ((8 * x4) % 64).toNat))))).1 367 103), .ref 367], hp (wI S 431 (w32 (S.1 367 103)) (b8 (b8 (w64 x1 / ((2 : Int) ^ ((8 * x4) % 64).toNat))))), 0, 0)) rfl ?_
    refine mv_iadd rfl ?_
    refine mv_pfI rfl rfl (sh_367) (by decide) rfl rfl ?_
    have F := F _ rfl
    refine mv_inc (lv' := [some (.ref 367), some (vL x1), none, some (vI x3), some (vI (x4 - 1))]) 4 (-1) rfl rfl rfl (by omega) ?_
    refine mv_goto 82 rfl rfl ?_
    exact F
theorem vc_MD_entry {q : Nat × (Nat → Int32)} {S S' : ms} {r : Option Value} (x1 x2 x3 : Int)
    (F : ∀ S1 : ms, S1 = wI S 367 0 0 → ∃ (z4 : Int) (S2 : ms), EV q 271 0 [some (.ref 367), some (vI x1)] [] S1 (some (vI z4)) S2 ∧ ((w32 z4 = 0) → ∃ (z7 : Int) (S5 : ms), EV q 257 0 [some (vI x2), some (vI 0), some (vI 511)] [] S2 (some (vI z7)) S5 ∧ ((w32 z7 = 0) → r = some (vI ((-2))) ∧ S' = S5) ∧ ((¬ w32 z7 = 0) → ((w32 x3 < 0) → r = some (vI ((-2))) ∧ S' = S5) ∧ ((¬ w32 x3 < 0) → ((¬ w32 (S5.1 367 103) = 0) → ((w32 (S5.1 367 88) = 16) → r = some (vI ((-4))) ∧ S' = S5) ∧ ((¬ w32 (S5.1 367 88) = 16) → (0 ≤ w32 x1 ∧ w32 x1 < (13 : Nat)) ∧ ((w32 (S5.1 370 (w32 x1)) ≤ 6000) → EV q 373 73 [some (.ref 367), some (vI x1), some (vI x2), some (vI x3), some (vI (S5.1 367 88)), some (vI 0)] [] S5 r S') ∧ ((¬ w32 (S5.1 370 (w32 x1)) ≤ 6000) → r = some (vI ((-4))) ∧ S' = S5))) ∧ ((¬ (¬ w32 (S5.1 367 103) = 0)) → r = some (vI ((-2))) ∧ S' = S5)))) ∧ ((¬ w32 z4 = 0) → r = some (vI ((-1))) ∧ S' = S2)) : EV q 373 0 [some (.ref 367), some (vI x1), some (vI x2), some (vI x3), none, none] [] S r S' := by
  unfold EV
  refine ev_bk 2 (S' := (2, [some (.ref 367), some (vI x1), some (vI x2), some (vI x3), none, none], [vI 0, .ref 367], hp S, 0, 0)) rfl ?_
  refine mv_pfI rfl rfl (sh_367) (by decide) rfl rfl ?_
  have F := F _ rfl
  refine ev_bk 2 (S' := (7, [some (.ref 367), some (vI x1), some (vI x2), some (vI x3), none, none], [vI x1, .ref 367], hp (wI S 367 0 0), 0, 0)) rfl ?_
  obtain ⟨z4, S2, e3, F⟩ := F
  refine mv_calv (as := [vI x1]) (rest := []) e3 (sh_367) rfl rfl rfl ⟨rfl, rfl⟩ rfl rfl rfl rfl rfl ?_
  refine mv_if 15 rfl rfl (fun c => ?_) (fun c => ?_)
  · have F := F.1 c
    refine ev_bk 3 (S' := (20, [some (.ref 367), some (vI x1), some (vI x2), some (vI x3), none, none], [vI 511, vI 0, vI x2], hp S2, 0, 0)) rfl ?_
    obtain ⟨z7, S5, e6, F⟩ := F
    refine mv_cals (as := [vI x2, vI 0, vI 511]) (rest := []) e6 rfl rfl rfl ⟨rfl, rfl, rfl⟩ rfl rfl rfl rfl ?_
    refine mv_if 37 rfl rfl (fun c => ?_) (fun c => ?_)
    · have F := F.1 c
      refine ev_bk 1 (S' := (39, [some (.ref 367), some (vI x1), some (vI x2), some (vI x3), none, none], [vI ((-2))], hp S5, 0, 0)) rfl ?_
      obtain ⟨rfl, rfl⟩ := F
      exact ev_ret rfl rfl
    · have F := F.2 c
      refine ev_bk 1 (S' := (27, [some (.ref 367), some (vI x1), some (vI x2), some (vI x3), none, none], [vI x3], hp S5, 0, 0)) rfl ?_
      refine mv_if 37 rfl rfl (fun c => ?_) (fun c => ?_)
      · have F := F.1 c
        refine ev_bk 1 (S' := (39, [some (.ref 367), some (vI x1), some (vI x2), some (vI x3), none, none], [vI ((-2))], hp S5, 0, 0)) rfl ?_
        obtain ⟨rfl, rfl⟩ := F
        exact ev_ret rfl rfl
      · have F := F.2 c
        refine ev_bk 1 (S' := (31, [some (.ref 367), some (vI x1), some (vI x2), some (vI x3), none, none], [.ref 367], hp S5, 0, 0)) rfl ?_
        refine mv_gfI rfl rfl (sh_367) (by decide) rfl ?_
        refine mv_if 40 rfl rfl (fun c => ?_) (fun c => ?_)
        · have F := F.1 c
          refine ev_bk 1 (S' := (41, [some (.ref 367), some (vI x1), some (vI x2), some (vI x3), none, none], [.ref 367], hp S5, 0, 0)) rfl ?_
          refine mv_gfI rfl rfl (sh_367) (by decide) rfl ?_
          refine ev_bk 1 (S' := (46, [some (.ref 367), some (vI x1), some (vI x2), some (vI x3), none, none], [vI 16, vI (S5.1 367 88)], hp S5, 0, 0)) rfl ?_
          refine mv_icmp 61 rfl rfl (fun c => ?_) (fun c => ?_)
          · have F := F.1 c
            refine ev_bk 1 (S' := (63, [some (.ref 367), some (vI x1), some (vI x2), some (vI x3), none, none], [vI ((-4))], hp S5, 0, 0)) rfl ?_
            obtain ⟨rfl, rfl⟩ := F
            exact ev_ret rfl rfl
          · have F := F.2 c
            refine ev_bk 1 (S' := (50, [some (.ref 367), some (vI x1), some (vI x2), some (vI x3), none, none], [.ref 367], hp S5, 0, 0)) rfl ?_
            refine mv_gfR rfl rfl (sh_367) (by decide) rfl ?_
            refine ev_bk 1 (S' := (54, [some (.ref 367), some (vI x1), some (vI x2), some (vI x3), none, none], [vI x1, .ref 370], hp S5, 0, 0)) rfl ?_
            obtain ⟨b8, F⟩ := F
            refine mv_ial rfl (sh_370) b8 ?_
            refine ev_bk 1 (S' := (58, [some (.ref 367), some (vI x1), some (vI x2), some (vI x3), none, none], [vI 6000, vI (S5.1 370 (w32 x1))], hp S5, 0, 0)) rfl ?_
            refine mv_icmp 64 rfl rfl (fun c => ?_) (fun c => ?_)
            · have F := F.1 c
              refine ev_bk 1 (S' := (65, [some (.ref 367), some (vI x1), some (vI x2), some (vI x3), none, none], [.ref 367], hp S5, 0, 0)) rfl ?_
              refine mv_gfI rfl rfl (sh_367) (by decide) rfl ?_
              refine ev_bk 3 (S' := (73, [some (.ref 367), some (vI x1), some (vI x2), some (vI x3), some (vI (S5.1 367 88)), some (vI 0)], [], hp S5, 0, 0)) rfl ?_
              exact F
            · have F := F.2 c
              refine ev_bk 1 (S' := (63, [some (.ref 367), some (vI x1), some (vI x2), some (vI x3), none, none], [vI ((-4))], hp S5, 0, 0)) rfl ?_
              obtain ⟨rfl, rfl⟩ := F
              exact ev_ret rfl rfl
        · have F := F.2 c
          refine ev_bk 1 (S' := (39, [some (.ref 367), some (vI x1), some (vI x2), some (vI x3), none, none], [vI ((-2))], hp S5, 0, 0)) rfl ?_
          obtain ⟨rfl, rfl⟩ := F
          exact ev_ret rfl rfl
  · have F := F.2 c
    refine ev_bk 1 (S' := (14, [some (.ref 367), some (vI x1), some (vI x2), some (vI x3), none, none], [vI ((-1))], hp S2, 0, 0)) rfl ?_
    obtain ⟨rfl, rfl⟩ := F
    exact ev_ret rfl rfl
theorem vc_MD_entry_73 {q : Nat × (Nat → Int32)} {S S' : ms} {r : Option Value} (x1 x2 x3 x4 x5 : Int)
    (F : ((w32 (S.1 367 103) ≤ w32 x5) → (0 ≤ w32 x4 ∧ w32 x4 < (16 : Nat)) ∧ ∀ S2 : ms, S2 = wI S 420 (w32 x4) (S.1 367 103) → ∀ S3 : ms, S3 = wI S2 367 103 0 → (0 ≤ w32 x4 ∧ w32 x4 < (16 : Nat)) ∧ ∀ S5 : ms, S5 = wI S3 421 (w32 x4) x2 → (0 ≤ w32 x4 ∧ w32 x4 < (16 : Nat)) ∧ ∀ S7 : ms, S7 = wI S5 422 (w32 x4) x3 → (0 ≤ w32 x1 ∧ w32 x1 < (13 : Nat)) ∧ (0 ≤ w32 x4 ∧ w32 x4 < (16 : Nat)) ∧ ∀ S10 : ms, S10 = wI S7 424 (w32 x4) (S7.1 370 (w32 x1)) → EV q 373 156 [some (.ref 367), some (vI x1), some (vI x2), some (vI x3), some (vI x4), some (vI 0)] [] S10 r S') ∧ ((¬ w32 (S.1 367 103) ≤ w32 x5) → (0 ≤ w32 x5 ∧ w32 x5 < (100 : Nat)) ∧ (0 ≤ w32 ((100 * x4) + x5) ∧ w32 ((100 * x4) + x5) < (1600 : Nat)) ∧ ∀ S13 : ms, S13 = wI S 419 (w32 ((100 * x4) + x5)) (b8 (S.1 431 (w32 x5))) → EV q 373 73 [some (.ref 367), some (vI x1), some (vI x2), some (vI x3), some (vI x4), some (vI (x5 + 1))] [] S13 r S')) : EV q 373 73 [some (.ref 367), some (vI x1), some (vI x2), some (vI x3), some (vI x4), some (vI x5)] [] S r S' := by
  unfold EV
  refine ev_bk 2 (S' := (76, [some (.ref 367), some (vI x1), some (vI x2), some (vI x3), some (vI x4), some (vI x5)], [.ref 367, vI x5], hp S, 0, 0)) rfl ?_
  refine mv_gfI rfl rfl (sh_367) (by decide) rfl ?_
  refine mv_icmp 108 rfl rfl (fun c => ?_) (fun c => ?_)
  · have F := F.1 c
    refine ev_bk 1 (S' := (109, [some (.ref 367), some (vI x1), some (vI x2), some (vI x3), some (vI x4), some (vI x5)], [.ref 367], hp S, 0, 0)) rfl ?_
    refine mv_gfR rfl rfl (sh_367) (by decide) rfl ?_
    refine ev_bk 2 (S' := (115, [some (.ref 367), some (vI x1), some (vI x2), some (vI x3), some (vI x4), some (vI x5)], [.ref 367, vI x4, .ref 420], hp S, 0, 0)) rfl ?_
    refine mv_gfI rfl rfl (sh_367) (by decide) rfl ?_
    obtain ⟨b1, F⟩ := F
    refine mv_ias rfl (sh_420) b1 ?_
    have F := F _ rfl
    refine ev_bk 2 (S' := (121, [some (.ref 367), some (vI x1), some (vI x2), some (vI x3), some (vI x4), some (vI x5)], [vI 0, .ref 367], hp (wI S 420 (w32 x4) (S.1 367 103)), 0, 0)) rfl ?_
    refine mv_pfI rfl rfl (sh_367) (by decide) rfl rfl ?_
    have F := F _ rfl
    refine ev_bk 1 (S' := (125, [some (.ref 367), some (vI x1), some (vI x2), some (vI x3), some (vI x4), some (vI x5)], [.ref 367], hp (wI (wI S 420 (w32 x4) (S.1 367 103)) 367 103 0), 0, 0)) rfl ?_
    refine mv_gfR rfl rfl (sh_367) (by decide) rfl ?_
    refine ev_bk 2 (S' := (131, [some (.ref 367), some (vI x1), some (vI x2), some (vI x3), some (vI x4), some (vI x5)], [vI x2, vI x4, .ref 421], hp (wI (wI S 420 (w32 x4) (S.1 367 103)) 367 103 0), 0, 0)) rfl ?_
    obtain ⟨b4, F⟩ := F
    refine mv_ias rfl (sh_421) b4 ?_
    have F := F _ rfl
    refine ev_bk 1 (S' := (133, [some (.ref 367), some (vI x1), some (vI x2), some (vI x3), some (vI x4), some (vI x5)], [.ref 367], hp (wI (wI (wI S 420 (w32 x4) (S.1 367 103)) 367 103 0) 421 (w32 x4) x2), 0, 0)) rfl ?_
    refine mv_gfR rfl rfl (sh_367) (by decide) rfl ?_
    refine ev_bk 2 (S' := (139, [some (.ref 367), some (vI x1), some (vI x2), some (vI x3), some (vI x4), some (vI x5)], [vI x3, vI x4, .ref 422], hp (wI (wI (wI S 420 (w32 x4) (S.1 367 103)) 367 103 0) 421 (w32 x4) x2), 0, 0)) rfl ?_
    obtain ⟨b6, F⟩ := F
    refine mv_ias rfl (sh_422) b6 ?_
    have F := F _ rfl
    refine ev_bk 1 (S' := (141, [some (.ref 367), some (vI x1), some (vI x2), some (vI x3), some (vI x4), some (vI x5)], [.ref 367], hp (wI (wI (wI (wI S 420 (w32 x4) (S.1 367 103)) 367 103 0) 421 (w32 x4) x2) 422 (w32 x4) x3), 0, 0)) rfl ?_
    refine mv_gfR rfl rfl (sh_367) (by decide) rfl ?_
    refine ev_bk 2 (S' := (147, [some (.ref 367), some (vI x1), some (vI x2), some (vI x3), some (vI x4), some (vI x5)], [.ref 367, vI x4, .ref 424], hp (wI (wI (wI (wI S 420 (w32 x4) (S.1 367 103)) 367 103 0) 421 (w32 x4) x2) 422 (w32 x4) x3), 0, 0)) rfl ?_
    refine mv_gfR rfl rfl (sh_367) (by decide) rfl ?_
    refine ev_bk 1 (S' := (151, [some (.ref 367), some (vI x1), some (vI x2), some (vI x3), some (vI x4), some (vI x5)], [vI x1, .ref 370, vI x4, .ref 424], hp (wI (wI (wI (wI S 420 (w32 x4) (S.1 367 103)) 367 103 0) 421 (w32 x4) x2) 422 (w32 x4) x3), 0, 0)) rfl ?_
    obtain ⟨bb8, F⟩ := F
    refine mv_ial rfl (sh_370) bb8 ?_
    obtain ⟨b9, F⟩ := F
    refine mv_ias rfl (sh_424) b9 ?_
    have F := F _ rfl
    refine ev_bk 2 (S' := (156, [some (.ref 367), some (vI x1), some (vI x2), some (vI x3), some (vI x4), some (vI 0)], [], hp (wI (wI (wI (wI (wI S 420 (w32 x4) (S.1 367 103)) 367 103 0) 421 (w32 x4) x2) 422 (w32 x4) x3) 424 (w32 x4) ((wI (wI (wI (wI S 420 (w32 x4) (S.1 367 103)) 367 103 0) 421 (w32 x4) x2) 422 (w32 x4) x3).1 370 (w32 x1))), 0, 0)) rfl ?_
    exact F
  · have F := F.2 c
    refine ev_bk 1 (S' := (83, [some (.ref 367), some (vI x1), some (vI x2), some (vI x3), some (vI x4), some (vI x5)], [.ref 367], hp S, 0, 0)) rfl ?_
    refine mv_gfR rfl rfl (sh_367) (by decide) rfl ?_
    refine ev_bk 2 (S' := (90, [some (.ref 367), some (vI x1), some (vI x2), some (vI x3), some (vI x4), some (vI x5)], [vI x4, vI 100, .ref 419], hp S, 0, 0)) rfl ?_
    refine mv_imul rfl ?_
    refine ev_bk 1 (S' := (93, [some (.ref 367), some (vI x1), some (vI x2), some (vI x3), some (vI x4), some (vI x5)], [vI x5, vI (100 * x4), .ref 419], hp S, 0, 0)) rfl ?_
    refine mv_iadd rfl ?_
    refine ev_bk 1 (S' := (95, [some (.ref 367), some (vI x1), some (vI x2), some (vI x3), some (vI x4), some (vI x5)], [.ref 367, vI ((100 * x4) + x5), .ref 419], hp S, 0, 0)) rfl ?_
    refine mv_gfR rfl rfl (sh_367) (by decide) rfl ?_
    refine ev_bk 1 (S' := (100, [some (.ref 367), some (vI x1), some (vI x2), some (vI x3), some (vI x4), some (vI x5)], [vI x5, .ref 431, vI ((100 * x4) + x5), .ref 419], hp S, 0, 0)) rfl ?_
    obtain ⟨b11, F⟩ := F
    refine mv_bal rfl (sh_431) b11 ?_
    obtain ⟨b12, F⟩ := F
    refine mv_bas rfl (sh_419) b12 ?_
    have F := F _ rfl
    refine mv_inc (lv' := [some (.ref 367), some (vI x1), some (vI x2), some (vI x3), some (vI x4), some (vI (x5 + 1))]) 5 1 rfl rfl rfl rfl ?_
    refine mv_goto 73 rfl rfl ?_
    exact F
theorem vc_MD_entry_156 {q : Nat × (Nat → Int32)} {S S' : ms} {r : Option Value} (x1 x2 x3 x4 x5 : Int)
    (F : (0 ≤ w32 x4 ∧ w32 x4 < (16 : Nat)) ∧ ((w32 (S.1 424 (w32 x4)) ≤ w32 x5) → ∀ S2 : ms, S2 = wI S 367 88 (S.1 367 88 + 1) → r = some (vI x4) ∧ S' = S2) ∧ ((¬ w32 (S.1 424 (w32 x4)) ≤ w32 x5) → (0 ≤ w32 ((12000 * x1) + x5) ∧ w32 ((12000 * x1) + x5) < (156000 : Nat)) ∧ (0 ≤ w32 ((6000 * x4) + x5) ∧ w32 ((6000 * x4) + x5) < (96000 : Nat)) ∧ ∀ S5 : ms, S5 = wI S 423 (w32 ((6000 * x4) + x5)) (b8 (S.1 369 (w32 ((12000 * x1) + x5)))) → EV q 373 156 [some (.ref 367), some (vI x1), some (vI x2), some (vI x3), some (vI x4), some (vI (x5 + 1))] [] S5 r S')) : EV q 373 156 [some (.ref 367), some (vI x1), some (vI x2), some (vI x3), some (vI x4), some (vI x5)] [] S r S' := by
  unfold EV
  refine ev_bk 2 (S' := (159, [some (.ref 367), some (vI x1), some (vI x2), some (vI x3), some (vI x4), some (vI x5)], [.ref 367, vI x5], hp S, 0, 0)) rfl ?_
  refine mv_gfR rfl rfl (sh_367) (by decide) rfl ?_
  refine ev_bk 1 (S' := (164, [some (.ref 367), some (vI x1), some (vI x2), some (vI x3), some (vI x4), some (vI x5)], [vI x4, .ref 424, vI x5], hp S, 0, 0)) rfl ?_
  obtain ⟨b1, F⟩ := F
  refine mv_ial rfl (sh_424) b1 ?_
  refine mv_icmp 201 rfl rfl (fun c => ?_) (fun c => ?_)
  · have F := F.1 c
    refine ev_bk 2 (S' := (203, [some (.ref 367), some (vI x1), some (vI x2), some (vI x3), some (vI x4), some (vI x5)], [.ref 367, .ref 367], hp S, 0, 0)) rfl ?_
    refine mv_gfI rfl rfl (sh_367) (by decide) rfl ?_
    refine ev_bk 1 (S' := (207, [some (.ref 367), some (vI x1), some (vI x2), some (vI x3), some (vI x4), some (vI x5)], [vI 1, vI (S.1 367 88), .ref 367], hp S, 0, 0)) rfl ?_
    refine mv_iadd rfl ?_
    refine mv_pfI rfl rfl (sh_367) (by decide) rfl rfl ?_
    have F := F _ rfl
    refine ev_bk 1 (S' := (213, [some (.ref 367), some (vI x1), some (vI x2), some (vI x3), some (vI x4), some (vI x5)], [vI x4], hp (wI S 367 88 (S.1 367 88 + 1)), 0, 0)) rfl ?_
    obtain ⟨rfl, rfl⟩ := F
    exact ev_ret rfl rfl
  · have F := F.2 c
    refine ev_bk 1 (S' := (169, [some (.ref 367), some (vI x1), some (vI x2), some (vI x3), some (vI x4), some (vI x5)], [.ref 367], hp S, 0, 0)) rfl ?_
    refine mv_gfR rfl rfl (sh_367) (by decide) rfl ?_
    refine ev_bk 2 (S' := (177, [some (.ref 367), some (vI x1), some (vI x2), some (vI x3), some (vI x4), some (vI x5)], [vI x4, vI 6000, .ref 423], hp S, 0, 0)) rfl ?_
    refine mv_imul rfl ?_
    refine ev_bk 1 (S' := (180, [some (.ref 367), some (vI x1), some (vI x2), some (vI x3), some (vI x4), some (vI x5)], [vI x5, vI (6000 * x4), .ref 423], hp S, 0, 0)) rfl ?_
    refine mv_iadd rfl ?_
    refine ev_bk 1 (S' := (182, [some (.ref 367), some (vI x1), some (vI x2), some (vI x3), some (vI x4), some (vI x5)], [.ref 367, vI ((6000 * x4) + x5), .ref 423], hp S, 0, 0)) rfl ?_
    refine mv_gfR rfl rfl (sh_367) (by decide) rfl ?_
    refine ev_bk 2 (S' := (189, [some (.ref 367), some (vI x1), some (vI x2), some (vI x3), some (vI x4), some (vI x5)], [vI x1, vI 12000, .ref 369, vI ((6000 * x4) + x5), .ref 423], hp S, 0, 0)) rfl ?_
    refine mv_imul rfl ?_
    refine ev_bk 1 (S' := (192, [some (.ref 367), some (vI x1), some (vI x2), some (vI x3), some (vI x4), some (vI x5)], [vI x5, vI (12000 * x1), .ref 369, vI ((6000 * x4) + x5), .ref 423], hp S, 0, 0)) rfl ?_
    refine mv_iadd rfl ?_
    obtain ⟨b3, F⟩ := F
    refine mv_bal rfl (sh_369) b3 ?_
    obtain ⟨b4, F⟩ := F
    refine mv_bas rfl (sh_423) b4 ?_
    have F := F _ rfl
    refine mv_inc (lv' := [some (.ref 367), some (vI x1), some (vI x2), some (vI x3), some (vI x4), some (vI (x5 + 1))]) 5 1 rfl rfl rfl rfl ?_
    refine mv_goto 156 rfl rfl ?_
    exact F
theorem vc_MD_told {q : Nat × (Nat → Int32)} {S S' : ms} {r : Option Value} (x1 x2 : Int)
    (F : ∀ S1 : ms, S1 = wI S 367 0 0 → ∃ (z4 : Int) (S2 : ms), EV q 375 0 [some (.ref 367), some (vI x1)] [] S1 (some (vI z4)) S2 ∧ ((w32 z4 = 0) → ((w32 x2 = 0) → (0 ≤ w32 x1 ∧ w32 x1 < (16 : Nat)) ∧ r = some (vI (S2.1 424 (w32 x1))) ∧ S' = S2) ∧ ((w32 x2 = 1) → (0 ≤ w32 x1 ∧ w32 x1 < (16 : Nat)) ∧ r = some (vI (S2.1 421 (w32 x1))) ∧ S' = S2) ∧ ((w32 x2 = 2) → (0 ≤ w32 x1 ∧ w32 x1 < (16 : Nat)) ∧ r = some (vI (S2.1 422 (w32 x1))) ∧ S' = S2) ∧ ((w32 x2 = 3) → (0 ≤ w32 x1 ∧ w32 x1 < (16 : Nat)) ∧ r = some (vI (S2.1 420 (w32 x1))) ∧ S' = S2) ∧ ((w32 x2 = 4) → ∃ (z11 : Int) (S9 : ms), EV q 376 0 [some (.ref 367), some (vI x1), none, none, none, none, none] [] S2 (some (vI z11)) S9 ∧ ((w32 z11 = 0) → r = some (vI 0) ∧ S' = S9) ∧ ((¬ w32 z11 = 0) → r = some (vI 1) ∧ S' = S9)) ∧ ((¬ w32 x2 = 0) → (¬ w32 x2 = 1) → (¬ w32 x2 = 2) → (¬ w32 x2 = 3) → (¬ w32 x2 = 4) → r = some (vI ((-2))) ∧ S' = S2)) ∧ ((¬ w32 z4 = 0) → r = some (vI ((-1))) ∧ S' = S2)) : EV q 374 0 [some (.ref 367), some (vI x1), some (vI x2)] [] S r S' := by
  unfold EV
  refine ev_bk 2 (S' := (2, [some (.ref 367), some (vI x1), some (vI x2)], [vI 0, .ref 367], hp S, 0, 0)) rfl ?_
  refine mv_pfI rfl rfl (sh_367) (by decide) rfl rfl ?_
  have F := F _ rfl
  refine ev_bk 2 (S' := (7, [some (.ref 367), some (vI x1), some (vI x2)], [vI x1, .ref 367], hp (wI S 367 0 0), 0, 0)) rfl ?_
  obtain ⟨z4, S2, e3, F⟩ := F
  refine mv_calv (as := [vI x1]) (rest := []) e3 (sh_367) rfl rfl rfl ⟨rfl, rfl⟩ rfl rfl rfl rfl rfl ?_
  refine mv_if 15 rfl rfl (fun c => ?_) (fun c => ?_)
  · have F := F.1 c
    refine ev_bk 1 (S' := (16, [some (.ref 367), some (vI x1), some (vI x2)], [vI x2], hp S2, 0, 0)) rfl ?_
    by_cases d0 : w32 x2 < 0
    · have F := F.2.2.2.2.2 (ts_lo d0 (by decide)) (ts_lo d0 (by decide)) (ts_lo d0 (by decide)) (ts_lo d0 (by decide)) (ts_lo d0 (by decide))
      refine mv_tout 94 (Or.inl d0) rfl rfl ?_
      refine ev_bk 1 (S' := (96, [some (.ref 367), some (vI x1), some (vI x2)], [vI ((-2))], hp S2, 0, 0)) rfl ?_
      obtain ⟨rfl, rfl⟩ := F
      exact ev_ret rfl rfl
    by_cases d1 : w32 x2 < 1
    · have e := ts_eq d0 d1
      have F := F.1 e
      refine mv_tin 52 0 e rfl (by decide) rfl rfl ?_
      refine ev_bk 1 (S' := (53, [some (.ref 367), some (vI x1), some (vI x2)], [.ref 367], hp S2, 0, 0)) rfl ?_
      refine mv_gfR rfl rfl (sh_367) (by decide) rfl ?_
      refine ev_bk 1 (S' := (57, [some (.ref 367), some (vI x1), some (vI x2)], [vI x1, .ref 424], hp S2, 0, 0)) rfl ?_
      obtain ⟨b5, F⟩ := F
      refine mv_ial rfl (sh_424) b5 ?_
      obtain ⟨rfl, rfl⟩ := F
      exact ev_ret rfl rfl
    by_cases d2 : w32 x2 < 2
    · have e := ts_eq d1 d2
      have F := F.2.1 e
      refine mv_tin 59 1 e rfl (by decide) rfl rfl ?_
      refine ev_bk 1 (S' := (60, [some (.ref 367), some (vI x1), some (vI x2)], [.ref 367], hp S2, 0, 0)) rfl ?_
      refine mv_gfR rfl rfl (sh_367) (by decide) rfl ?_
      refine ev_bk 1 (S' := (64, [some (.ref 367), some (vI x1), some (vI x2)], [vI x1, .ref 421], hp S2, 0, 0)) rfl ?_
      obtain ⟨b6, F⟩ := F
      refine mv_ial rfl (sh_421) b6 ?_
      obtain ⟨rfl, rfl⟩ := F
      exact ev_ret rfl rfl
    by_cases d3 : w32 x2 < 3
    · have e := ts_eq d2 d3
      have F := F.2.2.1 e
      refine mv_tin 66 2 e rfl (by decide) rfl rfl ?_
      refine ev_bk 1 (S' := (67, [some (.ref 367), some (vI x1), some (vI x2)], [.ref 367], hp S2, 0, 0)) rfl ?_
      refine mv_gfR rfl rfl (sh_367) (by decide) rfl ?_
      refine ev_bk 1 (S' := (71, [some (.ref 367), some (vI x1), some (vI x2)], [vI x1, .ref 422], hp S2, 0, 0)) rfl ?_
      obtain ⟨b7, F⟩ := F
      refine mv_ial rfl (sh_422) b7 ?_
      obtain ⟨rfl, rfl⟩ := F
      exact ev_ret rfl rfl
    by_cases d4 : w32 x2 < 4
    · have e := ts_eq d3 d4
      have F := F.2.2.2.1 e
      refine mv_tin 73 3 e rfl (by decide) rfl rfl ?_
      refine ev_bk 1 (S' := (74, [some (.ref 367), some (vI x1), some (vI x2)], [.ref 367], hp S2, 0, 0)) rfl ?_
      refine mv_gfR rfl rfl (sh_367) (by decide) rfl ?_
      refine ev_bk 1 (S' := (78, [some (.ref 367), some (vI x1), some (vI x2)], [vI x1, .ref 420], hp S2, 0, 0)) rfl ?_
      obtain ⟨b8, F⟩ := F
      refine mv_ial rfl (sh_420) b8 ?_
      obtain ⟨rfl, rfl⟩ := F
      exact ev_ret rfl rfl
    by_cases d5 : w32 x2 < 5
    · have e := ts_eq d4 d5
      have F := F.2.2.2.2.1 e
      refine mv_tin 80 4 e rfl (by decide) rfl rfl ?_
      refine ev_bk 2 (S' := (82, [some (.ref 367), some (vI x1), some (vI x2)], [vI x1, .ref 367], hp S2, 0, 0)) rfl ?_
      obtain ⟨z11, S9, e10, F⟩ := F
      refine mv_calv (as := [vI x1]) (rest := []) e10 (sh_367) rfl rfl rfl ⟨rfl, rfl⟩ rfl rfl rfl rfl rfl ?_
      refine mv_if 92 rfl rfl (fun c => ?_) (fun c => ?_)
      · have F := F.1 c
        refine ev_bk 1 (S' := (93, [some (.ref 367), some (vI x1), some (vI x2)], [vI 0], hp S9, 0, 0)) rfl ?_
        obtain ⟨rfl, rfl⟩ := F
        exact ev_ret rfl rfl
      · have F := F.2 c
        refine ev_bk 1 (S' := (89, [some (.ref 367), some (vI x1), some (vI x2)], [vI 1], hp S9, 0, 0)) rfl ?_
        refine mv_goto 93 rfl rfl ?_
        obtain ⟨rfl, rfl⟩ := F
        exact ev_ret rfl rfl
    have F := F.2.2.2.2.2 (ts_hi d5 (by decide)) (ts_hi d5 (by decide)) (ts_hi d5 (by decide)) (ts_hi d5 (by decide)) (ts_hi d5 (by decide))
    refine mv_tout 94 (Or.inr (ts_gt (hi := 4) d5)) rfl rfl ?_
    refine ev_bk 1 (S' := (96, [some (.ref 367), some (vI x1), some (vI x2)], [vI ((-2))], hp S2, 0, 0)) rfl ?_
    obtain ⟨rfl, rfl⟩ := F
    exact ev_ret rfl rfl
  · have F := F.2 c
    refine ev_bk 1 (S' := (14, [some (.ref 367), some (vI x1), some (vI x2)], [vI ((-1))], hp S2, 0, 0)) rfl ?_
    obtain ⟨rfl, rfl⟩ := F
    exact ev_ret rfl rfl
theorem vc_MD_noEntry {q : Nat × (Nat → Int32)} {S S' : ms} {r : Option Value} (x1 : Int)
    (F : ((w32 x1 < 0) → EV q 375 12 [some (.ref 367), some (vI x1)] [] S r S') ∧ ((¬ w32 x1 < 0) → ((w32 x1 < w32 (S.1 367 88)) → r = some (vI 0) ∧ S' = S) ∧ ((¬ w32 x1 < w32 (S.1 367 88)) → EV q 375 12 [some (.ref 367), some (vI x1)] [] S r S'))) : EV q 375 0 [some (.ref 367), some (vI x1)] [] S r S' := by
  unfold EV
  refine ev_bk 1 (S' := (1, [some (.ref 367), some (vI x1)], [vI x1], hp S, 0, 0)) rfl ?_
  refine mv_if 12 rfl rfl (fun c => ?_) (fun c => ?_)
  · have F := F.1 c
    exact F
  · have F := F.2 c
    refine ev_bk 2 (S' := (6, [some (.ref 367), some (vI x1)], [.ref 367, vI x1], hp S, 0, 0)) rfl ?_
    refine mv_gfI rfl rfl (sh_367) (by decide) rfl ?_
    refine mv_icmp 16 rfl rfl (fun c => ?_) (fun c => ?_)
    · have F := F.1 c
      refine ev_bk 1 (S' := (17, [some (.ref 367), some (vI x1)], [vI 0], hp S, 0, 0)) rfl ?_
      obtain ⟨rfl, rfl⟩ := F
      exact ev_ret rfl rfl
    · have F := F.2 c
      exact F
theorem vc_MD_noEntry_12 {q : Nat × (Nat → Int32)} {S S' : ms} {r : Option Value} (x1 : Int)
    (F : r = some (vI 1) ∧ S' = S) : EV q 375 12 [some (.ref 367), some (vI x1)] [] S r S' := by
  unfold EV
  refine ev_bk 1 (S' := (13, [some (.ref 367), some (vI x1)], [vI 1], hp S, 0, 0)) rfl ?_
  refine mv_goto 17 rfl rfl ?_
  obtain ⟨rfl, rfl⟩ := F
  exact ev_ret rfl rfl
theorem vc_MD_isUnsafe {q : Nat × (Nat → Int32)} {S S' : ms} {r : Option Value} (x1 : Int)
    (F : (0 ≤ w32 x1 ∧ w32 x1 < (16 : Nat)) ∧ (0 ≤ w32 (100 * x1) ∧ w32 (100 * x1) < (1600 : Nat)) ∧ ((¬ w32 (S.1 419 (w32 (100 * x1))) = 47) → EV q 376 28 [some (.ref 367), some (vI x1), some (vI (100 * x1)), some (vI (S.1 420 (w32 x1))), none, none, none] [vI 0] S r S') ∧ ((¬ (¬ w32 (S.1 419 (w32 (100 * x1))) = 47)) → EV q 376 28 [some (.ref 367), some (vI x1), some (vI (100 * x1)), some (vI (S.1 420 (w32 x1))), none, none, none] [vI 1] S r S')) : EV q 376 0 [some (.ref 367), some (vI x1), none, none, none, none, none] [] S r S' := by
  unfold EV
  refine ev_bk 2 (S' := (3, [some (.ref 367), some (vI x1), none, none, none, none, none], [vI x1, vI 100], hp S, 0, 0)) rfl ?_
  refine mv_imul rfl ?_
  refine ev_bk 2 (S' := (6, [some (.ref 367), some (vI x1), some (vI (100 * x1)), none, none, none, none], [.ref 367], hp S, 0, 0)) rfl ?_
  refine mv_gfR rfl rfl (sh_367) (by decide) rfl ?_
  refine ev_bk 1 (S' := (10, [some (.ref 367), some (vI x1), some (vI (100 * x1)), none, none, none, none], [vI x1, .ref 420], hp S, 0, 0)) rfl ?_
  obtain ⟨b1, F⟩ := F
  refine mv_ial rfl (sh_420) b1 ?_
  refine ev_bk 2 (S' := (13, [some (.ref 367), some (vI x1), some (vI (100 * x1)), some (vI (S.1 420 (w32 x1))), none, none, none], [.ref 367], hp S, 0, 0)) rfl ?_
  refine mv_gfR rfl rfl (sh_367) (by decide) rfl ?_
  refine ev_bk 1 (S' := (17, [some (.ref 367), some (vI x1), some (vI (100 * x1)), some (vI (S.1 420 (w32 x1))), none, none, none], [vI (100 * x1), .ref 419], hp S, 0, 0)) rfl ?_
  obtain ⟨b2, F⟩ := F
  refine mv_bal rfl (sh_419) b2 ?_
  refine ev_bk 1 (S' := (20, [some (.ref 367), some (vI x1), some (vI (100 * x1)), some (vI (S.1 420 (w32 x1))), none, none, none], [vI 47, vI (S.1 419 (w32 (100 * x1)))], hp S, 0, 0)) rfl ?_
  refine mv_icmp 27 rfl rfl (fun c => ?_) (fun c => ?_)
  · have F := F.1 c
    refine ev_bk 1 (S' := (28, [some (.ref 367), some (vI x1), some (vI (100 * x1)), some (vI (S.1 420 (w32 x1))), none, none, none], [vI 0], hp S, 0, 0)) rfl ?_
    exact F
  · have F := F.2 c
    refine ev_bk 1 (S' := (24, [some (.ref 367), some (vI x1), some (vI (100 * x1)), some (vI (S.1 420 (w32 x1))), none, none, none], [vI 1], hp S, 0, 0)) rfl ?_
    refine mv_goto 28 rfl rfl ?_
    exact F
theorem vc_MD_isUnsafe_28 {q : Nat × (Nat → Int32)} {S S' : ms} {r : Option Value} (x1 x2 x3 y0 : Int)
    (F : EV q 376 36 [some (.ref 367), some (vI x1), some (vI x2), some (vI x3), some (vI y0), some (vI 0), some (vI 0)] [] S r S') : EV q 376 28 [some (.ref 367), some (vI x1), some (vI x2), some (vI x3), none, none, none] [vI y0] S r S' := by
  unfold EV
  refine ev_bk 5 (S' := (36, [some (.ref 367), some (vI x1), some (vI x2), some (vI x3), some (vI y0), some (vI 0), some (vI 0)], [], hp S, 0, 0)) rfl ?_
  exact F
theorem vc_MD_isUnsafe_36 {q : Nat × (Nat → Int32)} {S S' : ms} {r : Option Value} (x1 x2 x3 x4 x5 x6 : Int)
    (F : ((w32 x3 < w32 x6) → (x4 = 0 ∨ x4 = 1) ∧ r = some (vI x4) ∧ S' = S) ∧ ((¬ w32 x3 < w32 x6) → ((w32 x3 ≤ w32 x6) → EV q 376 105 [some (.ref 367), some (vI x1), some (vI x2), some (vI x3), some (vI x4), some (vI x5), some (vI x6)] [] S r S') ∧ ((¬ w32 x3 ≤ w32 x6) → (0 ≤ w32 (x2 + x6) ∧ w32 (x2 + x6) < (1600 : Nat)) ∧ ((w32 (S.1 419 (w32 (x2 + x6))) = 47) → EV q 376 105 [some (.ref 367), some (vI x1), some (vI x2), some (vI x3), some (vI x4), some (vI x5), some (vI x6)] [] S r S') ∧ ((¬ w32 (S.1 419 (w32 (x2 + x6))) = 47) → ((¬ w32 x4 = 0) → EV q 376 95 [some (.ref 367), some (vI x1), some (vI x2), some (vI x3), some (vI x4), some (vI x5), some (vI x6)] [] S r S') ∧ ((¬ (¬ w32 x4 = 0)) → (0 ≤ w32 (x2 + x6) ∧ w32 (x2 + x6) < (1600 : Nat)) ∧ ((w32 (S.1 419 (w32 (x2 + x6))) = 92) → EV q 376 95 [some (.ref 367), some (vI x1), some (vI x2), some (vI x3), some (vI x4), some (vI x5), some (vI x6)] [] S r S') ∧ ((¬ w32 (S.1 419 (w32 (x2 + x6))) = 92) → (0 ≤ w32 (x2 + x6) ∧ w32 (x2 + x6) < (1600 : Nat)) ∧ ((¬ w32 (S.1 419 (w32 (x2 + x6))) = 58) → EV q 376 100 [some (.ref 367), some (vI x1), some (vI x2), some (vI x3), some (vI x4), some (vI x5), some (vI x6)] [vI 0] S r S') ∧ ((¬ (¬ w32 (S.1 419 (w32 (x2 + x6))) = 58)) → EV q 376 95 [some (.ref 367), some (vI x1), some (vI x2), some (vI x3), some (vI x4), some (vI x5), some (vI x6)] [] S r S'))))))) : EV q 376 36 [some (.ref 367), some (vI x1), some (vI x2), some (vI x3), some (vI x4), some (vI x5), some (vI x6)] [] S r S' := by
  unfold EV
  refine ev_bk 2 (S' := (39, [some (.ref 367), some (vI x1), some (vI x2), some (vI x3), some (vI x4), some (vI x5), some (vI x6)], [vI x3, vI x6], hp S, 0, 0)) rfl ?_
  refine mv_icmp 168 rfl rfl (fun c => ?_) (fun c => ?_)
  · have F := F.1 c
    refine ev_bk 1 (S' := (170, [some (.ref 367), some (vI x1), some (vI x2), some (vI x3), some (vI x4), some (vI x5), some (vI x6)], [vI x4], hp S, 0, 0)) rfl ?_
    obtain ⟨b1, F⟩ := F
    obtain ⟨rfl, rfl⟩ := F
    exact mv_zret b1 rfl rfl
  · have F := F.2 c
    refine ev_bk 2 (S' := (45, [some (.ref 367), some (vI x1), some (vI x2), some (vI x3), some (vI x4), some (vI x5), some (vI x6)], [vI x3, vI x6], hp S, 0, 0)) rfl ?_
    refine mv_icmp 105 rfl rfl (fun c => ?_) (fun c => ?_)
    · have F := F.1 c
      exact F
    · have F := F.2 c
      refine ev_bk 1 (S' := (49, [some (.ref 367), some (vI x1), some (vI x2), some (vI x3), some (vI x4), some (vI x5), some (vI x6)], [.ref 367], hp S, 0, 0)) rfl ?_
      refine mv_gfR rfl rfl (sh_367) (by decide) rfl ?_
      refine ev_bk 2 (S' := (55, [some (.ref 367), some (vI x1), some (vI x2), some (vI x3), some (vI x4), some (vI x5), some (vI x6)], [vI x6, vI x2, .ref 419], hp S, 0, 0)) rfl ?_
      refine mv_iadd rfl ?_
      obtain ⟨b2, F⟩ := F
      refine mv_bal rfl (sh_419) b2 ?_
      refine ev_bk 1 (S' := (59, [some (.ref 367), some (vI x1), some (vI x2), some (vI x3), some (vI x4), some (vI x5), some (vI x6)], [vI 47, vI (S.1 419 (w32 (x2 + x6)))], hp S, 0, 0)) rfl ?_
      refine mv_icmp 105 rfl rfl (fun c => ?_) (fun c => ?_)
      · have F := F.1 c
        exact F
      · have F := F.2 c
        refine ev_bk 1 (S' := (64, [some (.ref 367), some (vI x1), some (vI x2), some (vI x3), some (vI x4), some (vI x5), some (vI x6)], [vI x4], hp S, 0, 0)) rfl ?_
        refine mv_if 95 rfl rfl (fun c => ?_) (fun c => ?_)
        · have F := F.1 c
          exact F
        · have F := F.2 c
          refine ev_bk 1 (S' := (68, [some (.ref 367), some (vI x1), some (vI x2), some (vI x3), some (vI x4), some (vI x5), some (vI x6)], [.ref 367], hp S, 0, 0)) rfl ?_
          refine mv_gfR rfl rfl (sh_367) (by decide) rfl ?_
          refine ev_bk 2 (S' := (74, [some (.ref 367), some (vI x1), some (vI x2), some (vI x3), some (vI x4), some (vI x5), some (vI x6)], [vI x6, vI x2, .ref 419], hp S, 0, 0)) rfl ?_
          refine mv_iadd rfl ?_
          obtain ⟨b3, F⟩ := F
          refine mv_bal rfl (sh_419) b3 ?_
          refine ev_bk 1 (S' := (78, [some (.ref 367), some (vI x1), some (vI x2), some (vI x3), some (vI x4), some (vI x5), some (vI x6)], [vI 92, vI (S.1 419 (w32 (x2 + x6)))], hp S, 0, 0)) rfl ?_
          refine mv_icmp 95 rfl rfl (fun c => ?_) (fun c => ?_)
          · have F := F.1 c
            exact F
          · have F := F.2 c
            refine ev_bk 1 (S' := (82, [some (.ref 367), some (vI x1), some (vI x2), some (vI x3), some (vI x4), some (vI x5), some (vI x6)], [.ref 367], hp S, 0, 0)) rfl ?_
            refine mv_gfR rfl rfl (sh_367) (by decide) rfl ?_
            refine ev_bk 2 (S' := (88, [some (.ref 367), some (vI x1), some (vI x2), some (vI x3), some (vI x4), some (vI x5), some (vI x6)], [vI x6, vI x2, .ref 419], hp S, 0, 0)) rfl ?_
            refine mv_iadd rfl ?_
            obtain ⟨b4, F⟩ := F
            refine mv_bal rfl (sh_419) b4 ?_
            refine ev_bk 1 (S' := (92, [some (.ref 367), some (vI x1), some (vI x2), some (vI x3), some (vI x4), some (vI x5), some (vI x6)], [vI 58, vI (S.1 419 (w32 (x2 + x6)))], hp S, 0, 0)) rfl ?_
            refine mv_icmp 99 rfl rfl (fun c => ?_) (fun c => ?_)
            · have F := F.1 c
              refine ev_bk 1 (S' := (100, [some (.ref 367), some (vI x1), some (vI x2), some (vI x3), some (vI x4), some (vI x5), some (vI x6)], [vI 0], hp S, 0, 0)) rfl ?_
              exact F
            · have F := F.2 c
              exact F
theorem vc_MD_isUnsafe_95 {q : Nat × (Nat → Int32)} {S S' : ms} {r : Option Value} (x1 x2 x3 x4 x5 x6 : Int)
    (F : EV q 376 100 [some (.ref 367), some (vI x1), some (vI x2), some (vI x3), some (vI x4), some (vI x5), some (vI x6)] [vI 1] S r S') : EV q 376 95 [some (.ref 367), some (vI x1), some (vI x2), some (vI x3), some (vI x4), some (vI x5), some (vI x6)] [] S r S' := by
  unfold EV
  refine ev_bk 1 (S' := (96, [some (.ref 367), some (vI x1), some (vI x2), some (vI x3), some (vI x4), some (vI x5), some (vI x6)], [vI 1], hp S, 0, 0)) rfl ?_
  refine mv_goto 100 rfl rfl ?_
  exact F
theorem vc_MD_isUnsafe_100 {q : Nat × (Nat → Int32)} {S S' : ms} {r : Option Value} (x1 x2 x3 x4 x5 x6 y0 : Int)
    (F : EV q 376 162 [some (.ref 367), some (vI x1), some (vI x2), some (vI x3), some (vI y0), some (vI x5), some (vI x6)] [] S r S') : EV q 376 100 [some (.ref 367), some (vI x1), some (vI x2), some (vI x3), some (vI x4), some (vI x5), some (vI x6)] [vI y0] S r S' := by
  unfold EV
  refine ev_bk 1 (S' := (102, [some (.ref 367), some (vI x1), some (vI x2), some (vI x3), some (vI y0), some (vI x5), some (vI x6)], [], hp S, 0, 0)) rfl ?_
  refine mv_goto 162 rfl rfl ?_
  exact F
theorem vc_MD_isUnsafe_105 {q : Nat × (Nat → Int32)} {S S' : ms} {r : Option Value} (x1 x2 x3 x4 x5 x6 : Int)
    (F : ((¬ w32 x4 = 0) → EV q 376 149 [some (.ref 367), some (vI x1), some (vI x2), some (vI x3), some (vI x4), some (vI x5), some (vI x6)] [] S r S') ∧ ((¬ (¬ w32 x4 = 0)) → ((¬ w32 (x6 - x5) = 2) → EV q 376 153 [some (.ref 367), some (vI x1), some (vI x2), some (vI x3), some (vI x4), some (vI x5), some (vI x6)] [] S r S') ∧ ((¬ (¬ w32 (x6 - x5) = 2)) → (0 ≤ w32 (x2 + x5) ∧ w32 (x2 + x5) < (1600 : Nat)) ∧ ((¬ w32 (S.1 419 (w32 (x2 + x5))) = 46) → EV q 376 153 [some (.ref 367), some (vI x1), some (vI x2), some (vI x3), some (vI x4), some (vI x5), some (vI x6)] [] S r S') ∧ ((¬ (¬ w32 (S.1 419 (w32 (x2 + x5))) = 46)) → (0 ≤ w32 (x2 + x5 + 1) ∧ w32 (x2 + x5 + 1) < (1600 : Nat)) ∧ ((¬ w32 (S.1 419 (w32 (x2 + x5 + 1))) = 46) → EV q 376 153 [some (.ref 367), some (vI x1), some (vI x2), some (vI x3), some (vI x4), some (vI x5), some (vI x6)] [] S r S') ∧ ((¬ (¬ w32 (S.1 419 (w32 (x2 + x5 + 1))) = 46)) → EV q 376 149 [some (.ref 367), some (vI x1), some (vI x2), some (vI x3), some (vI x4), some (vI x5), some (vI x6)] [] S r S'))))) : EV q 376 105 [some (.ref 367), some (vI x1), some (vI x2), some (vI x3), some (vI x4), some (vI x5), some (vI x6)] [] S r S' := by
  unfold EV
  refine ev_bk 1 (S' := (107, [some (.ref 367), some (vI x1), some (vI x2), some (vI x3), some (vI x4), some (vI x5), some (vI x6)], [vI x4], hp S, 0, 0)) rfl ?_
  refine mv_if 149 rfl rfl (fun c => ?_) (fun c => ?_)
  · have F := F.1 c
    exact F
  · have F := F.2 c
    refine ev_bk 2 (S' := (114, [some (.ref 367), some (vI x1), some (vI x2), some (vI x3), some (vI x4), some (vI x5), some (vI x6)], [vI x5, vI x6], hp S, 0, 0)) rfl ?_
    refine mv_isub rfl ?_
    refine ev_bk 1 (S' := (116, [some (.ref 367), some (vI x1), some (vI x2), some (vI x3), some (vI x4), some (vI x5), some (vI x6)], [vI 2, vI (x6 - x5)], hp S, 0, 0)) rfl ?_
    refine mv_icmp 153 rfl rfl (fun c => ?_) (fun c => ?_)
    · have F := F.1 c
      exact F
    · have F := F.2 c
      refine ev_bk 1 (S' := (120, [some (.ref 367), some (vI x1), some (vI x2), some (vI x3), some (vI x4), some (vI x5), some (vI x6)], [.ref 367], hp S, 0, 0)) rfl ?_
      refine mv_gfR rfl rfl (sh_367) (by decide) rfl ?_
      refine ev_bk 2 (S' := (126, [some (.ref 367), some (vI x1), some (vI x2), some (vI x3), some (vI x4), some (vI x5), some (vI x6)], [vI x5, vI x2, .ref 419], hp S, 0, 0)) rfl ?_
      refine mv_iadd rfl ?_
      obtain ⟨b1, F⟩ := F
      refine mv_bal rfl (sh_419) b1 ?_
      refine ev_bk 1 (S' := (130, [some (.ref 367), some (vI x1), some (vI x2), some (vI x3), some (vI x4), some (vI x5), some (vI x6)], [vI 46, vI (S.1 419 (w32 (x2 + x5)))], hp S, 0, 0)) rfl ?_
      refine mv_icmp 153 rfl rfl (fun c => ?_) (fun c => ?_)
      · have F := F.1 c
        exact F
      · have F := F.2 c
        refine ev_bk 1 (S' := (134, [some (.ref 367), some (vI x1), some (vI x2), some (vI x3), some (vI x4), some (vI x5), some (vI x6)], [.ref 367], hp S, 0, 0)) rfl ?_
        refine mv_gfR rfl rfl (sh_367) (by decide) rfl ?_
        refine ev_bk 2 (S' := (140, [some (.ref 367), some (vI x1), some (vI x2), some (vI x3), some (vI x4), some (vI x5), some (vI x6)], [vI x5, vI x2, .ref 419], hp S, 0, 0)) rfl ?_
        refine mv_iadd rfl ?_
        refine ev_bk 1 (S' := (142, [some (.ref 367), some (vI x1), some (vI x2), some (vI x3), some (vI x4), some (vI x5), some (vI x6)], [vI 1, vI (x2 + x5), .ref 419], hp S, 0, 0)) rfl ?_
        refine mv_iadd rfl ?_
        obtain ⟨b2, F⟩ := F
        refine mv_bal rfl (sh_419) b2 ?_
        refine ev_bk 1 (S' := (146, [some (.ref 367), some (vI x1), some (vI x2), some (vI x3), some (vI x4), some (vI x5), some (vI x6)], [vI 46, vI (S.1 419 (w32 (x2 + x5 + 1)))], hp S, 0, 0)) rfl ?_
        refine mv_icmp 153 rfl rfl (fun c => ?_) (fun c => ?_)
        · have F := F.1 c
          exact F
        · have F := F.2 c
          exact F
theorem vc_MD_isUnsafe_149 {q : Nat × (Nat → Int32)} {S S' : ms} {r : Option Value} (x1 x2 x3 x4 x5 x6 : Int)
    (F : EV q 376 154 [some (.ref 367), some (vI x1), some (vI x2), some (vI x3), some (vI x4), some (vI x5), some (vI x6)] [vI 1] S r S') : EV q 376 149 [some (.ref 367), some (vI x1), some (vI x2), some (vI x3), some (vI x4), some (vI x5), some (vI x6)] [] S r S' := by
  unfold EV
  refine ev_bk 1 (S' := (150, [some (.ref 367), some (vI x1), some (vI x2), some (vI x3), some (vI x4), some (vI x5), some (vI x6)], [vI 1], hp S, 0, 0)) rfl ?_
  refine mv_goto 154 rfl rfl ?_
  exact F
theorem vc_MD_isUnsafe_153 {q : Nat × (Nat → Int32)} {S S' : ms} {r : Option Value} (x1 x2 x3 x4 x5 x6 : Int)
    (F : EV q 376 154 [some (.ref 367), some (vI x1), some (vI x2), some (vI x3), some (vI x4), some (vI x5), some (vI x6)] [vI 0] S r S') : EV q 376 153 [some (.ref 367), some (vI x1), some (vI x2), some (vI x3), some (vI x4), some (vI x5), some (vI x6)] [] S r S' := by
  unfold EV
  refine ev_bk 1 (S' := (154, [some (.ref 367), some (vI x1), some (vI x2), some (vI x3), some (vI x4), some (vI x5), some (vI x6)], [vI 0], hp S, 0, 0)) rfl ?_
  exact F
theorem vc_MD_isUnsafe_154 {q : Nat × (Nat → Int32)} {S S' : ms} {r : Option Value} (x1 x2 x3 x4 x5 x6 y0 : Int)
    (F : EV q 376 162 [some (.ref 367), some (vI x1), some (vI x2), some (vI x3), some (vI y0), some (vI (x6 + 1)), some (vI x6)] [] S r S') : EV q 376 154 [some (.ref 367), some (vI x1), some (vI x2), some (vI x3), some (vI x4), some (vI x5), some (vI x6)] [vI y0] S r S' := by
  unfold EV
  refine ev_bk 3 (S' := (159, [some (.ref 367), some (vI x1), some (vI x2), some (vI x3), some (vI y0), some (vI x5), some (vI x6)], [vI 1, vI x6], hp S, 0, 0)) rfl ?_
  refine mv_iadd rfl ?_
  refine ev_bk 1 (S' := (162, [some (.ref 367), some (vI x1), some (vI x2), some (vI x3), some (vI y0), some (vI (x6 + 1)), some (vI x6)], [], hp S, 0, 0)) rfl ?_
  exact F
theorem vc_MD_isUnsafe_162 {q : Nat × (Nat → Int32)} {S S' : ms} {r : Option Value} (x1 x2 x3 x4 x5 x6 : Int)
    (F : EV q 376 36 [some (.ref 367), some (vI x1), some (vI x2), some (vI x3), some (vI x4), some (vI x5), some (vI (x6 + 1))] [] S r S') : EV q 376 162 [some (.ref 367), some (vI x1), some (vI x2), some (vI x3), some (vI x4), some (vI x5), some (vI x6)] [] S r S' := by
  unfold EV
  refine mv_inc (lv' := [some (.ref 367), some (vI x1), some (vI x2), some (vI x3), some (vI x4), some (vI x5), some (vI (x6 + 1))]) 6 1 rfl rfl rfl rfl ?_
  refine mv_goto 36 rfl rfl ?_
  exact F
theorem vc_MD_nameAt {q : Nat × (Nat → Int32)} {S S' : ms} {r : Option Value} (x1 x2 : Int)
    (F : ∀ S1 : ms, S1 = wI S 367 0 0 → ∃ (z4 : Int) (S2 : ms), EV q 375 0 [some (.ref 367), some (vI x1)] [] S1 (some (vI z4)) S2 ∧ ((¬ w32 z4 = 0) → EV q 377 27 [some (.ref 367), some (vI x1), some (vI x2)] [] S2 r S') ∧ ((¬ (¬ w32 z4 = 0)) → ((w32 x2 < 0) → EV q 377 27 [some (.ref 367), some (vI x1), some (vI x2)] [] S2 r S') ∧ ((¬ w32 x2 < 0) → (0 ≤ w32 x1 ∧ w32 x1 < (16 : Nat)) ∧ ((w32 x2 < w32 (S2.1 420 (w32 x1))) → (0 ≤ w32 ((100 * x1) + x2) ∧ w32 ((100 * x1) + x2) < (1600 : Nat)) ∧ r = some (vI ((S2.1 419 (w32 ((100 * x1) + x2))) % 256)) ∧ S' = S2) ∧ ((¬ w32 x2 < w32 (S2.1 420 (w32 x1))) → EV q 377 27 [some (.ref 367), some (vI x1), some (vI x2)] [] S2 r S')))) : EV q 377 0 [some (.ref 367), some (vI x1), some (vI x2)] [] S r S' := by
  unfold EV
  refine ev_bk 2 (S' := (2, [some (.ref 367), some (vI x1), some (vI x2)], [vI 0, .ref 367], hp S, 0, 0)) rfl ?_
  refine mv_pfI rfl rfl (sh_367) (by decide) rfl rfl ?_
  have F := F _ rfl
  refine ev_bk 2 (S' := (7, [some (.ref 367), some (vI x1), some (vI x2)], [vI x1, .ref 367], hp (wI S 367 0 0), 0, 0)) rfl ?_
  obtain ⟨z4, S2, e3, F⟩ := F
  refine mv_calv (as := [vI x1]) (rest := []) e3 (sh_367) rfl rfl rfl ⟨rfl, rfl⟩ rfl rfl rfl rfl rfl ?_
  refine mv_if 27 rfl rfl (fun c => ?_) (fun c => ?_)
  · have F := F.1 c
    exact F
  · have F := F.2 c
    refine ev_bk 1 (S' := (14, [some (.ref 367), some (vI x1), some (vI x2)], [vI x2], hp S2, 0, 0)) rfl ?_
    refine mv_if 27 rfl rfl (fun c => ?_) (fun c => ?_)
    · have F := F.1 c
      exact F
    · have F := F.2 c
      refine ev_bk 2 (S' := (19, [some (.ref 367), some (vI x1), some (vI x2)], [.ref 367, vI x2], hp S2, 0, 0)) rfl ?_
      refine mv_gfR rfl rfl (sh_367) (by decide) rfl ?_
      refine ev_bk 1 (S' := (23, [some (.ref 367), some (vI x1), some (vI x2)], [vI x1, .ref 420, vI x2], hp S2, 0, 0)) rfl ?_
      obtain ⟨b5, F⟩ := F
      refine mv_ial rfl (sh_420) b5 ?_
      refine mv_icmp 31 rfl rfl (fun c => ?_) (fun c => ?_)
      · have F := F.1 c
        refine ev_bk 1 (S' := (32, [some (.ref 367), some (vI x1), some (vI x2)], [.ref 367], hp S2, 0, 0)) rfl ?_
        refine mv_gfR rfl rfl (sh_367) (by decide) rfl ?_
        refine ev_bk 2 (S' := (38, [some (.ref 367), some (vI x1), some (vI x2)], [vI x1, vI 100, .ref 419], hp S2, 0, 0)) rfl ?_
        refine mv_imul rfl ?_
        refine ev_bk 1 (S' := (40, [some (.ref 367), some (vI x1), some (vI x2)], [vI x2, vI (100 * x1), .ref 419], hp S2, 0, 0)) rfl ?_
        refine mv_iadd rfl ?_
        obtain ⟨b6, F⟩ := F
        refine mv_bal rfl (sh_419) b6 ?_
        refine ev_bk 1 (S' := (45, [some (.ref 367), some (vI x1), some (vI x2)], [vI 255, vI (S2.1 419 (w32 ((100 * x1) + x2)))], hp S2, 0, 0)) rfl ?_
        refine mv_iandm 256 8 (by decide) rfl rfl rfl ?_
        obtain ⟨rfl, rfl⟩ := F
        exact ev_ret rfl rfl
      · have F := F.2 c
        exact F
theorem vc_MD_nameAt_27 {q : Nat × (Nat → Int32)} {S S' : ms} {r : Option Value} (x1 x2 : Int)
    (F : r = some (vI ((-1))) ∧ S' = S) : EV q 377 27 [some (.ref 367), some (vI x1), some (vI x2)] [] S r S' := by
  unfold EV
  refine ev_bk 1 (S' := (28, [some (.ref 367), some (vI x1), some (vI x2)], [vI ((-1))], hp S, 0, 0)) rfl ?_
  refine mv_goto 46 rfl rfl ?_
  obtain ⟨rfl, rfl⟩ := F
  exact ev_ret rfl rfl
theorem vc_MD_extract {q : Nat × (Nat → Int32)} {S S' : ms} {r : Option Value} (x1 : Int)
    (F : ∀ S1 : ms, S1 = wI S 367 0 0 → ∃ (z4 : Int) (S2 : ms), EV q 375 0 [some (.ref 367), some (vI x1)] [] S1 (some (vI z4)) S2 ∧ ((w32 z4 = 0) → ∃ (z7 : Int) (S5 : ms), EV q 277 0 [some (.ref 367), none] [] S2 (some (vI z7)) S5 ∧ ((0 ≤ w32 z7) → (0 ≤ w32 x1 ∧ w32 x1 < (16 : Nat)) ∧ ∃ (z11 : Int) (S9 : ms), EV q 328 0 [some (.ref 367), some (.ref 423), some (vI (6000 * x1)), some (vI (S5.1 424 (w32 x1))), none, none] [] S5 (some (vI z11)) S9 ∧ r = some (vI z11) ∧ S' = S9) ∧ ((¬ 0 ≤ w32 z7) → r = some (vI ((-4))) ∧ S' = S5)) ∧ ((¬ w32 z4 = 0) → r = some (vI ((-1))) ∧ S' = S2)) : EV q 378 0 [some (.ref 367), some (vI x1)] [] S r S' := by
  unfold EV
  refine ev_bk 2 (S' := (2, [some (.ref 367), some (vI x1)], [vI 0, .ref 367], hp S, 0, 0)) rfl ?_
  refine mv_pfI rfl rfl (sh_367) (by decide) rfl rfl ?_
  have F := F _ rfl
  refine ev_bk 2 (S' := (7, [some (.ref 367), some (vI x1)], [vI x1, .ref 367], hp (wI S 367 0 0), 0, 0)) rfl ?_
  obtain ⟨z4, S2, e3, F⟩ := F
  refine mv_calv (as := [vI x1]) (rest := []) e3 (sh_367) rfl rfl rfl ⟨rfl, rfl⟩ rfl rfl rfl rfl rfl ?_
  refine mv_if 15 rfl rfl (fun c => ?_) (fun c => ?_)
  · have F := F.1 c
    refine ev_bk 1 (S' := (16, [some (.ref 367), some (vI x1)], [.ref 367], hp S2, 0, 0)) rfl ?_
    obtain ⟨z7, S5, e6, F⟩ := F
    refine mv_calv (as := []) (rest := []) e6 (sh_367) rfl rfl rfl ⟨rfl, rfl⟩ rfl rfl rfl rfl rfl ?_
    refine mv_if 27 rfl rfl (fun c => ?_) (fun c => ?_)
    · have F := F.1 c
      refine ev_bk 2 (S' := (29, [some (.ref 367), some (vI x1)], [.ref 367, .ref 367], hp S5, 0, 0)) rfl ?_
      refine mv_gfR rfl rfl (sh_367) (by decide) rfl ?_
      refine ev_bk 2 (S' := (36, [some (.ref 367), some (vI x1)], [vI x1, vI 6000, .ref 423, .ref 367], hp S5, 0, 0)) rfl ?_
      refine mv_imul rfl ?_
      refine ev_bk 1 (S' := (38, [some (.ref 367), some (vI x1)], [.ref 367, vI (6000 * x1), .ref 423, .ref 367], hp S5, 0, 0)) rfl ?_
      refine mv_gfR rfl rfl (sh_367) (by decide) rfl ?_
      refine ev_bk 1 (S' := (42, [some (.ref 367), some (vI x1)], [vI x1, .ref 424, vI (6000 * x1), .ref 423, .ref 367], hp S5, 0, 0)) rfl ?_
      obtain ⟨b8, F⟩ := F
      refine mv_ial rfl (sh_424) b8 ?_
      obtain ⟨z11, S9, e10, F⟩ := F
      refine mv_calv (as := [.ref 423, vI (6000 * x1), vI (S5.1 424 (w32 x1))]) (rest := []) e10 (sh_367) rfl rfl rfl ⟨rfl, rfl⟩ rfl rfl rfl rfl rfl ?_
      obtain ⟨rfl, rfl⟩ := F
      exact ev_ret rfl rfl
    · have F := F.2 c
      refine ev_bk 1 (S' := (24, [some (.ref 367), some (vI x1)], [vI ((-4))], hp S5, 0, 0)) rfl ?_
      refine mv_goto 46 rfl rfl ?_
      obtain ⟨rfl, rfl⟩ := F
      exact ev_ret rfl rfl
  · have F := F.2 c
    refine ev_bk 1 (S' := (14, [some (.ref 367), some (vI x1)], [vI ((-1))], hp S2, 0, 0)) rfl ?_
    obtain ⟨rfl, rfl⟩ := F
    exact ev_ret rfl rfl
theorem vc_MD_wipe {q : Nat × (Nat → Int32)} {S S' : ms} {r : Option Value}
    (F : ∀ S1 : ms, S1 = wI S 367 0 0 → ∀ S2 : ms, S2 = wI S1 367 88 0 → r = some (vI (S1.1 367 88)) ∧ S' = S2) : EV q 379 0 [some (.ref 367), none] [] S r S' := by
  unfold EV
  refine ev_bk 2 (S' := (2, [some (.ref 367), none], [vI 0, .ref 367], hp S, 0, 0)) rfl ?_
  refine mv_pfI rfl rfl (sh_367) (by decide) rfl rfl ?_
  have F := F _ rfl
  refine ev_bk 1 (S' := (6, [some (.ref 367), none], [.ref 367], hp (wI S 367 0 0), 0, 0)) rfl ?_
  refine mv_gfI rfl rfl (sh_367) (by decide) rfl ?_
  refine ev_bk 3 (S' := (12, [some (.ref 367), some (vI ((wI S 367 0 0).1 367 88))], [vI 0, .ref 367], hp (wI S 367 0 0), 0, 0)) rfl ?_
  refine mv_pfI rfl rfl (sh_367) (by decide) rfl rfl ?_
  have F := F _ rfl
  refine ev_bk 1 (S' := (16, [some (.ref 367), some (vI ((wI S 367 0 0).1 367 88))], [vI ((wI S 367 0 0).1 367 88)], hp (wI (wI S 367 0 0) 367 88 0), 0, 0)) rfl ?_
  obtain ⟨rfl, rfl⟩ := F
  exact ev_ret rfl rfl
theorem vc_MD_write {q : Nat × (Nat → Int32)} {S S' : ms} {r : Option Value} (x1 x2 : Int)
    (F : ∀ S1 : ms, S1 = wI S 367 0 0 → ∃ (z4 : Int) (S2 : ms), EV q 257 0 [some (vI x1), some (vI 11), some (vI 13)] [] S1 (some (vI z4)) S2 ∧ ((w32 z4 = 0) → r = some (vI ((-2))) ∧ S' = S2) ∧ ((¬ w32 z4 = 0) → ((¬ w32 x1 = 13) → EV q 380 29 [some (.ref 367), some (vI x1), some (vI x2), none] [vI 0, vI 0, vI x2] S2 r S') ∧ ((¬ (¬ w32 x1 = 13)) → EV q 380 29 [some (.ref 367), some (vI x1), some (vI x2), none] [vI 4, vI 0, vI x2] S2 r S'))) : EV q 380 0 [some (.ref 367), some (vI x1), some (vI x2), none] [] S r S' := by
  unfold EV
  refine ev_bk 2 (S' := (2, [some (.ref 367), some (vI x1), some (vI x2), none], [vI 0, .ref 367], hp S, 0, 0)) rfl ?_
  refine mv_pfI rfl rfl (sh_367) (by decide) rfl rfl ?_
  have F := F _ rfl
  refine ev_bk 3 (S' := (10, [some (.ref 367), some (vI x1), some (vI x2), none], [vI 13, vI 11, vI x1], hp (wI S 367 0 0), 0, 0)) rfl ?_
  obtain ⟨z4, S2, e3, F⟩ := F
  refine mv_cals (as := [vI x1, vI 11, vI 13]) (rest := []) e3 rfl rfl rfl ⟨rfl, rfl, rfl⟩ rfl rfl rfl rfl ?_
  refine mv_if 35 rfl rfl (fun c => ?_) (fun c => ?_)
  · have F := F.1 c
    refine ev_bk 1 (S' := (37, [some (.ref 367), some (vI x1), some (vI x2), none], [vI ((-2))], hp S2, 0, 0)) rfl ?_
    obtain ⟨rfl, rfl⟩ := F
    exact ev_ret rfl rfl
  · have F := F.2 c
    refine ev_bk 4 (S' := (21, [some (.ref 367), some (vI x1), some (vI x2), none], [vI 13, vI x1, vI 0, vI x2], hp S2, 0, 0)) rfl ?_
    refine mv_icmp 28 rfl rfl (fun c => ?_) (fun c => ?_)
    · have F := F.1 c
      refine ev_bk 1 (S' := (29, [some (.ref 367), some (vI x1), some (vI x2), none], [vI 0, vI 0, vI x2], hp S2, 0, 0)) rfl ?_
      exact F
    · have F := F.2 c
      refine ev_bk 1 (S' := (25, [some (.ref 367), some (vI x1), some (vI x2), none], [vI 4, vI 0, vI x2], hp S2, 0, 0)) rfl ?_
      refine mv_goto 29 rfl rfl ?_
      exact F
theorem vc_MD_write_29 {q : Nat × (Nat → Int32)} {S S' : ms} {r : Option Value} (x1 x2 y0 y1 y2 : Int)
    (F : ∃ (z3 : Int) (S1 : ms), EV q 257 0 [some (vI y2), some (vI y1), some (vI y0)] [] S (some (vI z3)) S1 ∧ ((¬ w32 z3 = 0) → ((¬ w32 x1 = 12) → EV q 380 54 [some (.ref 367), some (vI x1), some (vI x2), none] [] S1 r S') ∧ ((¬ (¬ w32 x1 = 12)) → ∃ (z6 : Int) (S4 : ms), EV q 381 0 [some (.ref 367), none, none, none] [] S1 (some (vI z6)) S4 ∧ ((¬ w32 z6 = 0) → EV q 380 54 [some (.ref 367), some (vI x1), some (vI x2), none] [] S4 r S') ∧ ((¬ (¬ w32 z6 = 0)) → r = some (vI ((-3))) ∧ S' = S4))) ∧ ((¬ (¬ w32 z3 = 0)) → r = some (vI ((-2))) ∧ S' = S1)) : EV q 380 29 [some (.ref 367), some (vI x1), some (vI x2), none] [vI y0, vI y1, vI y2] S r S' := by
  unfold EV
  obtain ⟨z3, S1, e2, F⟩ := F
  refine mv_cals (as := [vI y2, vI y1, vI y0]) (rest := []) e2 rfl rfl rfl ⟨rfl, rfl, rfl⟩ rfl rfl rfl rfl ?_
  refine mv_if 38 rfl rfl (fun c => ?_) (fun c => ?_)
  · have F := F.1 c
    refine ev_bk 2 (S' := (41, [some (.ref 367), some (vI x1), some (vI x2), none], [vI 12, vI x1], hp S1, 0, 0)) rfl ?_
    refine mv_icmp 54 rfl rfl (fun c => ?_) (fun c => ?_)
    · have F := F.1 c
      exact F
    · have F := F.2 c
      refine ev_bk 1 (S' := (45, [some (.ref 367), some (vI x1), some (vI x2), none], [.ref 367], hp S1, 0, 0)) rfl ?_
      obtain ⟨z6, S4, e5, F⟩ := F
      refine mv_calv (as := []) (rest := []) e5 (sh_367) rfl rfl rfl ⟨rfl, rfl⟩ rfl rfl rfl rfl rfl ?_
      refine mv_if 54 rfl rfl (fun c => ?_) (fun c => ?_)
      · have F := F.1 c
        exact F
      · have F := F.2 c
        refine ev_bk 1 (S' := (53, [some (.ref 367), some (vI x1), some (vI x2), none], [vI ((-3))], hp S4, 0, 0)) rfl ?_
        obtain ⟨rfl, rfl⟩ := F
        exact ev_ret rfl rfl
  · have F := F.2 c
    refine ev_bk 1 (S' := (37, [some (.ref 367), some (vI x1), some (vI x2), none], [vI ((-2))], hp S1, 0, 0)) rfl ?_
    obtain ⟨rfl, rfl⟩ := F
    exact ev_ret rfl rfl
theorem vc_MD_write_54 {q : Nat × (Nat → Int32)} {S S' : ms} {r : Option Value} (x1 x2 : Int)
    (F : ∃ (z3 : Int) (S1 : ms), EV q 277 0 [some (.ref 367), none] [] S (some (vI z3)) S1 ∧ ((0 ≤ w32 z3) → ∃ (S4 : ms), EV q 278 0 [some (.ref 367), some (vI 0)] [] S1 none S4 ∧ ((¬ w32 x1 = 11) → ((¬ w32 x1 = 12) → ∃ (S6 : ms), EV q 390 0 [some (.ref 367), some (vI x2), none, none, none] [] S4 none S6 ∧ EV q 380 101 [some (.ref 367), some (vI x1), some (vI x2), none] [] S6 r S') ∧ ((¬ (¬ w32 x1 = 12)) → ∃ (S8 : ms), EV q 388 0 [some (.ref 367), none, none] [] S4 none S8 ∧ EV q 380 101 [some (.ref 367), some (vI x1), some (vI x2), none] [] S8 r S')) ∧ ((¬ (¬ w32 x1 = 11)) → ∃ (z12 : Int) (S10 : ms), EV q 382 0 [some (.ref 367), none] [] S4 (some (vI z12)) S10 ∧ EV q 380 101 [some (.ref 367), some (vI x1), some (vI x2), none] [] S10 r S')) ∧ ((¬ 0 ≤ w32 z3) → r = some (vI ((-4))) ∧ S' = S1)) : EV q 380 54 [some (.ref 367), some (vI x1), some (vI x2), none] [] S r S' := by
  unfold EV
  refine ev_bk 1 (S' := (55, [some (.ref 367), some (vI x1), some (vI x2), none], [.ref 367], hp S, 0, 0)) rfl ?_
  obtain ⟨z3, S1, e2, F⟩ := F
  refine mv_calv (as := []) (rest := []) e2 (sh_367) rfl rfl rfl ⟨rfl, rfl⟩ rfl rfl rfl rfl rfl ?_
  refine mv_if 64 rfl rfl (fun c => ?_) (fun c => ?_)
  · have F := F.1 c
    refine ev_bk 2 (S' := (66, [some (.ref 367), some (vI x1), some (vI x2), none], [vI 0, .ref 367], hp S1, 0, 0)) rfl ?_
    obtain ⟨S4, e5, F⟩ := F
    refine mv_calv (as := [vI 0]) (rest := []) e5 (sh_367) rfl rfl rfl ⟨rfl, rfl⟩ rfl rfl rfl rfl rfl ?_
    refine ev_bk 2 (S' := (72, [some (.ref 367), some (vI x1), some (vI x2), none], [vI 11, vI x1], hp S4, 0, 0)) rfl ?_
    refine mv_icmp 83 rfl rfl (fun c => ?_) (fun c => ?_)
    · have F := F.1 c
      refine ev_bk 2 (S' := (86, [some (.ref 367), some (vI x1), some (vI x2), none], [vI 12, vI x1], hp S4, 0, 0)) rfl ?_
      refine mv_icmp 96 rfl rfl (fun c => ?_) (fun c => ?_)
      · have F := F.1 c
        refine ev_bk 2 (S' := (98, [some (.ref 367), some (vI x1), some (vI x2), none], [vI x2, .ref 367], hp S4, 0, 0)) rfl ?_
        obtain ⟨S6, e7, F⟩ := F
        refine mv_calv (as := [vI x2]) (rest := []) e7 (sh_367) rfl rfl rfl ⟨rfl, rfl⟩ rfl rfl rfl rfl rfl ?_
        exact F
      · have F := F.2 c
        refine ev_bk 1 (S' := (90, [some (.ref 367), some (vI x1), some (vI x2), none], [.ref 367], hp S4, 0, 0)) rfl ?_
        obtain ⟨S8, e9, F⟩ := F
        refine mv_calv (as := []) (rest := []) e9 (sh_367) rfl rfl rfl ⟨rfl, rfl⟩ rfl rfl rfl rfl rfl ?_
        refine mv_goto 101 rfl rfl ?_
        exact F
    · have F := F.2 c
      refine ev_bk 1 (S' := (76, [some (.ref 367), some (vI x1), some (vI x2), none], [.ref 367], hp S4, 0, 0)) rfl ?_
      obtain ⟨z12, S10, e11, F⟩ := F
      refine mv_calv (as := []) (rest := []) e11 (sh_367) rfl rfl rfl ⟨rfl, rfl⟩ rfl rfl rfl rfl rfl ?_
      refine ev_bk 1 (S' := (80, [some (.ref 367), some (vI x1), some (vI x2), some (vI z12)], [], hp S10, 0, 0)) rfl ?_
      refine mv_goto 101 rfl rfl ?_
      exact ev_wk (le_s (le_s (le_s (le_n le_0)))) F
  · have F := F.2 c
    refine ev_bk 1 (S' := (63, [some (.ref 367), some (vI x1), some (vI x2), none], [vI ((-4))], hp S1, 0, 0)) rfl ?_
    obtain ⟨rfl, rfl⟩ := F
    exact ev_ret rfl rfl
theorem vc_MD_write_101 {q : Nat × (Nat → Int32)} {S S' : ms} {r : Option Value} (x1 x2 : Int)
    (F : ((w32 (S.1 367 9) ≤ 12000) → ∃ (z3 : Int) (S1 : ms), EV q 328 0 [some (.ref 367), some (.ref 374), some (vI 0), some (vI (S.1 367 9)), none, none] [] S (some (vI z3)) S1 ∧ r = some (vI z3) ∧ S' = S1) ∧ ((¬ w32 (S.1 367 9) ≤ 12000) → r = some (vI ((-4))) ∧ S' = S)) : EV q 380 101 [some (.ref 367), some (vI x1), some (vI x2), none] [] S r S' := by
  unfold EV
  refine ev_bk 1 (S' := (102, [some (.ref 367), some (vI x1), some (vI x2), none], [.ref 367], hp S, 0, 0)) rfl ?_
  refine mv_gfI rfl rfl (sh_367) (by decide) rfl ?_
  refine ev_bk 1 (S' := (108, [some (.ref 367), some (vI x1), some (vI x2), none], [vI 12000, vI (S.1 367 9)], hp S, 0, 0)) rfl ?_
  refine mv_icmp 116 rfl rfl (fun c => ?_) (fun c => ?_)
  · have F := F.1 c
    refine ev_bk 2 (S' := (118, [some (.ref 367), some (vI x1), some (vI x2), none], [.ref 367, .ref 367], hp S, 0, 0)) rfl ?_
    refine mv_gfR rfl rfl (sh_367) (by decide) rfl ?_
    refine ev_bk 2 (S' := (123, [some (.ref 367), some (vI x1), some (vI x2), none], [.ref 367, vI 0, .ref 374, .ref 367], hp S, 0, 0)) rfl ?_
    refine mv_gfI rfl rfl (sh_367) (by decide) rfl ?_
    obtain ⟨z3, S1, e2, F⟩ := F
    refine mv_calv (as := [.ref 374, vI 0, vI (S.1 367 9)]) (rest := []) e2 (sh_367) rfl rfl rfl ⟨rfl, rfl⟩ rfl rfl rfl rfl rfl ?_
    obtain ⟨rfl, rfl⟩ := F
    exact ev_ret rfl rfl
  · have F := F.2 c
    refine ev_bk 1 (S' := (113, [some (.ref 367), some (vI x1), some (vI x2), none], [vI ((-4))], hp S, 0, 0)) rfl ?_
    refine mv_goto 129 rfl rfl ?_
    obtain ⟨rfl, rfl⟩ := F
    exact ev_ret rfl rfl
theorem vc_MD_canBench {q : Nat × (Nat → Int32)} {S S' : ms} {r : Option Value}
    (F : EV q 381 4 [some (.ref 367), some (vI 1), some (vI 0), none] [] S r S') : EV q 381 0 [some (.ref 367), none, none, none] [] S r S' := by
  unfold EV
  refine ev_bk 4 (S' := (4, [some (.ref 367), some (vI 1), some (vI 0), none], [], hp S, 0, 0)) rfl ?_
  exact F
theorem vc_MD_canBench_4 {q : Nat × (Nat → Int32)} {S S' : ms} {r : Option Value} (x1 x2 : Int)
    (F : ((w32 (S.1 367 88) ≤ w32 x2) → (x1 = 0 ∨ x1 = 1) ∧ r = some (vI x1) ∧ S' = S) ∧ ((¬ w32 (S.1 367 88) ≤ w32 x2) → ((w32 x1 = 0) → EV q 381 31 [some (.ref 367), some (vI x1), some (vI x2), none] [] S r S') ∧ ((¬ w32 x1 = 0) → (0 ≤ w32 x2 ∧ w32 x2 < (16 : Nat)) ∧ ((15 < w32 (S.1 420 (w32 x2))) → EV q 381 31 [some (.ref 367), some (vI x1), some (vI x2), none] [] S r S') ∧ ((¬ 15 < w32 (S.1 420 (w32 x2))) → EV q 381 32 [some (.ref 367), some (vI x1), some (vI x2), none] [vI 1] S r S')))) : EV q 381 4 [some (.ref 367), some (vI x1), some (vI x2), none] [] S r S' := by
  unfold EV
  refine ev_bk 2 (S' := (6, [some (.ref 367), some (vI x1), some (vI x2), none], [.ref 367, vI x2], hp S, 0, 0)) rfl ?_
  refine mv_gfI rfl rfl (sh_367) (by decide) rfl ?_
  refine mv_icmp 99 rfl rfl (fun c => ?_) (fun c => ?_)
  · have F := F.1 c
    refine ev_bk 1 (S' := (100, [some (.ref 367), some (vI x1), some (vI x2), none], [vI x1], hp S, 0, 0)) rfl ?_
    obtain ⟨b1, F⟩ := F
    obtain ⟨rfl, rfl⟩ := F
    exact mv_zret b1 rfl rfl
  · have F := F.2 c
    refine ev_bk 1 (S' := (13, [some (.ref 367), some (vI x1), some (vI x2), none], [vI x1], hp S, 0, 0)) rfl ?_
    refine mv_if 31 rfl rfl (fun c => ?_) (fun c => ?_)
    · have F := F.1 c
      exact F
    · have F := F.2 c
      refine ev_bk 1 (S' := (17, [some (.ref 367), some (vI x1), some (vI x2), none], [.ref 367], hp S, 0, 0)) rfl ?_
      refine mv_gfR rfl rfl (sh_367) (by decide) rfl ?_
      refine ev_bk 1 (S' := (21, [some (.ref 367), some (vI x1), some (vI x2), none], [vI x2, .ref 420], hp S, 0, 0)) rfl ?_
      obtain ⟨b2, F⟩ := F
      refine mv_ial rfl (sh_420) b2 ?_
      refine ev_bk 1 (S' := (24, [some (.ref 367), some (vI x1), some (vI x2), none], [vI 15, vI (S.1 420 (w32 x2))], hp S, 0, 0)) rfl ?_
      refine mv_icmp 31 rfl rfl (fun c => ?_) (fun c => ?_)
      · have F := F.1 c
        exact F
      · have F := F.2 c
        refine ev_bk 1 (S' := (28, [some (.ref 367), some (vI x1), some (vI x2), none], [vI 1], hp S, 0, 0)) rfl ?_
        refine mv_goto 32 rfl rfl ?_
        exact F
theorem vc_MD_canBench_31 {q : Nat × (Nat → Int32)} {S S' : ms} {r : Option Value} (x1 x2 : Int)
    (F : EV q 381 32 [some (.ref 367), some (vI x1), some (vI x2), none] [vI 0] S r S') : EV q 381 31 [some (.ref 367), some (vI x1), some (vI x2), none] [] S r S' := by
  unfold EV
  refine ev_bk 1 (S' := (32, [some (.ref 367), some (vI x1), some (vI x2), none], [vI 0], hp S, 0, 0)) rfl ?_
  exact F
theorem vc_MD_canBench_32 {q : Nat × (Nat → Int32)} {S S' : ms} {r : Option Value} (x1 x2 y0 : Int)
    (F : EV q 381 35 [some (.ref 367), some (vI y0), some (vI x2), some (vI 0)] [] S r S') : EV q 381 32 [some (.ref 367), some (vI x1), some (vI x2), none] [vI y0] S r S' := by
  unfold EV
  refine ev_bk 3 (S' := (35, [some (.ref 367), some (vI y0), some (vI x2), some (vI 0)], [], hp S, 0, 0)) rfl ?_
  exact F
theorem vc_MD_canBench_35 {q : Nat × (Nat → Int32)} {S S' : ms} {r : Option Value} (x1 x2 x3 : Int)
    (F : (0 ≤ w32 x2 ∧ w32 x2 < (16 : Nat)) ∧ ((w32 (S.1 420 (w32 x2)) ≤ w32 x3) → EV q 381 4 [some (.ref 367), some (vI x1), some (vI (x2 + 1)), none] [] S r S') ∧ ((¬ w32 (S.1 420 (w32 x2)) ≤ w32 x3) → ((w32 x1 = 0) → EV q 381 85 [some (.ref 367), some (vI x1), some (vI x2), some (vI x3)] [] S r S') ∧ ((¬ w32 x1 = 0) → (0 ≤ w32 ((100 * x2) + x3) ∧ w32 ((100 * x2) + x3) < (1600 : Nat)) ∧ ((w32 (S.1 419 (w32 ((100 * x2) + x3))) = 47) → EV q 381 85 [some (.ref 367), some (vI x1), some (vI x2), some (vI x3)] [] S r S') ∧ ((¬ w32 (S.1 419 (w32 ((100 * x2) + x3))) = 47) → (0 ≤ w32 ((100 * x2) + x3) ∧ w32 ((100 * x2) + x3) < (1600 : Nat)) ∧ ((w32 (S.1 419 (w32 ((100 * x2) + x3))) = 32) → EV q 381 85 [some (.ref 367), some (vI x1), some (vI x2), some (vI x3)] [] S r S') ∧ ((¬ w32 (S.1 419 (w32 ((100 * x2) + x3))) = 32) → EV q 381 86 [some (.ref 367), some (vI x1), some (vI x2), some (vI x3)] [vI 1] S r S'))))) : EV q 381 35 [some (.ref 367), some (vI x1), some (vI x2), some (vI x3)] [] S r S' := by
  unfold EV
  refine ev_bk 2 (S' := (37, [some (.ref 367), some (vI x1), some (vI x2), some (vI x3)], [.ref 367, vI x3], hp S, 0, 0)) rfl ?_
  refine mv_gfR rfl rfl (sh_367) (by decide) rfl ?_
  refine ev_bk 1 (S' := (41, [some (.ref 367), some (vI x1), some (vI x2), some (vI x3)], [vI x2, .ref 420, vI x3], hp S, 0, 0)) rfl ?_
  obtain ⟨b1, F⟩ := F
  refine mv_ial rfl (sh_420) b1 ?_
  refine mv_icmp 93 rfl rfl (fun c => ?_) (fun c => ?_)
  · have F := F.1 c
    refine mv_inc (lv' := [some (.ref 367), some (vI x1), some (vI (x2 + 1)), some (vI x3)]) 2 1 rfl rfl rfl rfl ?_
    refine mv_goto 4 rfl rfl ?_
    exact ev_wk (le_s (le_s (le_s (le_n le_0)))) F
  · have F := F.2 c
    refine ev_bk 1 (S' := (46, [some (.ref 367), some (vI x1), some (vI x2), some (vI x3)], [vI x1], hp S, 0, 0)) rfl ?_
    refine mv_if 85 rfl rfl (fun c => ?_) (fun c => ?_)
    · have F := F.1 c
      exact F
    · have F := F.2 c
      refine ev_bk 1 (S' := (50, [some (.ref 367), some (vI x1), some (vI x2), some (vI x3)], [.ref 367], hp S, 0, 0)) rfl ?_
      refine mv_gfR rfl rfl (sh_367) (by decide) rfl ?_
      refine ev_bk 2 (S' := (56, [some (.ref 367), some (vI x1), some (vI x2), some (vI x3)], [vI x2, vI 100, .ref 419], hp S, 0, 0)) rfl ?_
      refine mv_imul rfl ?_
      refine ev_bk 1 (S' := (58, [some (.ref 367), some (vI x1), some (vI x2), some (vI x3)], [vI x3, vI (100 * x2), .ref 419], hp S, 0, 0)) rfl ?_
      refine mv_iadd rfl ?_
      obtain ⟨b2, F⟩ := F
      refine mv_bal rfl (sh_419) b2 ?_
      refine ev_bk 1 (S' := (62, [some (.ref 367), some (vI x1), some (vI x2), some (vI x3)], [vI 47, vI (S.1 419 (w32 ((100 * x2) + x3)))], hp S, 0, 0)) rfl ?_
      refine mv_icmp 85 rfl rfl (fun c => ?_) (fun c => ?_)
      · have F := F.1 c
        exact F
      · have F := F.2 c
        refine ev_bk 1 (S' := (66, [some (.ref 367), some (vI x1), some (vI x2), some (vI x3)], [.ref 367], hp S, 0, 0)) rfl ?_
        refine mv_gfR rfl rfl (sh_367) (by decide) rfl ?_
        refine ev_bk 2 (S' := (72, [some (.ref 367), some (vI x1), some (vI x2), some (vI x3)], [vI x2, vI 100, .ref 419], hp S, 0, 0)) rfl ?_
        refine mv_imul rfl ?_
        refine ev_bk 1 (S' := (74, [some (.ref 367), some (vI x1), some (vI x2), some (vI x3)], [vI x3, vI (100 * x2), .ref 419], hp S, 0, 0)) rfl ?_
        refine mv_iadd rfl ?_
        obtain ⟨b3, F⟩ := F
        refine mv_bal rfl (sh_419) b3 ?_
        refine ev_bk 1 (S' := (78, [some (.ref 367), some (vI x1), some (vI x2), some (vI x3)], [vI 32, vI (S.1 419 (w32 ((100 * x2) + x3)))], hp S, 0, 0)) rfl ?_
        refine mv_icmp 85 rfl rfl (fun c => ?_) (fun c => ?_)
        · have F := F.1 c
          exact F
        · have F := F.2 c
          refine ev_bk 1 (S' := (82, [some (.ref 367), some (vI x1), some (vI x2), some (vI x3)], [vI 1], hp S, 0, 0)) rfl ?_
          refine mv_goto 86 rfl rfl ?_
          exact F
theorem vc_MD_canBench_85 {q : Nat × (Nat → Int32)} {S S' : ms} {r : Option Value} (x1 x2 x3 : Int)
    (F : EV q 381 86 [some (.ref 367), some (vI x1), some (vI x2), some (vI x3)] [vI 0] S r S') : EV q 381 85 [some (.ref 367), some (vI x1), some (vI x2), some (vI x3)] [] S r S' := by
  unfold EV
  refine ev_bk 1 (S' := (86, [some (.ref 367), some (vI x1), some (vI x2), some (vI x3)], [vI 0], hp S, 0, 0)) rfl ?_
  exact F
theorem vc_MD_canBench_86 {q : Nat × (Nat → Int32)} {S S' : ms} {r : Option Value} (x1 x2 x3 y0 : Int)
    (F : EV q 381 35 [some (.ref 367), some (vI y0), some (vI x2), some (vI (x3 + 1))] [] S r S') : EV q 381 86 [some (.ref 367), some (vI x1), some (vI x2), some (vI x3)] [vI y0] S r S' := by
  unfold EV
  refine ev_bk 1 (S' := (87, [some (.ref 367), some (vI y0), some (vI x2), some (vI x3)], [], hp S, 0, 0)) rfl ?_
  refine mv_inc (lv' := [some (.ref 367), some (vI y0), some (vI x2), some (vI (x3 + 1))]) 3 1 rfl rfl rfl rfl ?_
  refine mv_goto 35 rfl rfl ?_
  exact F
theorem vc_MD_writeTape {q : Nat × (Nat → Int32)} {S S' : ms} {r : Option Value}
    (F : EV q 382 2 [some (.ref 367), some (vI 0)] [] S r S') : EV q 382 0 [some (.ref 367), none] [] S r S' := by
  unfold EV
  refine ev_bk 2 (S' := (2, [some (.ref 367), some (vI 0)], [], hp S, 0, 0)) rfl ?_
  exact F
theorem vc_MD_writeTape_2 {q : Nat × (Nat → Int32)} {S S' : ms} {r : Option Value} (x1 : Int)
    (F : ((w32 (S.1 367 88) ≤ w32 x1) → EV q 382 57 [some (.ref 367), some (vI x1)] [] S r S') ∧ ((¬ w32 (S.1 367 88) ≤ w32 x1) → ((12000 < w32 (S.1 367 9)) → EV q 382 57 [some (.ref 367), some (vI x1)] [] S r S') ∧ ((¬ 12000 < w32 (S.1 367 9)) → ∃ (S1 : ms), EV q 383 0 [some (.ref 367), some (vI x1), none, none, none] [] S none S1 ∧ ∃ (S3 : ms), EV q 387 0 [some (.ref 367), some (vI x1), none] [] S1 none S3 ∧ ∃ (S5 : ms), EV q 385 0 [some (.ref 367), some (vI ((Int.tdiv (w32 (S3.1 367 9 + 511)) (w32 512)) * 512)), some (vI 0)] [] S3 none S5 ∧ EV q 382 2 [some (.ref 367), some (vI (x1 + 1))] [] S5 r S'))) : EV q 382 2 [some (.ref 367), some (vI x1)] [] S r S' := by
  unfold EV
  refine ev_bk 2 (S' := (4, [some (.ref 367), some (vI x1)], [.ref 367, vI x1], hp S, 0, 0)) rfl ?_
  refine mv_gfI rfl rfl (sh_367) (by decide) rfl ?_
  refine mv_icmp 57 rfl rfl (fun c => ?_) (fun c => ?_)
  · have F := F.1 c
    exact F
  · have F := F.2 c
    refine ev_bk 1 (S' := (11, [some (.ref 367), some (vI x1)], [.ref 367], hp S, 0, 0)) rfl ?_
    refine mv_gfI rfl rfl (sh_367) (by decide) rfl ?_
    refine ev_bk 1 (S' := (17, [some (.ref 367), some (vI x1)], [vI 12000, vI (S.1 367 9)], hp S, 0, 0)) rfl ?_
    refine mv_icmp 57 rfl rfl (fun c => ?_) (fun c => ?_)
    · have F := F.1 c
      exact F
    · have F := F.2 c
      refine ev_bk 2 (S' := (22, [some (.ref 367), some (vI x1)], [vI x1, .ref 367], hp S, 0, 0)) rfl ?_
      obtain ⟨S1, e2, F⟩ := F
      refine mv_calv (as := [vI x1]) (rest := []) e2 (sh_367) rfl rfl rfl ⟨rfl, rfl⟩ rfl rfl rfl rfl rfl ?_
      refine ev_bk 2 (S' := (27, [some (.ref 367), some (vI x1)], [vI x1, .ref 367], hp S1, 0, 0)) rfl ?_
      obtain ⟨S3, e4, F⟩ := F
      refine mv_calv (as := [vI x1]) (rest := []) e4 (sh_367) rfl rfl rfl ⟨rfl, rfl⟩ rfl rfl rfl rfl rfl ?_
      refine ev_bk 2 (S' := (32, [some (.ref 367), some (vI x1)], [.ref 367, .ref 367], hp S3, 0, 0)) rfl ?_
      refine mv_gfI rfl rfl (sh_367) (by decide) rfl ?_
      refine ev_bk 1 (S' := (38, [some (.ref 367), some (vI x1)], [vI 511, vI (S3.1 367 9), .ref 367], hp S3, 0, 0)) rfl ?_
      refine mv_iadd rfl ?_
      refine ev_bk 1 (S' := (42, [some (.ref 367), some (vI x1)], [vI 512, vI (S3.1 367 9 + 511), .ref 367], hp S3, 0, 0)) rfl ?_
      refine mv_idiv (by decide) rfl ?_
      refine ev_bk 1 (S' := (46, [some (.ref 367), some (vI x1)], [vI 512, vI (Int.tdiv (w32 (S3.1 367 9 + 511)) (w32 512)), .ref 367], hp S3, 0, 0)) rfl ?_
      refine mv_imul rfl ?_
      refine ev_bk 1 (S' := (48, [some (.ref 367), some (vI x1)], [vI 0, vI ((Int.tdiv (w32 (S3.1 367 9 + 511)) (w32 512)) * 512), .ref 367], hp S3, 0, 0)) rfl ?_
      obtain ⟨S5, e6, F⟩ := F
      refine mv_calv (as := [vI ((Int.tdiv (w32 (S3.1 367 9 + 511)) (w32 512)) * 512), vI 0]) (rest := []) e6 (sh_367) rfl rfl rfl ⟨rfl, rfl⟩ rfl rfl rfl rfl rfl ?_
      refine mv_inc (lv' := [some (.ref 367), some (vI (x1 + 1))]) 1 1 rfl rfl rfl rfl ?_
      refine mv_goto 2 rfl rfl ?_
      exact F
theorem vc_MD_writeTape_57 {q : Nat × (Nat → Int32)} {S S' : ms} {r : Option Value} (x1 : Int)
    (F : ∃ (S1 : ms), EV q 385 0 [some (.ref 367), some (vI (S.1 367 9 + 1024)), some (vI 0)] [] S none S1 ∧ r = some (vI 1) ∧ S' = S1) : EV q 382 57 [some (.ref 367), some (vI x1)] [] S r S' := by
  unfold EV
  refine ev_bk 2 (S' := (59, [some (.ref 367), some (vI x1)], [.ref 367, .ref 367], hp S, 0, 0)) rfl ?_
  refine mv_gfI rfl rfl (sh_367) (by decide) rfl ?_
  refine ev_bk 1 (S' := (65, [some (.ref 367), some (vI x1)], [vI 1024, vI (S.1 367 9), .ref 367], hp S, 0, 0)) rfl ?_
  refine mv_iadd rfl ?_
  refine ev_bk 1 (S' := (67, [some (.ref 367), some (vI x1)], [vI 0, vI (S.1 367 9 + 1024), .ref 367], hp S, 0, 0)) rfl ?_
  obtain ⟨S1, e2, F⟩ := F
  refine mv_calv (as := [vI (S.1 367 9 + 1024), vI 0]) (rest := []) e2 (sh_367) rfl rfl rfl ⟨rfl, rfl⟩ rfl rfl rfl rfl rfl ?_
  refine ev_bk 1 (S' := (71, [some (.ref 367), some (vI x1)], [vI 1], hp S1, 0, 0)) rfl ?_
  obtain ⟨rfl, rfl⟩ := F
  exact ev_ret rfl rfl
theorem vc_MD_tapeRow {q : Nat × (Nat → Int32)} {S S' : ms} {r : Option Value} (x1 : Int)
    (F : ∃ (S1 : ms), EV q 384 0 [some (.ref 367), some (vI x1), none] [] S none S1 ∧ ∃ (S3 : ms), EV q 385 0 [some (.ref 367), some (vI (S.1 367 9 + 100)), some (vI 0)] [] S1 none S3 ∧ EV q 383 21 [some (.ref 367), some (vI x1), some (vI (S.1 367 9)), some (vI 0), none] [] S3 r S') : EV q 383 0 [some (.ref 367), some (vI x1), none, none, none] [] S r S' := by
  unfold EV
  refine ev_bk 1 (S' := (1, [some (.ref 367), some (vI x1), none, none, none], [.ref 367], hp S, 0, 0)) rfl ?_
  refine mv_gfI rfl rfl (sh_367) (by decide) rfl ?_
  refine ev_bk 3 (S' := (7, [some (.ref 367), some (vI x1), some (vI (S.1 367 9)), none, none], [vI x1, .ref 367], hp S, 0, 0)) rfl ?_
  obtain ⟨S1, e2, F⟩ := F
  refine mv_calv (as := [vI x1]) (rest := []) e2 (sh_367) rfl rfl rfl ⟨rfl, rfl⟩ rfl rfl rfl rfl rfl ?_
  refine ev_bk 3 (S' := (14, [some (.ref 367), some (vI x1), some (vI (S.1 367 9)), none, none], [vI 100, vI (S.1 367 9), .ref 367], hp S1, 0, 0)) rfl ?_
  refine mv_iadd rfl ?_
  refine ev_bk 1 (S' := (16, [some (.ref 367), some (vI x1), some (vI (S.1 367 9)), none, none], [vI 0, vI (S.1 367 9 + 100), .ref 367], hp S1, 0, 0)) rfl ?_
  obtain ⟨S3, e4, F⟩ := F
  refine mv_calv (as := [vI (S.1 367 9 + 100), vI 0]) (rest := []) e4 (sh_367) rfl rfl rfl ⟨rfl, rfl⟩ rfl rfl rfl rfl rfl ?_
  refine ev_bk 2 (S' := (21, [some (.ref 367), some (vI x1), some (vI (S.1 367 9)), some (vI 0), none], [], hp S3, 0, 0)) rfl ?_
  exact F
theorem vc_MD_tapeRow_21 {q : Nat × (Nat → Int32)} {S S' : ms} {r : Option Value} (x1 x2 x3 : Int)
    (F : ((3 ≤ w32 x3) → (0 ≤ w32 x1 ∧ w32 x1 < (16 : Nat)) ∧ ∃ (S2 : ms), EV q 386 0 [some (.ref 367), some (vL (w32 (S.1 424 (w32 x1)))), none, some (vI 8), some (vI 11), none, none, none] [] S none S2 ∧ ∃ (S4 : ms), EV q 282 0 [some (.ref 367), some (vI 0)] [] S2 none S4 ∧ (0 ≤ w32 x1 ∧ w32 x1 < (16 : Nat)) ∧ ∃ (S7 : ms), EV q 386 0 [some (.ref 367), some (vL (w32 (S4.1 422 (w32 x1)))), none, some (vI 8), some (vI 11), none, none, none] [] S4 none S7 ∧ ∃ (S9 : ms), EV q 282 0 [some (.ref 367), some (vI 0)] [] S7 none S9 ∧ ∃ (S11 : ms), EV q 385 0 [some (.ref 367), some (vI (x2 + 156)), some (vI 32)] [] S9 none S11 ∧ ∃ (S13 : ms), EV q 282 0 [some (.ref 367), some (vI 48)] [] S11 none S13 ∧ ∃ (S15 : ms), EV q 385 0 [some (.ref 367), some (vI (x2 + 257)), some (vI 0)] [] S13 none S15 ∧ ∃ (S17 : ms), EV q 282 0 [some (.ref 367), some (vI 117)] [] S15 none S17 ∧ ∃ (S19 : ms), EV q 282 0 [some (.ref 367), some (vI 115)] [] S17 none S19 ∧ ∃ (S21 : ms), EV q 282 0 [some (.ref 367), some (vI 116)] [] S19 none S21 ∧ ∃ (S23 : ms), EV q 282 0 [some (.ref 367), some (vI 97)] [] S21 none S23 ∧ ∃ (S25 : ms), EV q 282 0 [some (.ref 367), some (vI 114)] [] S23 none S25 ∧ ∃ (S27 : ms), EV q 282 0 [some (.ref 367), some (vI 0)] [] S25 none S27 ∧ ∃ (S29 : ms), EV q 282 0 [some (.ref 367), some (vI 48)] [] S27 none S29 ∧ ∃ (S31 : ms), EV q 282 0 [some (.ref 367), some (vI 48)] [] S29 none S31 ∧ ∃ (S33 : ms), EV q 385 0 [some (.ref 367), some (vI (x2 + 512)), some (vI 0)] [] S31 none S33 ∧ EV q 383 189 [some (.ref 367), some (vI x1), some (vI x2), some (vI 0), some (vI 0)] [] S33 r S') ∧ ((¬ 3 ≤ w32 x3) → ((¬ w32 x3 = 0) → EV q 383 42 [some (.ref 367), some (vI x1), some (vI x2), some (vI x3), none] [vL 0, .ref 367] S r S') ∧ ((¬ (¬ w32 x3 = 0)) → (0 ≤ w32 x1 ∧ w32 x1 < (16 : Nat)) ∧ EV q 383 42 [some (.ref 367), some (vI x1), some (vI x2), some (vI x3), none] [vL (w32 (S.1 421 (w32 x1))), .ref 367] S r S'))) : EV q 383 21 [some (.ref 367), some (vI x1), some (vI x2), some (vI x3), none] [] S r S' := by
  unfold EV
  refine ev_bk 2 (S' := (23, [some (.ref 367), some (vI x1), some (vI x2), some (vI x3), none], [vI 3, vI x3], hp S, 0, 0)) rfl ?_
  refine mv_icmp 60 rfl rfl (fun c => ?_) (fun c => ?_)
  · have F := F.1 c
    refine ev_bk 2 (S' := (62, [some (.ref 367), some (vI x1), some (vI x2), some (vI x3), none], [.ref 367, .ref 367], hp S, 0, 0)) rfl ?_
    refine mv_gfR rfl rfl (sh_367) (by decide) rfl ?_
    refine ev_bk 1 (S' := (66, [some (.ref 367), some (vI x1), some (vI x2), some (vI x3), none], [vI x1, .ref 424, .ref 367], hp S, 0, 0)) rfl ?_
    obtain ⟨b1, F⟩ := F
    refine mv_ial rfl (sh_424) b1 ?_
    refine mv_i2l rfl ?_
    refine ev_bk 2 (S' := (72, [some (.ref 367), some (vI x1), some (vI x2), some (vI x3), none], [vI 11, vI 8, vL (w32 (S.1 424 (w32 x1))), .ref 367], hp S, 0, 0)) rfl ?_
    obtain ⟨S2, e3, F⟩ := F
    refine mv_calv (as := [vL (w32 (S.1 424 (w32 x1))), vI 8, vI 11]) (rest := []) e3 (sh_367) rfl rfl rfl ⟨rfl, rfl⟩ rfl rfl rfl rfl rfl ?_
    refine ev_bk 2 (S' := (77, [some (.ref 367), some (vI x1), some (vI x2), some (vI x3), none], [vI 0, .ref 367], hp S2, 0, 0)) rfl ?_
    obtain ⟨S4, e5, F⟩ := F
    refine mv_calv (as := [vI 0]) (rest := []) e5 (sh_367) rfl rfl rfl ⟨rfl, rfl⟩ rfl rfl rfl rfl rfl ?_
    refine ev_bk 2 (S' := (82, [some (.ref 367), some (vI x1), some (vI x2), some (vI x3), none], [.ref 367, .ref 367], hp S4, 0, 0)) rfl ?_
    refine mv_gfR rfl rfl (sh_367) (by decide) rfl ?_
    refine ev_bk 1 (S' := (86, [some (.ref 367), some (vI x1), some (vI x2), some (vI x3), none], [vI x1, .ref 422, .ref 367], hp S4, 0, 0)) rfl ?_
    obtain ⟨b6, F⟩ := F
    refine mv_ial rfl (sh_422) b6 ?_
    refine mv_i2l rfl ?_
    refine ev_bk 2 (S' := (92, [some (.ref 367), some (vI x1), some (vI x2), some (vI x3), none], [vI 11, vI 8, vL (w32 (S4.1 422 (w32 x1))), .ref 367], hp S4, 0, 0)) rfl ?_
    obtain ⟨S7, e8, F⟩ := F
    refine mv_calv (as := [vL (w32 (S4.1 422 (w32 x1))), vI 8, vI 11]) (rest := []) e8 (sh_367) rfl rfl rfl ⟨rfl, rfl⟩ rfl rfl rfl rfl rfl ?_
    refine ev_bk 2 (S' := (97, [some (.ref 367), some (vI x1), some (vI x2), some (vI x3), none], [vI 0, .ref 367], hp S7, 0, 0)) rfl ?_
    obtain ⟨S9, e10, F⟩ := F
    refine mv_calv (as := [vI 0]) (rest := []) e10 (sh_367) rfl rfl rfl ⟨rfl, rfl⟩ rfl rfl rfl rfl rfl ?_
    refine ev_bk 3 (S' := (105, [some (.ref 367), some (vI x1), some (vI x2), some (vI x3), none], [vI 156, vI x2, .ref 367], hp S9, 0, 0)) rfl ?_
    refine mv_iadd rfl ?_
    refine ev_bk 1 (S' := (108, [some (.ref 367), some (vI x1), some (vI x2), some (vI x3), none], [vI 32, vI (x2 + 156), .ref 367], hp S9, 0, 0)) rfl ?_
    obtain ⟨S11, e12, F⟩ := F
    refine mv_calv (as := [vI (x2 + 156), vI 32]) (rest := []) e12 (sh_367) rfl rfl rfl ⟨rfl, rfl⟩ rfl rfl rfl rfl rfl ?_
    refine ev_bk 2 (S' := (114, [some (.ref 367), some (vI x1), some (vI x2), some (vI x3), none], [vI 48, .ref 367], hp S11, 0, 0)) rfl ?_
    obtain ⟨S13, e14, F⟩ := F
    refine mv_calv (as := [vI 48]) (rest := []) e14 (sh_367) rfl rfl rfl ⟨rfl, rfl⟩ rfl rfl rfl rfl rfl ?_
    refine ev_bk 3 (S' := (122, [some (.ref 367), some (vI x1), some (vI x2), some (vI x3), none], [vI 257, vI x2, .ref 367], hp S13, 0, 0)) rfl ?_
    refine mv_iadd rfl ?_
    refine ev_bk 1 (S' := (124, [some (.ref 367), some (vI x1), some (vI x2), some (vI x3), none], [vI 0, vI (x2 + 257), .ref 367], hp S13, 0, 0)) rfl ?_
    obtain ⟨S15, e16, F⟩ := F
    refine mv_calv (as := [vI (x2 + 257), vI 0]) (rest := []) e16 (sh_367) rfl rfl rfl ⟨rfl, rfl⟩ rfl rfl rfl rfl rfl ?_
    refine ev_bk 2 (S' := (130, [some (.ref 367), some (vI x1), some (vI x2), some (vI x3), none], [vI 117, .ref 367], hp S15, 0, 0)) rfl ?_
    obtain ⟨S17, e18, F⟩ := F
    refine mv_calv (as := [vI 117]) (rest := []) e18 (sh_367) rfl rfl rfl ⟨rfl, rfl⟩ rfl rfl rfl rfl rfl ?_
    refine ev_bk 2 (S' := (136, [some (.ref 367), some (vI x1), some (vI x2), some (vI x3), none], [vI 115, .ref 367], hp S17, 0, 0)) rfl ?_
    obtain ⟨S19, e20, F⟩ := F
    refine mv_calv (as := [vI 115]) (rest := []) e20 (sh_367) rfl rfl rfl ⟨rfl, rfl⟩ rfl rfl rfl rfl rfl ?_
    refine ev_bk 2 (S' := (142, [some (.ref 367), some (vI x1), some (vI x2), some (vI x3), none], [vI 116, .ref 367], hp S19, 0, 0)) rfl ?_
    obtain ⟨S21, e22, F⟩ := F
    refine mv_calv (as := [vI 116]) (rest := []) e22 (sh_367) rfl rfl rfl ⟨rfl, rfl⟩ rfl rfl rfl rfl rfl ?_
    refine ev_bk 2 (S' := (148, [some (.ref 367), some (vI x1), some (vI x2), some (vI x3), none], [vI 97, .ref 367], hp S21, 0, 0)) rfl ?_
    obtain ⟨S23, e24, F⟩ := F
    refine mv_calv (as := [vI 97]) (rest := []) e24 (sh_367) rfl rfl rfl ⟨rfl, rfl⟩ rfl rfl rfl rfl rfl ?_
    refine ev_bk 2 (S' := (154, [some (.ref 367), some (vI x1), some (vI x2), some (vI x3), none], [vI 114, .ref 367], hp S23, 0, 0)) rfl ?_
    obtain ⟨S25, e26, F⟩ := F
    refine mv_calv (as := [vI 114]) (rest := []) e26 (sh_367) rfl rfl rfl ⟨rfl, rfl⟩ rfl rfl rfl rfl rfl ?_
    refine ev_bk 2 (S' := (159, [some (.ref 367), some (vI x1), some (vI x2), some (vI x3), none], [vI 0, .ref 367], hp S25, 0, 0)) rfl ?_
    obtain ⟨S27, e28, F⟩ := F
    refine mv_calv (as := [vI 0]) (rest := []) e28 (sh_367) rfl rfl rfl ⟨rfl, rfl⟩ rfl rfl rfl rfl rfl ?_
    refine ev_bk 2 (S' := (165, [some (.ref 367), some (vI x1), some (vI x2), some (vI x3), none], [vI 48, .ref 367], hp S27, 0, 0)) rfl ?_
    obtain ⟨S29, e30, F⟩ := F
    refine mv_calv (as := [vI 48]) (rest := []) e30 (sh_367) rfl rfl rfl ⟨rfl, rfl⟩ rfl rfl rfl rfl rfl ?_
    refine ev_bk 2 (S' := (171, [some (.ref 367), some (vI x1), some (vI x2), some (vI x3), none], [vI 48, .ref 367], hp S29, 0, 0)) rfl ?_
    obtain ⟨S31, e32, F⟩ := F
    refine mv_calv (as := [vI 48]) (rest := []) e32 (sh_367) rfl rfl rfl ⟨rfl, rfl⟩ rfl rfl rfl rfl rfl ?_
    refine ev_bk 3 (S' := (179, [some (.ref 367), some (vI x1), some (vI x2), some (vI x3), none], [vI 512, vI x2, .ref 367], hp S31, 0, 0)) rfl ?_
    refine mv_iadd rfl ?_
    refine ev_bk 1 (S' := (181, [some (.ref 367), some (vI x1), some (vI x2), some (vI x3), none], [vI 0, vI (x2 + 512), .ref 367], hp S31, 0, 0)) rfl ?_
    obtain ⟨S33, e34, F⟩ := F
    refine mv_calv (as := [vI (x2 + 512), vI 0]) (rest := []) e34 (sh_367) rfl rfl rfl ⟨rfl, rfl⟩ rfl rfl rfl rfl rfl ?_
    refine ev_bk 4 (S' := (189, [some (.ref 367), some (vI x1), some (vI x2), some (vI 0), some (vI 0)], [], hp S33, 0, 0)) rfl ?_
    exact F
  · have F := F.2 c
    refine ev_bk 2 (S' := (28, [some (.ref 367), some (vI x1), some (vI x2), some (vI x3), none], [vI x3, .ref 367], hp S, 0, 0)) rfl ?_
    refine mv_if 41 rfl rfl (fun c => ?_) (fun c => ?_)
    · have F := F.1 c
      refine ev_bk 1 (S' := (42, [some (.ref 367), some (vI x1), some (vI x2), some (vI x3), none], [vL 0, .ref 367], hp S, 0, 0)) rfl ?_
      exact F
    · have F := F.2 c
      refine ev_bk 1 (S' := (32, [some (.ref 367), some (vI x1), some (vI x2), some (vI x3), none], [.ref 367, .ref 367], hp S, 0, 0)) rfl ?_
      refine mv_gfR rfl rfl (sh_367) (by decide) rfl ?_
      refine ev_bk 1 (S' := (36, [some (.ref 367), some (vI x1), some (vI x2), some (vI x3), none], [vI x1, .ref 421, .ref 367], hp S, 0, 0)) rfl ?_
      obtain ⟨b35, F⟩ := F
      refine mv_ial rfl (sh_421) b35 ?_
      refine mv_i2l rfl ?_
      refine mv_goto 42 rfl rfl ?_
      exact F
theorem vc_MD_tapeRow_42 {q : Nat × (Nat → Int32)} {S S' : ms} {r : Option Value} (x1 x2 x3 y0 : Int)
    (F : ∃ (S1 : ms), EV q 386 0 [some (.ref 367), some (vL y0), none, some (vI 8), some (vI 7), none, none, none] [] S none S1 ∧ ∃ (S3 : ms), EV q 282 0 [some (.ref 367), some (vI 0)] [] S1 none S3 ∧ EV q 383 21 [some (.ref 367), some (vI x1), some (vI x2), some (vI (x3 + 1)), none] [] S3 r S') : EV q 383 42 [some (.ref 367), some (vI x1), some (vI x2), some (vI x3), none] [vL y0, .ref 367] S r S' := by
  unfold EV
  refine ev_bk 2 (S' := (46, [some (.ref 367), some (vI x1), some (vI x2), some (vI x3), none], [vI 7, vI 8, vL y0, .ref 367], hp S, 0, 0)) rfl ?_
  obtain ⟨S1, e2, F⟩ := F
  refine mv_calv (as := [vL y0, vI 8, vI 7]) (rest := []) e2 (sh_367) rfl rfl rfl ⟨rfl, rfl⟩ rfl rfl rfl rfl rfl ?_
  refine ev_bk 2 (S' := (51, [some (.ref 367), some (vI x1), some (vI x2), some (vI x3), none], [vI 0, .ref 367], hp S1, 0, 0)) rfl ?_
  obtain ⟨S3, e4, F⟩ := F
  refine mv_calv (as := [vI 0]) (rest := []) e4 (sh_367) rfl rfl rfl ⟨rfl, rfl⟩ rfl rfl rfl rfl rfl ?_
  refine mv_inc (lv' := [some (.ref 367), some (vI x1), some (vI x2), some (vI (x3 + 1)), none]) 3 1 rfl rfl rfl rfl ?_
  refine mv_goto 21 rfl rfl ?_
  exact F
theorem vc_MD_tapeRow_189 {q : Nat × (Nat → Int32)} {S S' : ms} {r : Option Value} (x1 x2 x3 x4 : Int)
    (F : ((512 ≤ w32 x4) → ∀ S1 : ms, S1 = wI S 367 9 (x2 + 148) → ∃ (S2 : ms), EV q 386 0 [some (.ref 367), some (vL (w32 x3)), none, some (vI 8), some (vI 6), none, none, none] [] S1 none S2 ∧ ∃ (S4 : ms), EV q 282 0 [some (.ref 367), some (vI 0)] [] S2 none S4 ∧ ∀ S6 : ms, S6 = wI S4 367 9 (S.1 367 9) → r = none ∧ S' = S6) ∧ ((¬ 512 ≤ w32 x4) → (0 ≤ w32 (x2 + x4) ∧ w32 (x2 + x4) < (30000 : Nat)) ∧ EV q 383 189 [some (.ref 367), some (vI x1), some (vI x2), some (vI (x3 + ((S.1 374 (w32 (x2 + x4))) % 256))), some (vI (x4 + 1))] [] S r S')) : EV q 383 189 [some (.ref 367), some (vI x1), some (vI x2), some (vI x3), some (vI x4)] [] S r S' := by
  unfold EV
  refine ev_bk 2 (S' := (194, [some (.ref 367), some (vI x1), some (vI x2), some (vI x3), some (vI x4)], [vI 512, vI x4], hp S, 0, 0)) rfl ?_
  refine mv_icmp 219 rfl rfl (fun c => ?_) (fun c => ?_)
  · have F := F.1 c
    refine ev_bk 1 (S' := (220, [some (.ref 367), some (vI x1), some (vI x2), some (vI x3), some (vI x4)], [.ref 367], hp S, 0, 0)) rfl ?_
    refine mv_gfI rfl rfl (sh_367) (by decide) rfl ?_
    refine ev_bk 4 (S' := (230, [some (.ref 367), some (vI x1), some (vI x2), some (vI x3), some (vI (S.1 367 9))], [vI 148, vI x2, .ref 367], hp S, 0, 0)) rfl ?_
    refine mv_iadd rfl ?_
    refine mv_pfI rfl rfl (sh_367) (by decide) rfl rfl ?_
    have F := F _ rfl
    refine ev_bk 2 (S' := (236, [some (.ref 367), some (vI x1), some (vI x2), some (vI x3), some (vI (S.1 367 9))], [vI x3, .ref 367], hp (wI S 367 9 (x2 + 148)), 0, 0)) rfl ?_
    refine mv_i2l rfl ?_
    refine ev_bk 2 (S' := (241, [some (.ref 367), some (vI x1), some (vI x2), some (vI x3), some (vI (S.1 367 9))], [vI 6, vI 8, vL (w32 x3), .ref 367], hp (wI S 367 9 (x2 + 148)), 0, 0)) rfl ?_
    obtain ⟨S2, e3, F⟩ := F
    refine mv_calv (as := [vL (w32 x3), vI 8, vI 6]) (rest := []) e3 (sh_367) rfl rfl rfl ⟨rfl, rfl⟩ rfl rfl rfl rfl rfl ?_
    refine ev_bk 2 (S' := (246, [some (.ref 367), some (vI x1), some (vI x2), some (vI x3), some (vI (S.1 367 9))], [vI 0, .ref 367], hp S2, 0, 0)) rfl ?_
    obtain ⟨S4, e5, F⟩ := F
    refine mv_calv (as := [vI 0]) (rest := []) e5 (sh_367) rfl rfl rfl ⟨rfl, rfl⟩ rfl rfl rfl rfl rfl ?_
    refine ev_bk 2 (S' := (252, [some (.ref 367), some (vI x1), some (vI x2), some (vI x3), some (vI (S.1 367 9))], [vI (S.1 367 9), .ref 367], hp S4, 0, 0)) rfl ?_
    refine mv_pfI rfl rfl (sh_367) (by decide) rfl rfl ?_
    have F := F _ rfl
    obtain ⟨rfl, rfl⟩ := F
    exact ev_ret rfl rfl
  · have F := F.2 c
    refine ev_bk 2 (S' := (199, [some (.ref 367), some (vI x1), some (vI x2), some (vI x3), some (vI x4)], [.ref 367, vI x3], hp S, 0, 0)) rfl ?_
    refine mv_gfR rfl rfl (sh_367) (by decide) rfl ?_
    refine ev_bk 2 (S' := (205, [some (.ref 367), some (vI x1), some (vI x2), some (vI x3), some (vI x4)], [vI x4, vI x2, .ref 374, vI x3], hp S, 0, 0)) rfl ?_
    refine mv_iadd rfl ?_
    obtain ⟨b7, F⟩ := F
    refine mv_bal rfl (sh_374) b7 ?_
    refine ev_bk 1 (S' := (210, [some (.ref 367), some (vI x1), some (vI x2), some (vI x3), some (vI x4)], [vI 255, vI (S.1 374 (w32 (x2 + x4))), vI x3], hp S, 0, 0)) rfl ?_
    refine mv_iandm 256 8 (by decide) rfl rfl rfl ?_
    refine mv_iadd rfl ?_
    refine ev_bk 1 (S' := (213, [some (.ref 367), some (vI x1), some (vI x2), some (vI (x3 + ((S.1 374 (w32 (x2 + x4))) % 256))), some (vI x4)], [], hp S, 0, 0)) rfl ?_
    refine mv_inc (lv' := [some (.ref 367), some (vI x1), some (vI x2), some (vI (x3 + ((S.1 374 (w32 (x2 + x4))) % 256))), some (vI (x4 + 1))]) 4 1 rfl rfl rfl rfl ?_
    refine mv_goto 189 rfl rfl ?_
    exact F
theorem vc_MD_nameOf {q : Nat × (Nat → Int32)} {S S' : ms} {r : Option Value} (x1 : Int)
    (F : EV q 384 2 [some (.ref 367), some (vI x1), some (vI 0)] [] S r S') : EV q 384 0 [some (.ref 367), some (vI x1), none] [] S r S' := by
  unfold EV
  refine ev_bk 2 (S' := (2, [some (.ref 367), some (vI x1), some (vI 0)], [], hp S, 0, 0)) rfl ?_
  exact F
theorem vc_MD_nameOf_2 {q : Nat × (Nat → Int32)} {S S' : ms} {r : Option Value} (x1 x2 : Int)
    (F : (0 ≤ w32 x1 ∧ w32 x1 < (16 : Nat)) ∧ ((w32 (S.1 420 (w32 x1)) ≤ w32 x2) → r = none ∧ S' = S) ∧ ((¬ w32 (S.1 420 (w32 x1)) ≤ w32 x2) → (0 ≤ w32 ((100 * x1) + x2) ∧ w32 ((100 * x1) + x2) < (1600 : Nat)) ∧ ∃ (S3 : ms), EV q 282 0 [some (.ref 367), some (vI (S.1 419 (w32 ((100 * x1) + x2))))] [] S none S3 ∧ EV q 384 2 [some (.ref 367), some (vI x1), some (vI (x2 + 1))] [] S3 r S')) : EV q 384 2 [some (.ref 367), some (vI x1), some (vI x2)] [] S r S' := by
  unfold EV
  refine ev_bk 2 (S' := (4, [some (.ref 367), some (vI x1), some (vI x2)], [.ref 367, vI x2], hp S, 0, 0)) rfl ?_
  refine mv_gfR rfl rfl (sh_367) (by decide) rfl ?_
  refine ev_bk 1 (S' := (8, [some (.ref 367), some (vI x1), some (vI x2)], [vI x1, .ref 420, vI x2], hp S, 0, 0)) rfl ?_
  obtain ⟨b1, F⟩ := F
  refine mv_ial rfl (sh_420) b1 ?_
  refine mv_icmp 33 rfl rfl (fun c => ?_) (fun c => ?_)
  · have F := F.1 c
    obtain ⟨rfl, rfl⟩ := F
    exact ev_ret rfl rfl
  · have F := F.2 c
    refine ev_bk 2 (S' := (14, [some (.ref 367), some (vI x1), some (vI x2)], [.ref 367, .ref 367], hp S, 0, 0)) rfl ?_
    refine mv_gfR rfl rfl (sh_367) (by decide) rfl ?_
    refine ev_bk 2 (S' := (20, [some (.ref 367), some (vI x1), some (vI x2)], [vI x1, vI 100, .ref 419, .ref 367], hp S, 0, 0)) rfl ?_
    refine mv_imul rfl ?_
    refine ev_bk 1 (S' := (22, [some (.ref 367), some (vI x1), some (vI x2)], [vI x2, vI (100 * x1), .ref 419, .ref 367], hp S, 0, 0)) rfl ?_
    refine mv_iadd rfl ?_
    obtain ⟨b2, F⟩ := F
    refine mv_bal rfl (sh_419) b2 ?_
    obtain ⟨S3, e4, F⟩ := F
    refine mv_calv (as := [vI (S.1 419 (w32 ((100 * x1) + x2)))]) (rest := []) e4 (sh_367) rfl rfl rfl ⟨rfl, rfl⟩ rfl rfl rfl rfl rfl ?_
    refine mv_inc (lv' := [some (.ref 367), some (vI x1), some (vI (x2 + 1))]) 2 1 rfl rfl rfl rfl ?_
    refine mv_goto 2 rfl rfl ?_
    exact F
theorem vc_MD_fillTo {q : Nat × (Nat → Int32)} {S S' : ms} {r : Option Value} (x1 x2 : Int)
    (F : ((w32 x1 ≤ w32 (S.1 367 9)) → r = none ∧ S' = S) ∧ ((¬ w32 x1 ≤ w32 (S.1 367 9)) → ∃ (S1 : ms), EV q 282 0 [some (.ref 367), some (vI x2)] [] S none S1 ∧ EV q 385 0 [some (.ref 367), some (vI x1), some (vI x2)] [] S1 r S')) : EV q 385 0 [some (.ref 367), some (vI x1), some (vI x2)] [] S r S' := by
  unfold EV
  refine ev_bk 1 (S' := (1, [some (.ref 367), some (vI x1), some (vI x2)], [.ref 367], hp S, 0, 0)) rfl ?_
  refine mv_gfI rfl rfl (sh_367) (by decide) rfl ?_
  refine ev_bk 1 (S' := (5, [some (.ref 367), some (vI x1), some (vI x2)], [vI x1, vI (S.1 367 9)], hp S, 0, 0)) rfl ?_
  refine mv_icmp 16 rfl rfl (fun c => ?_) (fun c => ?_)
  · have F := F.1 c
    obtain ⟨rfl, rfl⟩ := F
    exact ev_ret rfl rfl
  · have F := F.2 c
    refine ev_bk 2 (S' := (10, [some (.ref 367), some (vI x1), some (vI x2)], [vI x2, .ref 367], hp S, 0, 0)) rfl ?_
    obtain ⟨S1, e2, F⟩ := F
    refine mv_calv (as := [vI x2]) (rest := []) e2 (sh_367) rfl rfl rfl ⟨rfl, rfl⟩ rfl rfl rfl rfl rfl ?_
    refine mv_goto 0 rfl rfl ?_
    exact F
theorem vc_MD_figures {q : Nat × (Nat → Int32)} {S S' : ms} {r : Option Value} (x1 x3 x4 : Int)
    (F : EV q 386 6 [some (.ref 367), some (vL x1), none, some (vI x3), some (vI x4), some (vL 1), none, some (vI 1)] [] S r S') : EV q 386 0 [some (.ref 367), some (vL x1), none, some (vI x3), some (vI x4), none, none, none] [] S r S' := by
  unfold EV
  refine ev_bk 4 (S' := (6, [some (.ref 367), some (vL x1), none, some (vI x3), some (vI x4), some (vL 1), none, some (vI 1)], [], hp S, 0, 0)) rfl ?_
  exact F
theorem vc_MD_figures_6 {q : Nat × (Nat → Int32)} {S S' : ms} {r : Option Value} (x1 x3 x4 x5 x7 : Int)
    (F : ((w32 x4 ≤ w32 x7) → EV q 386 29 [some (.ref 367), some (vL x1), none, some (vI x3), some (vI x4), some (vL x5), none, some (vI 0)] [] S r S') ∧ ((¬ w32 x4 ≤ w32 x7) → EV q 386 6 [some (.ref 367), some (vL x1), none, some (vI x3), some (vI x4), some (vL (x5 * (w32 x3))), none, some (vI (x7 + 1))] [] S r S')) : EV q 386 6 [some (.ref 367), some (vL x1), none, some (vI x3), some (vI x4), some (vL x5), none, some (vI x7)] [] S r S' := by
  unfold EV
  refine ev_bk 2 (S' := (10, [some (.ref 367), some (vL x1), none, some (vI x3), some (vI x4), some (vL x5), none, some (vI x7)], [vI x4, vI x7], hp S, 0, 0)) rfl ?_
  refine mv_icmp 26 rfl rfl (fun c => ?_) (fun c => ?_)
  · have F := F.1 c
    refine ev_bk 2 (S' := (29, [some (.ref 367), some (vL x1), none, some (vI x3), some (vI x4), some (vL x5), none, some (vI 0)], [], hp S, 0, 0)) rfl ?_
    exact F
  · have F := F.2 c
    refine ev_bk 2 (S' := (16, [some (.ref 367), some (vL x1), none, some (vI x3), some (vI x4), some (vL x5), none, some (vI x7)], [vI x3, vL x5], hp S, 0, 0)) rfl ?_
    refine mv_i2l rfl ?_
    refine mv_lmul rfl ?_
    refine ev_bk 1 (S' := (20, [some (.ref 367), some (vL x1), none, some (vI x3), some (vI x4), some (vL (x5 * (w32 x3))), none, some (vI x7)], [], hp S, 0, 0)) rfl ?_
    refine mv_inc (lv' := [some (.ref 367), some (vL x1), none, some (vI x3), some (vI x4), some (vL (x5 * (w32 x3))), none, some (vI (x7 + 1))]) 7 1 rfl rfl rfl rfl ?_
    refine mv_goto 6 rfl rfl ?_
    exact F
theorem vc_MD_figures_29 {q : Nat × (Nat → Int32)} {S S' : ms} {r : Option Value} (x1 x3 x4 x5 x7 : Int)
    (F : ((w32 x4 ≤ w32 x7) → r = none ∧ S' = S) ∧ ((¬ w32 x4 ≤ w32 x7) → (¬ w64 x5 = 0) ∧ (¬ w64 (w32 x3) = 0) ∧ ∃ (S3 : ms), EV q 282 0 [some (.ref 367), some (vI (48 + (Int.tmod (w64 (Int.tdiv (w64 x1) (w64 x5))) (w64 (w32 x3)))))] [] S none S3 ∧ (¬ w64 (w32 x3) = 0) ∧ EV q 386 29 [some (.ref 367), some (vL x1), none, some (vI x3), some (vI x4), some (vL (Int.tdiv (w64 x5) (w64 (w32 x3)))), none, some (vI (x7 + 1))] [] S3 r S')) : EV q 386 29 [some (.ref 367), some (vL x1), none, some (vI x3), some (vI x4), some (vL x5), none, some (vI x7)] [] S r S' := by
  unfold EV
  refine ev_bk 2 (S' := (33, [some (.ref 367), some (vL x1), none, some (vI x3), some (vI x4), some (vL x5), none, some (vI x7)], [vI x4, vI x7], hp S, 0, 0)) rfl ?_
  refine mv_icmp 65 rfl rfl (fun c => ?_) (fun c => ?_)
  · have F := F.1 c
    obtain ⟨rfl, rfl⟩ := F
    exact ev_ret rfl rfl
  · have F := F.2 c
    refine ev_bk 4 (S' := (43, [some (.ref 367), some (vL x1), none, some (vI x3), some (vI x4), some (vL x5), none, some (vI x7)], [vL x5, vL x1, vL 48, .ref 367], hp S, 0, 0)) rfl ?_
    obtain ⟨b1, F⟩ := F
    refine mv_ldiv b1 rfl ?_
    refine ev_bk 1 (S' := (45, [some (.ref 367), some (vL x1), none, some (vI x3), some (vI x4), some (vL x5), none, some (vI x7)], [vI x3, vL (Int.tdiv (w64 x1) (w64 x5)), vL 48, .ref 367], hp S, 0, 0)) rfl ?_
    refine mv_i2l rfl ?_
    obtain ⟨b2, F⟩ := F
    refine mv_lrem b2 rfl ?_
    refine mv_ladd rfl ?_
    refine mv_l2i rfl ?_
    obtain ⟨S3, e4, F⟩ := F
    refine mv_calv (as := [vI (48 + (Int.tmod (w64 (Int.tdiv (w64 x1) (w64 x5))) (w64 (w32 x3))))]) (rest := []) e4 (sh_367) rfl rfl rfl ⟨rfl, rfl⟩ rfl rfl rfl rfl rfl ?_
    refine ev_bk 2 (S' := (55, [some (.ref 367), some (vL x1), none, some (vI x3), some (vI x4), some (vL x5), none, some (vI x7)], [vI x3, vL x5], hp S3, 0, 0)) rfl ?_
    refine mv_i2l rfl ?_
    obtain ⟨b5, F⟩ := F
    refine mv_ldiv b5 rfl ?_
    refine ev_bk 1 (S' := (59, [some (.ref 367), some (vL x1), none, some (vI x3), some (vI x4), some (vL (Int.tdiv (w64 x5) (w64 (w32 x3)))), none, some (vI x7)], [], hp S3, 0, 0)) rfl ?_
    refine mv_inc (lv' := [some (.ref 367), some (vL x1), none, some (vI x3), some (vI x4), some (vL (Int.tdiv (w64 x5) (w64 (w32 x3)))), none, some (vI (x7 + 1))]) 7 1 rfl rfl rfl rfl ?_
    refine mv_goto 29 rfl rfl ?_
    exact F
theorem vc_MD_textOf {q : Nat × (Nat → Int32)} {S S' : ms} {r : Option Value} (x1 : Int)
    (F : EV q 387 2 [some (.ref 367), some (vI x1), some (vI 0)] [] S r S') : EV q 387 0 [some (.ref 367), some (vI x1), none] [] S r S' := by
  unfold EV
  refine ev_bk 2 (S' := (2, [some (.ref 367), some (vI x1), some (vI 0)], [], hp S, 0, 0)) rfl ?_
  exact F
theorem vc_MD_textOf_2 {q : Nat × (Nat → Int32)} {S S' : ms} {r : Option Value} (x1 x2 : Int)
    (F : (0 ≤ w32 x1 ∧ w32 x1 < (16 : Nat)) ∧ ((w32 (S.1 424 (w32 x1)) ≤ w32 x2) → r = none ∧ S' = S) ∧ ((¬ w32 (S.1 424 (w32 x1)) ≤ w32 x2) → (0 ≤ w32 ((6000 * x1) + x2) ∧ w32 ((6000 * x1) + x2) < (96000 : Nat)) ∧ ∃ (S3 : ms), EV q 282 0 [some (.ref 367), some (vI (S.1 423 (w32 ((6000 * x1) + x2))))] [] S none S3 ∧ EV q 387 2 [some (.ref 367), some (vI x1), some (vI (x2 + 1))] [] S3 r S')) : EV q 387 2 [some (.ref 367), some (vI x1), some (vI x2)] [] S r S' := by
  unfold EV
  refine ev_bk 2 (S' := (4, [some (.ref 367), some (vI x1), some (vI x2)], [.ref 367, vI x2], hp S, 0, 0)) rfl ?_
  refine mv_gfR rfl rfl (sh_367) (by decide) rfl ?_
  refine ev_bk 1 (S' := (8, [some (.ref 367), some (vI x1), some (vI x2)], [vI x1, .ref 424, vI x2], hp S, 0, 0)) rfl ?_
  obtain ⟨b1, F⟩ := F
  refine mv_ial rfl (sh_424) b1 ?_
  refine mv_icmp 34 rfl rfl (fun c => ?_) (fun c => ?_)
  · have F := F.1 c
    obtain ⟨rfl, rfl⟩ := F
    exact ev_ret rfl rfl
  · have F := F.2 c
    refine ev_bk 2 (S' := (14, [some (.ref 367), some (vI x1), some (vI x2)], [.ref 367, .ref 367], hp S, 0, 0)) rfl ?_
    refine mv_gfR rfl rfl (sh_367) (by decide) rfl ?_
    refine ev_bk 2 (S' := (21, [some (.ref 367), some (vI x1), some (vI x2)], [vI x1, vI 6000, .ref 423, .ref 367], hp S, 0, 0)) rfl ?_
    refine mv_imul rfl ?_
    refine ev_bk 1 (S' := (23, [some (.ref 367), some (vI x1), some (vI x2)], [vI x2, vI (6000 * x1), .ref 423, .ref 367], hp S, 0, 0)) rfl ?_
    refine mv_iadd rfl ?_
    obtain ⟨b2, F⟩ := F
    refine mv_bal rfl (sh_423) b2 ?_
    obtain ⟨S3, e4, F⟩ := F
    refine mv_calv (as := [vI (S.1 423 (w32 ((6000 * x1) + x2)))]) (rest := []) e4 (sh_367) rfl rfl rfl ⟨rfl, rfl⟩ rfl rfl rfl rfl rfl ?_
    refine mv_inc (lv' := [some (.ref 367), some (vI x1), some (vI (x2 + 1))]) 2 1 rfl rfl rfl rfl ?_
    refine mv_goto 2 rfl rfl ?_
    exact F
theorem vc_MD_writeBench {q : Nat × (Nat → Int32)} {S S' : ms} {r : Option Value}
    (F : EV q 388 2 [some (.ref 367), some (vI 0), none] [] S r S') : EV q 388 0 [some (.ref 367), none, none] [] S r S' := by
  unfold EV
  refine ev_bk 2 (S' := (2, [some (.ref 367), some (vI 0), none], [], hp S, 0, 0)) rfl ?_
  exact F
theorem vc_MD_writeBench_2 {q : Nat × (Nat → Int32)} {S S' : ms} {r : Option Value} (x1 : Int)
    (F : ((8 ≤ w32 x1) → EV q 388 25 [some (.ref 367), some (vI 0), none] [] S r S') ∧ ((¬ 8 ≤ w32 x1) → (0 ≤ w32 x1 ∧ w32 x1 < (8 : Nat)) ∧ ∃ (S2 : ms), EV q 282 0 [some (.ref 367), some (vI (sS 10 (w32 x1)))] [] S none S2 ∧ EV q 388 2 [some (.ref 367), some (vI (x1 + 1)), none] [] S2 r S')) : EV q 388 2 [some (.ref 367), some (vI x1), none] [] S r S' := by
  unfold EV
  refine ev_bk 2 (S' := (5, [some (.ref 367), some (vI x1), none], [vI 8, vI x1], hp S, 0, 0)) rfl ?_
  refine mv_icmp 23 rfl rfl (fun c => ?_) (fun c => ?_)
  · have F := F.1 c
    refine ev_bk 2 (S' := (25, [some (.ref 367), some (vI 0), none], [], hp S, 0, 0)) rfl ?_
    exact F
  · have F := F.2 c
    refine ev_bk 1 (S' := (9, [some (.ref 367), some (vI x1), none], [.ref 367], hp S, 0, 0)) rfl ?_
    refine mv_gs (k := 10) rfl rfl ?_
    refine ev_bk 1 (S' := (13, [some (.ref 367), some (vI x1), none], [vI x1, .ref (en_b + 10), .ref 367], hp S, 0, 0)) rfl ?_
    obtain ⟨b1, F⟩ := F
    refine mv_sal (k := 10) rfl rfl (by decide) b1 ?_
    obtain ⟨S2, e3, F⟩ := F
    refine mv_calv (as := [vI (sS 10 (w32 x1))]) (rest := []) e3 (sh_367) rfl rfl rfl ⟨rfl, rfl⟩ rfl rfl rfl rfl rfl ?_
    refine mv_inc (lv' := [some (.ref 367), some (vI (x1 + 1)), none]) 1 1 rfl rfl rfl rfl ?_
    refine mv_goto 2 rfl rfl ?_
    exact F
theorem vc_MD_writeBench_25 {q : Nat × (Nat → Int32)} {S S' : ms} {r : Option Value} (x1 : Int)
    (F : ((w32 (S.1 367 88) ≤ w32 x1) → r = none ∧ S' = S) ∧ ((¬ w32 (S.1 367 88) ≤ w32 x1) → ((12000 < w32 (S.1 367 9)) → r = none ∧ S' = S) ∧ ((¬ 12000 < w32 (S.1 367 9)) → ∃ (S1 : ms), EV q 384 0 [some (.ref 367), some (vI x1), none] [] S none S1 ∧ ∃ (S3 : ms), EV q 282 0 [some (.ref 367), some (vI 47)] [] S1 none S3 ∧ ∃ (S5 : ms), EV q 385 0 [some (.ref 367), some (vI (S.1 367 9 + 16)), some (vI 32)] [] S3 none S5 ∧ (0 ≤ w32 x1 ∧ w32 x1 < (16 : Nat)) ∧ ∃ (S8 : ms), EV q 389 0 [some (.ref 367), some (vL (w32 (S5.1 422 (w32 x1)))), none, some (vI 10), some (vI 12), none, none, none] [] S5 none S8 ∧ ∃ (S10 : ms), EV q 389 0 [some (.ref 367), some (vL 0), none, some (vI 10), some (vI 6), none, none, none] [] S8 none S10 ∧ ∃ (S12 : ms), EV q 389 0 [some (.ref 367), some (vL 0), none, some (vI 10), some (vI 6), none, none, none] [] S10 none S12 ∧ (0 ≤ w32 x1 ∧ w32 x1 < (16 : Nat)) ∧ ∃ (S15 : ms), EV q 389 0 [some (.ref 367), some (vL (w32 (S12.1 421 (w32 x1)))), none, some (vI 8), some (vI 8), none, none, none] [] S12 none S15 ∧ (0 ≤ w32 x1 ∧ w32 x1 < (16 : Nat)) ∧ ∃ (S18 : ms), EV q 389 0 [some (.ref 367), some (vL (w32 (S15.1 424 (w32 x1)))), none, some (vI 10), some (vI 10), none, none, none] [] S15 none S18 ∧ ∃ (S20 : ms), EV q 282 0 [some (.ref 367), some (vI 96)] [] S18 none S20 ∧ ∃ (S22 : ms), EV q 282 0 [some (.ref 367), some (vI 10)] [] S20 none S22 ∧ ∃ (S24 : ms), EV q 387 0 [some (.ref 367), some (vI x1), none] [] S22 none S24 ∧ (0 ≤ w32 x1 ∧ w32 x1 < (16 : Nat)) ∧ ((¬ w32 (Int.tmod (w32 (S24.1 424 (w32 x1))) (w32 2)) = 1) → EV q 388 167 [some (.ref 367), some (vI x1), some (vI (S.1 367 9))] [] S24 r S') ∧ ((¬ (¬ w32 (Int.tmod (w32 (S24.1 424 (w32 x1))) (w32 2)) = 1)) → ∃ (S27 : ms), EV q 282 0 [some (.ref 367), some (vI 10)] [] S24 none S27 ∧ EV q 388 167 [some (.ref 367), some (vI x1), some (vI (S.1 367 9))] [] S27 r S')))) : EV q 388 25 [some (.ref 367), some (vI x1), none] [] S r S' := by
  unfold EV
  refine ev_bk 2 (S' := (27, [some (.ref 367), some (vI x1), none], [.ref 367, vI x1], hp S, 0, 0)) rfl ?_
  refine mv_gfI rfl rfl (sh_367) (by decide) rfl ?_
  refine mv_icmp 173 rfl rfl (fun c => ?_) (fun c => ?_)
  · have F := F.1 c
    obtain ⟨rfl, rfl⟩ := F
    exact ev_ret rfl rfl
  · have F := F.2 c
    refine ev_bk 1 (S' := (34, [some (.ref 367), some (vI x1), none], [.ref 367], hp S, 0, 0)) rfl ?_
    refine mv_gfI rfl rfl (sh_367) (by decide) rfl ?_
    refine ev_bk 1 (S' := (40, [some (.ref 367), some (vI x1), none], [vI 12000, vI (S.1 367 9)], hp S, 0, 0)) rfl ?_
    refine mv_icmp 173 rfl rfl (fun c => ?_) (fun c => ?_)
    · have F := F.1 c
      obtain ⟨rfl, rfl⟩ := F
      exact ev_ret rfl rfl
    · have F := F.2 c
      refine ev_bk 1 (S' := (44, [some (.ref 367), some (vI x1), none], [.ref 367], hp S, 0, 0)) rfl ?_
      refine mv_gfI rfl rfl (sh_367) (by decide) rfl ?_
      refine ev_bk 3 (S' := (50, [some (.ref 367), some (vI x1), some (vI (S.1 367 9))], [vI x1, .ref 367], hp S, 0, 0)) rfl ?_
      obtain ⟨S1, e2, F⟩ := F
      refine mv_calv (as := [vI x1]) (rest := []) e2 (sh_367) rfl rfl rfl ⟨rfl, rfl⟩ rfl rfl rfl rfl rfl ?_
      refine ev_bk 2 (S' := (56, [some (.ref 367), some (vI x1), some (vI (S.1 367 9))], [vI 47, .ref 367], hp S1, 0, 0)) rfl ?_
      obtain ⟨S3, e4, F⟩ := F
      refine mv_calv (as := [vI 47]) (rest := []) e4 (sh_367) rfl rfl rfl ⟨rfl, rfl⟩ rfl rfl rfl rfl rfl ?_
      refine ev_bk 3 (S' := (63, [some (.ref 367), some (vI x1), some (vI (S.1 367 9))], [vI 16, vI (S.1 367 9), .ref 367], hp S3, 0, 0)) rfl ?_
      refine mv_iadd rfl ?_
      refine ev_bk 1 (S' := (66, [some (.ref 367), some (vI x1), some (vI (S.1 367 9))], [vI 32, vI (S.1 367 9 + 16), .ref 367], hp S3, 0, 0)) rfl ?_
      obtain ⟨S5, e6, F⟩ := F
      refine mv_calv (as := [vI (S.1 367 9 + 16), vI 32]) (rest := []) e6 (sh_367) rfl rfl rfl ⟨rfl, rfl⟩ rfl rfl rfl rfl rfl ?_
      refine ev_bk 2 (S' := (71, [some (.ref 367), some (vI x1), some (vI (S.1 367 9))], [.ref 367, .ref 367], hp S5, 0, 0)) rfl ?_
      refine mv_gfR rfl rfl (sh_367) (by decide) rfl ?_
      refine ev_bk 1 (S' := (75, [some (.ref 367), some (vI x1), some (vI (S.1 367 9))], [vI x1, .ref 422, .ref 367], hp S5, 0, 0)) rfl ?_
      obtain ⟨b7, F⟩ := F
      refine mv_ial rfl (sh_422) b7 ?_
      refine mv_i2l rfl ?_
      refine ev_bk 2 (S' := (81, [some (.ref 367), some (vI x1), some (vI (S.1 367 9))], [vI 12, vI 10, vL (w32 (S5.1 422 (w32 x1))), .ref 367], hp S5, 0, 0)) rfl ?_
      obtain ⟨S8, e9, F⟩ := F
      refine mv_calv (as := [vL (w32 (S5.1 422 (w32 x1))), vI 10, vI 12]) (rest := []) e9 (sh_367) rfl rfl rfl ⟨rfl, rfl⟩ rfl rfl rfl rfl rfl ?_
      refine ev_bk 4 (S' := (90, [some (.ref 367), some (vI x1), some (vI (S.1 367 9))], [vI 6, vI 10, vL 0, .ref 367], hp S8, 0, 0)) rfl ?_
      obtain ⟨S10, e11, F⟩ := F
      refine mv_calv (as := [vL 0, vI 10, vI 6]) (rest := []) e11 (sh_367) rfl rfl rfl ⟨rfl, rfl⟩ rfl rfl rfl rfl rfl ?_
      refine ev_bk 4 (S' := (99, [some (.ref 367), some (vI x1), some (vI (S.1 367 9))], [vI 6, vI 10, vL 0, .ref 367], hp S10, 0, 0)) rfl ?_
      obtain ⟨S12, e13, F⟩ := F
      refine mv_calv (as := [vL 0, vI 10, vI 6]) (rest := []) e13 (sh_367) rfl rfl rfl ⟨rfl, rfl⟩ rfl rfl rfl rfl rfl ?_
      refine ev_bk 2 (S' := (104, [some (.ref 367), some (vI x1), some (vI (S.1 367 9))], [.ref 367, .ref 367], hp S12, 0, 0)) rfl ?_
      refine mv_gfR rfl rfl (sh_367) (by decide) rfl ?_
      refine ev_bk 1 (S' := (108, [some (.ref 367), some (vI x1), some (vI (S.1 367 9))], [vI x1, .ref 421, .ref 367], hp S12, 0, 0)) rfl ?_
      obtain ⟨b14, F⟩ := F
      refine mv_ial rfl (sh_421) b14 ?_
      refine mv_i2l rfl ?_
      refine ev_bk 2 (S' := (114, [some (.ref 367), some (vI x1), some (vI (S.1 367 9))], [vI 8, vI 8, vL (w32 (S12.1 421 (w32 x1))), .ref 367], hp S12, 0, 0)) rfl ?_
      obtain ⟨S15, e16, F⟩ := F
      refine mv_calv (as := [vL (w32 (S12.1 421 (w32 x1))), vI 8, vI 8]) (rest := []) e16 (sh_367) rfl rfl rfl ⟨rfl, rfl⟩ rfl rfl rfl rfl rfl ?_
      refine ev_bk 2 (S' := (119, [some (.ref 367), some (vI x1), some (vI (S.1 367 9))], [.ref 367, .ref 367], hp S15, 0, 0)) rfl ?_
      refine mv_gfR rfl rfl (sh_367) (by decide) rfl ?_
      refine ev_bk 1 (S' := (123, [some (.ref 367), some (vI x1), some (vI (S.1 367 9))], [vI x1, .ref 424, .ref 367], hp S15, 0, 0)) rfl ?_
      obtain ⟨b17, F⟩ := F
      refine mv_ial rfl (sh_424) b17 ?_
      refine mv_i2l rfl ?_
      refine ev_bk 2 (S' := (129, [some (.ref 367), some (vI x1), some (vI (S.1 367 9))], [vI 10, vI 10, vL (w32 (S15.1 424 (w32 x1))), .ref 367], hp S15, 0, 0)) rfl ?_
      obtain ⟨S18, e19, F⟩ := F
      refine mv_calv (as := [vL (w32 (S15.1 424 (w32 x1))), vI 10, vI 10]) (rest := []) e19 (sh_367) rfl rfl rfl ⟨rfl, rfl⟩ rfl rfl rfl rfl rfl ?_
      refine ev_bk 2 (S' := (135, [some (.ref 367), some (vI x1), some (vI (S.1 367 9))], [vI 96, .ref 367], hp S18, 0, 0)) rfl ?_
      obtain ⟨S20, e21, F⟩ := F
      refine mv_calv (as := [vI 96]) (rest := []) e21 (sh_367) rfl rfl rfl ⟨rfl, rfl⟩ rfl rfl rfl rfl rfl ?_
      refine ev_bk 2 (S' := (141, [some (.ref 367), some (vI x1), some (vI (S.1 367 9))], [vI 10, .ref 367], hp S20, 0, 0)) rfl ?_
      obtain ⟨S22, e23, F⟩ := F
      refine mv_calv (as := [vI 10]) (rest := []) e23 (sh_367) rfl rfl rfl ⟨rfl, rfl⟩ rfl rfl rfl rfl rfl ?_
      refine ev_bk 2 (S' := (146, [some (.ref 367), some (vI x1), some (vI (S.1 367 9))], [vI x1, .ref 367], hp S22, 0, 0)) rfl ?_
      obtain ⟨S24, e25, F⟩ := F
      refine mv_calv (as := [vI x1]) (rest := []) e25 (sh_367) rfl rfl rfl ⟨rfl, rfl⟩ rfl rfl rfl rfl rfl ?_
      refine ev_bk 1 (S' := (150, [some (.ref 367), some (vI x1), some (vI (S.1 367 9))], [.ref 367], hp S24, 0, 0)) rfl ?_
      refine mv_gfR rfl rfl (sh_367) (by decide) rfl ?_
      refine ev_bk 1 (S' := (154, [some (.ref 367), some (vI x1), some (vI (S.1 367 9))], [vI x1, .ref 424], hp S24, 0, 0)) rfl ?_
      obtain ⟨b26, F⟩ := F
      refine mv_ial rfl (sh_424) b26 ?_
      refine ev_bk 1 (S' := (156, [some (.ref 367), some (vI x1), some (vI (S.1 367 9))], [vI 2, vI (S24.1 424 (w32 x1))], hp S24, 0, 0)) rfl ?_
      refine mv_irem (by decide) rfl ?_
      refine ev_bk 1 (S' := (158, [some (.ref 367), some (vI x1), some (vI (S.1 367 9))], [vI 1, vI (Int.tmod (w32 (S24.1 424 (w32 x1))) (w32 2))], hp S24, 0, 0)) rfl ?_
      refine mv_icmp 167 rfl rfl (fun c => ?_) (fun c => ?_)
      · have F := F.1 c
        exact F
      · have F := F.2 c
        refine ev_bk 2 (S' := (164, [some (.ref 367), some (vI x1), some (vI (S.1 367 9))], [vI 10, .ref 367], hp S24, 0, 0)) rfl ?_
        obtain ⟨S27, e28, F⟩ := F
        refine mv_calv (as := [vI 10]) (rest := []) e28 (sh_367) rfl rfl rfl ⟨rfl, rfl⟩ rfl rfl rfl rfl rfl ?_
        exact F
theorem vc_MD_writeBench_167 {q : Nat × (Nat → Int32)} {S S' : ms} {r : Option Value} (x1 x2 : Int)
    (F : EV q 388 25 [some (.ref 367), some (vI (x1 + 1)), none] [] S r S') : EV q 388 167 [some (.ref 367), some (vI x1), some (vI x2)] [] S r S' := by
  unfold EV
  refine mv_inc (lv' := [some (.ref 367), some (vI (x1 + 1)), some (vI x2)]) 1 1 rfl rfl rfl rfl ?_
  refine mv_goto 25 rfl rfl ?_
  exact ev_wk (le_s (le_s (le_n le_0))) F
theorem vc_MD_tens {q : Nat × (Nat → Int32)} {S S' : ms} {r : Option Value} (x1 x3 x4 : Int)
    (F : EV q 389 9 [some (.ref 367), some (vL x1), none, some (vI x3), some (vI x4), some (vI (S.1 367 9)), some (vL 1), none] [] S r S') : EV q 389 0 [some (.ref 367), some (vL x1), none, some (vI x3), some (vI x4), none, none, none] [] S r S' := by
  unfold EV
  refine ev_bk 1 (S' := (1, [some (.ref 367), some (vL x1), none, some (vI x3), some (vI x4), none, none, none], [.ref 367], hp S, 0, 0)) rfl ?_
  refine mv_gfI rfl rfl (sh_367) (by decide) rfl ?_
  refine ev_bk 3 (S' := (9, [some (.ref 367), some (vL x1), none, some (vI x3), some (vI x4), some (vI (S.1 367 9)), some (vL 1), none], [], hp S, 0, 0)) rfl ?_
  exact F
theorem vc_MD_tens_9 {q : Nat × (Nat → Int32)} {S S' : ms} {r : Option Value} (x1 x3 x4 x5 x6 : Int)
    (F : (¬ w64 x6 = 0) ∧ ((w64 (Int.tdiv (w64 x1) (w64 x6)) < w64 (w32 x3)) → EV q 389 29 [some (.ref 367), some (vL x1), none, some (vI x3), some (vI x4), some (vI x5), some (vL x6), none] [] S r S') ∧ ((¬ w64 (Int.tdiv (w64 x1) (w64 x6)) < w64 (w32 x3)) → EV q 389 9 [some (.ref 367), some (vL x1), none, some (vI x3), some (vI x4), some (vI x5), some (vL (x6 * (w32 x3))), none] [] S r S')) : EV q 389 9 [some (.ref 367), some (vL x1), none, some (vI x3), some (vI x4), some (vI x5), some (vL x6), none] [] S r S' := by
  unfold EV
  refine ev_bk 2 (S' := (12, [some (.ref 367), some (vL x1), none, some (vI x3), some (vI x4), some (vI x5), some (vL x6), none], [vL x6, vL x1], hp S, 0, 0)) rfl ?_
  obtain ⟨b1, F⟩ := F
  refine mv_ldiv b1 rfl ?_
  refine ev_bk 1 (S' := (14, [some (.ref 367), some (vL x1), none, some (vI x3), some (vI x4), some (vI x5), some (vL x6), none], [vI x3, vL (Int.tdiv (w64 x1) (w64 x6))], hp S, 0, 0)) rfl ?_
  refine mv_i2l rfl ?_
  refine mv_lif 29 rfl rfl rfl (fun c => ?_) (fun c => ?_)
  · have F := F.1 c
    exact F
  · have F := F.2 c
    refine ev_bk 2 (S' := (22, [some (.ref 367), some (vL x1), none, some (vI x3), some (vI x4), some (vI x5), some (vL x6), none], [vI x3, vL x6], hp S, 0, 0)) rfl ?_
    refine mv_i2l rfl ?_
    refine mv_lmul rfl ?_
    refine ev_bk 1 (S' := (26, [some (.ref 367), some (vL x1), none, some (vI x3), some (vI x4), some (vI x5), some (vL (x6 * (w32 x3))), none], [], hp S, 0, 0)) rfl ?_
    refine mv_goto 9 rfl rfl ?_
    exact F
theorem vc_MD_tens_29 {q : Nat × (Nat → Int32)} {S S' : ms} {r : Option Value} (x1 x3 x4 x5 x6 : Int)
    (F : ((w64 x6 ≤ w64 0) → ∃ (S1 : ms), EV q 385 0 [some (.ref 367), some (vI (x5 + x4)), some (vI 32)] [] S none S1 ∧ r = none ∧ S' = S1) ∧ ((¬ w64 x6 ≤ w64 0) → (¬ w64 x6 = 0) ∧ (¬ w64 (w32 x3) = 0) ∧ ∃ (S5 : ms), EV q 282 0 [some (.ref 367), some (vI (48 + (Int.tmod (w64 (Int.tdiv (w64 x1) (w64 x6))) (w64 (w32 x3)))))] [] S none S5 ∧ (¬ w64 (w32 x3) = 0) ∧ EV q 389 29 [some (.ref 367), some (vL x1), none, some (vI x3), some (vI x4), some (vI x5), some (vL (Int.tdiv (w64 x6) (w64 (w32 x3)))), none] [] S5 r S')) : EV q 389 29 [some (.ref 367), some (vL x1), none, some (vI x3), some (vI x4), some (vI x5), some (vL x6), none] [] S r S' := by
  unfold EV
  refine ev_bk 2 (S' := (32, [some (.ref 367), some (vL x1), none, some (vI x3), some (vI x4), some (vI x5), some (vL x6), none], [vL 0, vL x6], hp S, 0, 0)) rfl ?_
  refine mv_lif 62 rfl rfl rfl (fun c => ?_) (fun c => ?_)
  · have F := F.1 c
    refine ev_bk 3 (S' := (67, [some (.ref 367), some (vL x1), none, some (vI x3), some (vI x4), some (vI x5), some (vL x6), none], [vI x4, vI x5, .ref 367], hp S, 0, 0)) rfl ?_
    refine mv_iadd rfl ?_
    refine ev_bk 1 (S' := (70, [some (.ref 367), some (vL x1), none, some (vI x3), some (vI x4), some (vI x5), some (vL x6), none], [vI 32, vI (x5 + x4), .ref 367], hp S, 0, 0)) rfl ?_
    obtain ⟨S1, e2, F⟩ := F
    refine mv_calv (as := [vI (x5 + x4), vI 32]) (rest := []) e2 (sh_367) rfl rfl rfl ⟨rfl, rfl⟩ rfl rfl rfl rfl rfl ?_
    obtain ⟨rfl, rfl⟩ := F
    exact ev_ret rfl rfl
  · have F := F.2 c
    refine ev_bk 4 (S' := (43, [some (.ref 367), some (vL x1), none, some (vI x3), some (vI x4), some (vI x5), some (vL x6), none], [vL x6, vL x1, vL 48, .ref 367], hp S, 0, 0)) rfl ?_
    obtain ⟨b3, F⟩ := F
    refine mv_ldiv b3 rfl ?_
    refine ev_bk 1 (S' := (45, [some (.ref 367), some (vL x1), none, some (vI x3), some (vI x4), some (vI x5), some (vL x6), none], [vI x3, vL (Int.tdiv (w64 x1) (w64 x6)), vL 48, .ref 367], hp S, 0, 0)) rfl ?_
    refine mv_i2l rfl ?_
    obtain ⟨b4, F⟩ := F
    refine mv_lrem b4 rfl ?_
    refine mv_ladd rfl ?_
    refine mv_l2i rfl ?_
    obtain ⟨S5, e6, F⟩ := F
    refine mv_calv (as := [vI (48 + (Int.tmod (w64 (Int.tdiv (w64 x1) (w64 x6))) (w64 (w32 x3))))]) (rest := []) e6 (sh_367) rfl rfl rfl ⟨rfl, rfl⟩ rfl rfl rfl rfl rfl ?_
    refine ev_bk 2 (S' := (55, [some (.ref 367), some (vL x1), none, some (vI x3), some (vI x4), some (vI x5), some (vL x6), none], [vI x3, vL x6], hp S5, 0, 0)) rfl ?_
    refine mv_i2l rfl ?_
    obtain ⟨b7, F⟩ := F
    refine mv_ldiv b7 rfl ?_
    refine ev_bk 1 (S' := (59, [some (.ref 367), some (vL x1), none, some (vI x3), some (vI x4), some (vI x5), some (vL (Int.tdiv (w64 x6) (w64 (w32 x3)))), none], [], hp S5, 0, 0)) rfl ?_
    refine mv_goto 29 rfl rfl ?_
    exact F
theorem vc_MD_writeBox {q : Nat × (Nat → Int32)} {S S' : ms} {r : Option Value} (x1 : Int)
    (F : EV q 390 7 [some (.ref 367), some (vI x1), some (vI (S.1 367 2)), some (vI 0), none] [] S r S') : EV q 390 0 [some (.ref 367), some (vI x1), none, none, none] [] S r S' := by
  unfold EV
  refine ev_bk 1 (S' := (1, [some (.ref 367), some (vI x1), none, none, none], [.ref 367], hp S, 0, 0)) rfl ?_
  refine mv_gfI rfl rfl (sh_367) (by decide) rfl ?_
  refine ev_bk 3 (S' := (7, [some (.ref 367), some (vI x1), some (vI (S.1 367 2)), some (vI 0), none], [], hp S, 0, 0)) rfl ?_
  exact F
theorem vc_MD_writeBox_7 {q : Nat × (Nat → Int32)} {S S' : ms} {r : Option Value} (x1 x2 x3 : Int)
    (F : ((w32 (S.1 367 2) ≤ w32 x3) → EV q 390 35 [some (.ref 367), some (vI x1), some (vI x2), some (vI 0), none] [] S r S') ∧ ((¬ w32 (S.1 367 2) ≤ w32 x3) → (0 ≤ w32 x3 ∧ w32 x3 < (6000 : Nat)) ∧ (0 ≤ w32 x3 ∧ w32 x3 < (6000 : Nat)) ∧ ∀ S3 : ms, S3 = wI S 436 (w32 x3) (b8 (S.1 368 (w32 x3))) → EV q 390 7 [some (.ref 367), some (vI x1), some (vI x2), some (vI (x3 + 1)), none] [] S3 r S')) : EV q 390 7 [some (.ref 367), some (vI x1), some (vI x2), some (vI x3), none] [] S r S' := by
  unfold EV
  refine ev_bk 2 (S' := (9, [some (.ref 367), some (vI x1), some (vI x2), some (vI x3), none], [.ref 367, vI x3], hp S, 0, 0)) rfl ?_
  refine mv_gfI rfl rfl (sh_367) (by decide) rfl ?_
  refine mv_icmp 33 rfl rfl (fun c => ?_) (fun c => ?_)
  · have F := F.1 c
    refine ev_bk 2 (S' := (35, [some (.ref 367), some (vI x1), some (vI x2), some (vI 0), none], [], hp S, 0, 0)) rfl ?_
    exact F
  · have F := F.2 c
    refine ev_bk 1 (S' := (16, [some (.ref 367), some (vI x1), some (vI x2), some (vI x3), none], [.ref 367], hp S, 0, 0)) rfl ?_
    refine mv_gfR rfl rfl (sh_367) (by decide) rfl ?_
    refine ev_bk 2 (S' := (21, [some (.ref 367), some (vI x1), some (vI x2), some (vI x3), none], [.ref 367, vI x3, .ref 436], hp S, 0, 0)) rfl ?_
    refine mv_gfR rfl rfl (sh_367) (by decide) rfl ?_
    refine ev_bk 1 (S' := (25, [some (.ref 367), some (vI x1), some (vI x2), some (vI x3), none], [vI x3, .ref 368, vI x3, .ref 436], hp S, 0, 0)) rfl ?_
    obtain ⟨b1, F⟩ := F
    refine mv_bal rfl (sh_368) b1 ?_
    obtain ⟨b2, F⟩ := F
    refine mv_bas rfl (sh_436) b2 ?_
    have F := F _ rfl
    refine mv_inc (lv' := [some (.ref 367), some (vI x1), some (vI x2), some (vI (x3 + 1)), none]) 3 1 rfl rfl rfl rfl ?_
    refine mv_goto 7 rfl rfl ?_
    exact F
theorem vc_MD_writeBox_35 {q : Nat × (Nat → Int32)} {S S' : ms} {r : Option Value} (x1 x2 x3 : Int)
    (F : ((w32 (S.1 367 88) ≤ w32 x3) → EV q 390 65 [some (.ref 367), some (vI x1), some (vI x2), some (vI x3), none] [] S r S') ∧ ((¬ w32 (S.1 367 88) ≤ w32 x3) → ((12000 < w32 (S.1 367 9)) → EV q 390 65 [some (.ref 367), some (vI x1), some (vI x2), some (vI x3), none] [] S r S') ∧ ((¬ 12000 < w32 (S.1 367 9)) → ∃ (S1 : ms), EV q 391 0 [some (.ref 367), some (vI x3), some (vI x1), none, none] [] S none S1 ∧ EV q 390 35 [some (.ref 367), some (vI x1), some (vI x2), some (vI (x3 + 1)), none] [] S1 r S'))) : EV q 390 35 [some (.ref 367), some (vI x1), some (vI x2), some (vI x3), none] [] S r S' := by
  unfold EV
  refine ev_bk 2 (S' := (37, [some (.ref 367), some (vI x1), some (vI x2), some (vI x3), none], [.ref 367, vI x3], hp S, 0, 0)) rfl ?_
  refine mv_gfI rfl rfl (sh_367) (by decide) rfl ?_
  refine mv_icmp 65 rfl rfl (fun c => ?_) (fun c => ?_)
  · have F := F.1 c
    exact F
  · have F := F.2 c
    refine ev_bk 1 (S' := (44, [some (.ref 367), some (vI x1), some (vI x2), some (vI x3), none], [.ref 367], hp S, 0, 0)) rfl ?_
    refine mv_gfI rfl rfl (sh_367) (by decide) rfl ?_
    refine ev_bk 1 (S' := (50, [some (.ref 367), some (vI x1), some (vI x2), some (vI x3), none], [vI 12000, vI (S.1 367 9)], hp S, 0, 0)) rfl ?_
    refine mv_icmp 65 rfl rfl (fun c => ?_) (fun c => ?_)
    · have F := F.1 c
      exact F
    · have F := F.2 c
      refine ev_bk 3 (S' := (56, [some (.ref 367), some (vI x1), some (vI x2), some (vI x3), none], [vI x1, vI x3, .ref 367], hp S, 0, 0)) rfl ?_
      obtain ⟨S1, e2, F⟩ := F
      refine mv_calv (as := [vI x3, vI x1]) (rest := []) e2 (sh_367) rfl rfl rfl ⟨rfl, rfl⟩ rfl rfl rfl rfl rfl ?_
      refine mv_inc (lv' := [some (.ref 367), some (vI x1), some (vI x2), some (vI (x3 + 1)), none]) 3 1 rfl rfl rfl rfl ?_
      refine mv_goto 35 rfl rfl ?_
      exact F
theorem vc_MD_writeBox_65 {q : Nat × (Nat → Int32)} {S S' : ms} {r : Option Value} (x1 x2 x3 : Int)
    (F : ∀ S1 : ms, S1 = wI S 367 2 x2 → EV q 390 72 [some (.ref 367), some (vI x1), some (vI x2), some (vI 0), none] [] S1 r S') : EV q 390 65 [some (.ref 367), some (vI x1), some (vI x2), some (vI x3), none] [] S r S' := by
  unfold EV
  refine ev_bk 2 (S' := (67, [some (.ref 367), some (vI x1), some (vI x2), some (vI x3), none], [vI x2, .ref 367], hp S, 0, 0)) rfl ?_
  refine mv_pfI rfl rfl (sh_367) (by decide) rfl rfl ?_
  have F := F _ rfl
  refine ev_bk 2 (S' := (72, [some (.ref 367), some (vI x1), some (vI x2), some (vI 0), none], [], hp (wI S 367 2 x2), 0, 0)) rfl ?_
  exact F
theorem vc_MD_writeBox_72 {q : Nat × (Nat → Int32)} {S S' : ms} {r : Option Value} (x1 x2 x3 : Int)
    (F : ((w32 (S.1 367 2) ≤ w32 x3) → EV q 390 106 [some (.ref 367), some (vI x1), some (vI x2), some (vI (S.1 367 9)), some (vI 0)] [] S r S') ∧ ((¬ w32 (S.1 367 2) ≤ w32 x3) → (0 ≤ w32 x3 ∧ w32 x3 < (6000 : Nat)) ∧ (0 ≤ w32 x3 ∧ w32 x3 < (6000 : Nat)) ∧ ∀ S3 : ms, S3 = wI S 368 (w32 x3) (b8 (S.1 436 (w32 x3))) → EV q 390 72 [some (.ref 367), some (vI x1), some (vI x2), some (vI (x3 + 1)), none] [] S3 r S')) : EV q 390 72 [some (.ref 367), some (vI x1), some (vI x2), some (vI x3), none] [] S r S' := by
  unfold EV
  refine ev_bk 2 (S' := (74, [some (.ref 367), some (vI x1), some (vI x2), some (vI x3), none], [.ref 367, vI x3], hp S, 0, 0)) rfl ?_
  refine mv_gfI rfl rfl (sh_367) (by decide) rfl ?_
  refine mv_icmp 98 rfl rfl (fun c => ?_) (fun c => ?_)
  · have F := F.1 c
    refine ev_bk 1 (S' := (99, [some (.ref 367), some (vI x1), some (vI x2), some (vI x3), none], [.ref 367], hp S, 0, 0)) rfl ?_
    refine mv_gfI rfl rfl (sh_367) (by decide) rfl ?_
    refine ev_bk 3 (S' := (106, [some (.ref 367), some (vI x1), some (vI x2), some (vI (S.1 367 9)), some (vI 0)], [], hp S, 0, 0)) rfl ?_
    exact F
  · have F := F.2 c
    refine ev_bk 1 (S' := (81, [some (.ref 367), some (vI x1), some (vI x2), some (vI x3), none], [.ref 367], hp S, 0, 0)) rfl ?_
    refine mv_gfR rfl rfl (sh_367) (by decide) rfl ?_
    refine ev_bk 2 (S' := (86, [some (.ref 367), some (vI x1), some (vI x2), some (vI x3), none], [.ref 367, vI x3, .ref 368], hp S, 0, 0)) rfl ?_
    refine mv_gfR rfl rfl (sh_367) (by decide) rfl ?_
    refine ev_bk 1 (S' := (90, [some (.ref 367), some (vI x1), some (vI x2), some (vI x3), none], [vI x3, .ref 436, vI x3, .ref 368], hp S, 0, 0)) rfl ?_
    obtain ⟨b1, F⟩ := F
    refine mv_bal rfl (sh_436) b1 ?_
    obtain ⟨b2, F⟩ := F
    refine mv_bas rfl (sh_368) b2 ?_
    have F := F _ rfl
    refine mv_inc (lv' := [some (.ref 367), some (vI x1), some (vI x2), some (vI (x3 + 1)), none]) 3 1 rfl rfl rfl rfl ?_
    refine mv_goto 72 rfl rfl ?_
    exact F
theorem vc_MD_writeBox_106 {q : Nat × (Nat → Int32)} {S S' : ms} {r : Option Value} (x1 x2 x3 x4 : Int)
    (F : ((w32 (S.1 367 88) ≤ w32 x4) → EV q 390 281 [some (.ref 367), some (vI x1), some (vI x2), some (vI x3), some (vI x4)] [] S r S') ∧ ((¬ w32 (S.1 367 88) ≤ w32 x4) → ((12000 < w32 (S.1 367 9)) → EV q 390 281 [some (.ref 367), some (vI x1), some (vI x2), some (vI x3), some (vI x4)] [] S r S') ∧ ((¬ 12000 < w32 (S.1 367 9)) → ∃ (S1 : ms), EV q 291 0 [some (.ref 367), some (vL 33639248), none, some (vI 4), none] [] S none S1 ∧ ∃ (S3 : ms), EV q 291 0 [some (.ref 367), some (vL 20), none, some (vI 2), none] [] S1 none S3 ∧ ∃ (S5 : ms), EV q 291 0 [some (.ref 367), some (vL 20), none, some (vI 2), none] [] S3 none S5 ∧ ∃ (S7 : ms), EV q 291 0 [some (.ref 367), some (vL 0), none, some (vI 2), none] [] S5 none S7 ∧ (0 ≤ w32 x4 ∧ w32 x4 < (16 : Nat)) ∧ ∃ (S10 : ms), EV q 291 0 [some (.ref 367), some (vL (w32 (S7.1 432 (w32 x4)))), none, some (vI 2), none] [] S7 none S10 ∧ (0 ≤ w32 x4 ∧ w32 x4 < (16 : Nat)) ∧ ∃ (S13 : ms), EV q 291 0 [some (.ref 367), some (vL (w32 (S10.1 422 (w32 x4)))), none, some (vI 4), none] [] S10 none S13 ∧ (0 ≤ w32 x4 ∧ w32 x4 < (16 : Nat)) ∧ ∃ (S16 : ms), EV q 291 0 [some (.ref 367), some (vL (w32 (S13.1 433 (w32 x4)))), none, some (vI 4), none] [] S13 none S16 ∧ (0 ≤ w32 x4 ∧ w32 x4 < (16 : Nat)) ∧ ∃ (S19 : ms), EV q 291 0 [some (.ref 367), some (vL (w32 (S16.1 434 (w32 x4)))), none, some (vI 4), none] [] S16 none S19 ∧ (0 ≤ w32 x4 ∧ w32 x4 < (16 : Nat)) ∧ ∃ (S22 : ms), EV q 291 0 [some (.ref 367), some (vL (w32 (S19.1 424 (w32 x4)))), none, some (vI 4), none] [] S19 none S22 ∧ (0 ≤ w32 x4 ∧ w32 x4 < (16 : Nat)) ∧ ∃ (S25 : ms), EV q 291 0 [some (.ref 367), some (vL (w32 (S22.1 420 (w32 x4)))), none, some (vI 2), none] [] S22 none S25 ∧ ∃ (S27 : ms), EV q 291 0 [some (.ref 367), some (vL 0), none, some (vI 8), none] [] S25 none S27 ∧ (0 ≤ w32 x4 ∧ w32 x4 < (16 : Nat)) ∧ ∃ (S30 : ms), EV q 291 0 [some (.ref 367), some (vL ((w32 (S27.1 421 (w32 x4))) * 65536)), none, some (vI 4), none] [] S27 none S30 ∧ (0 ≤ w32 x4 ∧ w32 x4 < (16 : Nat)) ∧ ∃ (S33 : ms), EV q 291 0 [some (.ref 367), some (vL (w32 (S30.1 435 (w32 x4)))), none, some (vI 4), none] [] S30 none S33 ∧ ∃ (S35 : ms), EV q 384 0 [some (.ref 367), some (vI x4), none] [] S33 none S35 ∧ EV q 390 106 [some (.ref 367), some (vI x1), some (vI x2), some (vI x3), some (vI (x4 + 1))] [] S35 r S'))) : EV q 390 106 [some (.ref 367), some (vI x1), some (vI x2), some (vI x3), some (vI x4)] [] S r S' := by
  unfold EV
  refine ev_bk 2 (S' := (109, [some (.ref 367), some (vI x1), some (vI x2), some (vI x3), some (vI x4)], [.ref 367, vI x4], hp S, 0, 0)) rfl ?_
  refine mv_gfI rfl rfl (sh_367) (by decide) rfl ?_
  refine mv_icmp 281 rfl rfl (fun c => ?_) (fun c => ?_)
  · have F := F.1 c
    exact F
  · have F := F.2 c
    refine ev_bk 1 (S' := (116, [some (.ref 367), some (vI x1), some (vI x2), some (vI x3), some (vI x4)], [.ref 367], hp S, 0, 0)) rfl ?_
    refine mv_gfI rfl rfl (sh_367) (by decide) rfl ?_
    refine ev_bk 1 (S' := (122, [some (.ref 367), some (vI x1), some (vI x2), some (vI x3), some (vI x4)], [vI 12000, vI (S.1 367 9)], hp S, 0, 0)) rfl ?_
    refine mv_icmp 281 rfl rfl (fun c => ?_) (fun c => ?_)
    · have F := F.1 c
      exact F
    · have F := F.2 c
      refine ev_bk 3 (S' := (130, [some (.ref 367), some (vI x1), some (vI x2), some (vI x3), some (vI x4)], [vI 4, vL 33639248, .ref 367], hp S, 0, 0)) rfl ?_
      obtain ⟨S1, e2, F⟩ := F
      refine mv_calv (as := [vL 33639248, vI 4]) (rest := []) e2 (sh_367) rfl rfl rfl ⟨rfl, rfl⟩ rfl rfl rfl rfl rfl ?_
      refine ev_bk 3 (S' := (138, [some (.ref 367), some (vI x1), some (vI x2), some (vI x3), some (vI x4)], [vI 2, vL 20, .ref 367], hp S1, 0, 0)) rfl ?_
      obtain ⟨S3, e4, F⟩ := F
      refine mv_calv (as := [vL 20, vI 2]) (rest := []) e4 (sh_367) rfl rfl rfl ⟨rfl, rfl⟩ rfl rfl rfl rfl rfl ?_
      refine ev_bk 3 (S' := (146, [some (.ref 367), some (vI x1), some (vI x2), some (vI x3), some (vI x4)], [vI 2, vL 20, .ref 367], hp S3, 0, 0)) rfl ?_
      obtain ⟨S5, e6, F⟩ := F
      refine mv_calv (as := [vL 20, vI 2]) (rest := []) e6 (sh_367) rfl rfl rfl ⟨rfl, rfl⟩ rfl rfl rfl rfl rfl ?_
      refine ev_bk 3 (S' := (152, [some (.ref 367), some (vI x1), some (vI x2), some (vI x3), some (vI x4)], [vI 2, vL 0, .ref 367], hp S5, 0, 0)) rfl ?_
      obtain ⟨S7, e8, F⟩ := F
      refine mv_calv (as := [vL 0, vI 2]) (rest := []) e8 (sh_367) rfl rfl rfl ⟨rfl, rfl⟩ rfl rfl rfl rfl rfl ?_
      refine ev_bk 2 (S' := (157, [some (.ref 367), some (vI x1), some (vI x2), some (vI x3), some (vI x4)], [.ref 367, .ref 367], hp S7, 0, 0)) rfl ?_
      refine mv_gfR rfl rfl (sh_367) (by decide) rfl ?_
      refine ev_bk 1 (S' := (162, [some (.ref 367), some (vI x1), some (vI x2), some (vI x3), some (vI x4)], [vI x4, .ref 432, .ref 367], hp S7, 0, 0)) rfl ?_
      obtain ⟨b9, F⟩ := F
      refine mv_ial rfl (sh_432) b9 ?_
      refine mv_i2l rfl ?_
      refine ev_bk 1 (S' := (165, [some (.ref 367), some (vI x1), some (vI x2), some (vI x3), some (vI x4)], [vI 2, vL (w32 (S7.1 432 (w32 x4))), .ref 367], hp S7, 0, 0)) rfl ?_
      obtain ⟨S10, e11, F⟩ := F
      refine mv_calv (as := [vL (w32 (S7.1 432 (w32 x4))), vI 2]) (rest := []) e11 (sh_367) rfl rfl rfl ⟨rfl, rfl⟩ rfl rfl rfl rfl rfl ?_
      refine ev_bk 2 (S' := (170, [some (.ref 367), some (vI x1), some (vI x2), some (vI x3), some (vI x4)], [.ref 367, .ref 367], hp S10, 0, 0)) rfl ?_
      refine mv_gfR rfl rfl (sh_367) (by decide) rfl ?_
      refine ev_bk 1 (S' := (175, [some (.ref 367), some (vI x1), some (vI x2), some (vI x3), some (vI x4)], [vI x4, .ref 422, .ref 367], hp S10, 0, 0)) rfl ?_
      obtain ⟨b12, F⟩ := F
      refine mv_ial rfl (sh_422) b12 ?_
      refine mv_i2l rfl ?_
      refine ev_bk 1 (S' := (178, [some (.ref 367), some (vI x1), some (vI x2), some (vI x3), some (vI x4)], [vI 4, vL (w32 (S10.1 422 (w32 x4))), .ref 367], hp S10, 0, 0)) rfl ?_
      obtain ⟨S13, e14, F⟩ := F
      refine mv_calv (as := [vL (w32 (S10.1 422 (w32 x4))), vI 4]) (rest := []) e14 (sh_367) rfl rfl rfl ⟨rfl, rfl⟩ rfl rfl rfl rfl rfl ?_
      refine ev_bk 2 (S' := (183, [some (.ref 367), some (vI x1), some (vI x2), some (vI x3), some (vI x4)], [.ref 367, .ref 367], hp S13, 0, 0)) rfl ?_
      refine mv_gfR rfl rfl (sh_367) (by decide) rfl ?_
      refine ev_bk 1 (S' := (188, [some (.ref 367), some (vI x1), some (vI x2), some (vI x3), some (vI x4)], [vI x4, .ref 433, .ref 367], hp S13, 0, 0)) rfl ?_
      obtain ⟨b15, F⟩ := F
      refine mv_ial rfl (sh_433) b15 ?_
      refine mv_i2l rfl ?_
      refine ev_bk 1 (S' := (191, [some (.ref 367), some (vI x1), some (vI x2), some (vI x3), some (vI x4)], [vI 4, vL (w32 (S13.1 433 (w32 x4))), .ref 367], hp S13, 0, 0)) rfl ?_
      obtain ⟨S16, e17, F⟩ := F
      refine mv_calv (as := [vL (w32 (S13.1 433 (w32 x4))), vI 4]) (rest := []) e17 (sh_367) rfl rfl rfl ⟨rfl, rfl⟩ rfl rfl rfl rfl rfl ?_
      refine ev_bk 2 (S' := (196, [some (.ref 367), some (vI x1), some (vI x2), some (vI x3), some (vI x4)], [.ref 367, .ref 367], hp S16, 0, 0)) rfl ?_
      refine mv_gfR rfl rfl (sh_367) (by decide) rfl ?_
      refine ev_bk 1 (S' := (201, [some (.ref 367), some (vI x1), some (vI x2), some (vI x3), some (vI x4)], [vI x4, .ref 434, .ref 367], hp S16, 0, 0)) rfl ?_
      obtain ⟨b18, F⟩ := F
      refine mv_ial rfl (sh_434) b18 ?_
      refine mv_i2l rfl ?_
      refine ev_bk 1 (S' := (204, [some (.ref 367), some (vI x1), some (vI x2), some (vI x3), some (vI x4)], [vI 4, vL (w32 (S16.1 434 (w32 x4))), .ref 367], hp S16, 0, 0)) rfl ?_
      obtain ⟨S19, e20, F⟩ := F
      refine mv_calv (as := [vL (w32 (S16.1 434 (w32 x4))), vI 4]) (rest := []) e20 (sh_367) rfl rfl rfl ⟨rfl, rfl⟩ rfl rfl rfl rfl rfl ?_
      refine ev_bk 2 (S' := (209, [some (.ref 367), some (vI x1), some (vI x2), some (vI x3), some (vI x4)], [.ref 367, .ref 367], hp S19, 0, 0)) rfl ?_
      refine mv_gfR rfl rfl (sh_367) (by decide) rfl ?_
      refine ev_bk 1 (S' := (214, [some (.ref 367), some (vI x1), some (vI x2), some (vI x3), some (vI x4)], [vI x4, .ref 424, .ref 367], hp S19, 0, 0)) rfl ?_
      obtain ⟨b21, F⟩ := F
      refine mv_ial rfl (sh_424) b21 ?_
      refine mv_i2l rfl ?_
      refine ev_bk 1 (S' := (217, [some (.ref 367), some (vI x1), some (vI x2), some (vI x3), some (vI x4)], [vI 4, vL (w32 (S19.1 424 (w32 x4))), .ref 367], hp S19, 0, 0)) rfl ?_
      obtain ⟨S22, e23, F⟩ := F
      refine mv_calv (as := [vL (w32 (S19.1 424 (w32 x4))), vI 4]) (rest := []) e23 (sh_367) rfl rfl rfl ⟨rfl, rfl⟩ rfl rfl rfl rfl rfl ?_
      refine ev_bk 2 (S' := (222, [some (.ref 367), some (vI x1), some (vI x2), some (vI x3), some (vI x4)], [.ref 367, .ref 367], hp S22, 0, 0)) rfl ?_
      refine mv_gfR rfl rfl (sh_367) (by decide) rfl ?_
      refine ev_bk 1 (S' := (227, [some (.ref 367), some (vI x1), some (vI x2), some (vI x3), some (vI x4)], [vI x4, .ref 420, .ref 367], hp S22, 0, 0)) rfl ?_
      obtain ⟨b24, F⟩ := F
      refine mv_ial rfl (sh_420) b24 ?_
      refine mv_i2l rfl ?_
      refine ev_bk 1 (S' := (230, [some (.ref 367), some (vI x1), some (vI x2), some (vI x3), some (vI x4)], [vI 2, vL (w32 (S22.1 420 (w32 x4))), .ref 367], hp S22, 0, 0)) rfl ?_
      obtain ⟨S25, e26, F⟩ := F
      refine mv_calv (as := [vL (w32 (S22.1 420 (w32 x4))), vI 2]) (rest := []) e26 (sh_367) rfl rfl rfl ⟨rfl, rfl⟩ rfl rfl rfl rfl rfl ?_
      refine ev_bk 3 (S' := (237, [some (.ref 367), some (vI x1), some (vI x2), some (vI x3), some (vI x4)], [vI 8, vL 0, .ref 367], hp S25, 0, 0)) rfl ?_
      obtain ⟨S27, e28, F⟩ := F
      refine mv_calv (as := [vL 0, vI 8]) (rest := []) e28 (sh_367) rfl rfl rfl ⟨rfl, rfl⟩ rfl rfl rfl rfl rfl ?_
      refine ev_bk 2 (S' := (242, [some (.ref 367), some (vI x1), some (vI x2), some (vI x3), some (vI x4)], [.ref 367, .ref 367], hp S27, 0, 0)) rfl ?_
      refine mv_gfR rfl rfl (sh_367) (by decide) rfl ?_
      refine ev_bk 1 (S' := (247, [some (.ref 367), some (vI x1), some (vI x2), some (vI x3), some (vI x4)], [vI x4, .ref 421, .ref 367], hp S27, 0, 0)) rfl ?_
      obtain ⟨b29, F⟩ := F
      refine mv_ial rfl (sh_421) b29 ?_
      refine mv_i2l rfl ?_
      refine ev_bk 1 (S' := (251, [some (.ref 367), some (vI x1), some (vI x2), some (vI x3), some (vI x4)], [vI 16, vL (w32 (S27.1 421 (w32 x4))), .ref 367], hp S27, 0, 0)) rfl ?_
      refine mv_lshl 65536 rfl rfl ?_
      refine ev_bk 1 (S' := (253, [some (.ref 367), some (vI x1), some (vI x2), some (vI x3), some (vI x4)], [vI 4, vL ((w32 (S27.1 421 (w32 x4))) * 65536), .ref 367], hp S27, 0, 0)) rfl ?_
      obtain ⟨S30, e31, F⟩ := F
      refine mv_calv (as := [vL ((w32 (S27.1 421 (w32 x4))) * 65536), vI 4]) (rest := []) e31 (sh_367) rfl rfl rfl ⟨rfl, rfl⟩ rfl rfl rfl rfl rfl ?_
      refine ev_bk 2 (S' := (258, [some (.ref 367), some (vI x1), some (vI x2), some (vI x3), some (vI x4)], [.ref 367, .ref 367], hp S30, 0, 0)) rfl ?_
      refine mv_gfR rfl rfl (sh_367) (by decide) rfl ?_
      refine ev_bk 1 (S' := (263, [some (.ref 367), some (vI x1), some (vI x2), some (vI x3), some (vI x4)], [vI x4, .ref 435, .ref 367], hp S30, 0, 0)) rfl ?_
      obtain ⟨b32, F⟩ := F
      refine mv_ial rfl (sh_435) b32 ?_
      refine mv_i2l rfl ?_
      refine ev_bk 1 (S' := (266, [some (.ref 367), some (vI x1), some (vI x2), some (vI x3), some (vI x4)], [vI 4, vL (w32 (S30.1 435 (w32 x4))), .ref 367], hp S30, 0, 0)) rfl ?_
      obtain ⟨S33, e34, F⟩ := F
      refine mv_calv (as := [vL (w32 (S30.1 435 (w32 x4))), vI 4]) (rest := []) e34 (sh_367) rfl rfl rfl ⟨rfl, rfl⟩ rfl rfl rfl rfl rfl ?_
      refine ev_bk 2 (S' := (272, [some (.ref 367), some (vI x1), some (vI x2), some (vI x3), some (vI x4)], [vI x4, .ref 367], hp S33, 0, 0)) rfl ?_
      obtain ⟨S35, e36, F⟩ := F
      refine mv_calv (as := [vI x4]) (rest := []) e36 (sh_367) rfl rfl rfl ⟨rfl, rfl⟩ rfl rfl rfl rfl rfl ?_
      refine mv_inc (lv' := [some (.ref 367), some (vI x1), some (vI x2), some (vI x3), some (vI (x4 + 1))]) 4 1 rfl rfl rfl rfl ?_
      refine mv_goto 106 rfl rfl ?_
      exact F
theorem vc_MD_writeBox_281 {q : Nat × (Nat → Int32)} {S S' : ms} {r : Option Value} (x1 x2 x3 x4 : Int)
    (F : ∃ (S1 : ms), EV q 291 0 [some (.ref 367), some (vL 101010256), none, some (vI 4), none] [] S none S1 ∧ ∃ (S3 : ms), EV q 291 0 [some (.ref 367), some (vL 0), none, some (vI 4), none] [] S1 none S3 ∧ ∃ (S5 : ms), EV q 291 0 [some (.ref 367), some (vL (w32 (S3.1 367 88))), none, some (vI 2), none] [] S3 none S5 ∧ ∃ (S7 : ms), EV q 291 0 [some (.ref 367), some (vL (w32 (S5.1 367 88))), none, some (vI 2), none] [] S5 none S7 ∧ ∃ (S9 : ms), EV q 291 0 [some (.ref 367), some (vL (w32 ((S.1 367 9) - x3))), none, some (vI 4), none] [] S7 none S9 ∧ ∃ (S11 : ms), EV q 291 0 [some (.ref 367), some (vL (w32 x3)), none, some (vI 4), none] [] S9 none S11 ∧ ∃ (S13 : ms), EV q 291 0 [some (.ref 367), some (vL 0), none, some (vI 2), none] [] S11 none S13 ∧ r = none ∧ S' = S13) : EV q 390 281 [some (.ref 367), some (vI x1), some (vI x2), some (vI x3), some (vI x4)] [] S r S' := by
  unfold EV
  refine ev_bk 1 (S' := (282, [some (.ref 367), some (vI x1), some (vI x2), some (vI x3), some (vI x4)], [.ref 367], hp S, 0, 0)) rfl ?_
  refine mv_gfI rfl rfl (sh_367) (by decide) rfl ?_
  refine ev_bk 1 (S' := (286, [some (.ref 367), some (vI x1), some (vI x2), some (vI x3), some (vI x4)], [vI x3, vI (S.1 367 9)], hp S, 0, 0)) rfl ?_
  refine mv_isub rfl ?_
  refine ev_bk 4 (S' := (294, [some (.ref 367), some (vI x1), some (vI x2), some (vI x3), some (vI ((S.1 367 9) - x3))], [vI 4, vL 101010256, .ref 367], hp S, 0, 0)) rfl ?_
  obtain ⟨S1, e2, F⟩ := F
  refine mv_calv (as := [vL 101010256, vI 4]) (rest := []) e2 (sh_367) rfl rfl rfl ⟨rfl, rfl⟩ rfl rfl rfl rfl rfl ?_
  refine ev_bk 3 (S' := (300, [some (.ref 367), some (vI x1), some (vI x2), some (vI x3), some (vI ((S.1 367 9) - x3))], [vI 4, vL 0, .ref 367], hp S1, 0, 0)) rfl ?_
  obtain ⟨S3, e4, F⟩ := F
  refine mv_calv (as := [vL 0, vI 4]) (rest := []) e4 (sh_367) rfl rfl rfl ⟨rfl, rfl⟩ rfl rfl rfl rfl rfl ?_
  refine ev_bk 2 (S' := (305, [some (.ref 367), some (vI x1), some (vI x2), some (vI x3), some (vI ((S.1 367 9) - x3))], [.ref 367, .ref 367], hp S3, 0, 0)) rfl ?_
  refine mv_gfI rfl rfl (sh_367) (by decide) rfl ?_
  refine mv_i2l rfl ?_
  refine ev_bk 1 (S' := (310, [some (.ref 367), some (vI x1), some (vI x2), some (vI x3), some (vI ((S.1 367 9) - x3))], [vI 2, vL (w32 (S3.1 367 88)), .ref 367], hp S3, 0, 0)) rfl ?_
  obtain ⟨S5, e6, F⟩ := F
  refine mv_calv (as := [vL (w32 (S3.1 367 88)), vI 2]) (rest := []) e6 (sh_367) rfl rfl rfl ⟨rfl, rfl⟩ rfl rfl rfl rfl rfl ?_
  refine ev_bk 2 (S' := (315, [some (.ref 367), some (vI x1), some (vI x2), some (vI x3), some (vI ((S.1 367 9) - x3))], [.ref 367, .ref 367], hp S5, 0, 0)) rfl ?_
  refine mv_gfI rfl rfl (sh_367) (by decide) rfl ?_
  refine mv_i2l rfl ?_
  refine ev_bk 1 (S' := (320, [some (.ref 367), some (vI x1), some (vI x2), some (vI x3), some (vI ((S.1 367 9) - x3))], [vI 2, vL (w32 (S5.1 367 88)), .ref 367], hp S5, 0, 0)) rfl ?_
  obtain ⟨S7, e8, F⟩ := F
  refine mv_calv (as := [vL (w32 (S5.1 367 88)), vI 2]) (rest := []) e8 (sh_367) rfl rfl rfl ⟨rfl, rfl⟩ rfl rfl rfl rfl rfl ?_
  refine ev_bk 2 (S' := (326, [some (.ref 367), some (vI x1), some (vI x2), some (vI x3), some (vI ((S.1 367 9) - x3))], [vI ((S.1 367 9) - x3), .ref 367], hp S7, 0, 0)) rfl ?_
  refine mv_i2l rfl ?_
  refine ev_bk 1 (S' := (328, [some (.ref 367), some (vI x1), some (vI x2), some (vI x3), some (vI ((S.1 367 9) - x3))], [vI 4, vL (w32 ((S.1 367 9) - x3)), .ref 367], hp S7, 0, 0)) rfl ?_
  obtain ⟨S9, e10, F⟩ := F
  refine mv_calv (as := [vL (w32 ((S.1 367 9) - x3)), vI 4]) (rest := []) e10 (sh_367) rfl rfl rfl ⟨rfl, rfl⟩ rfl rfl rfl rfl rfl ?_
  refine ev_bk 2 (S' := (333, [some (.ref 367), some (vI x1), some (vI x2), some (vI x3), some (vI ((S.1 367 9) - x3))], [vI x3, .ref 367], hp S9, 0, 0)) rfl ?_
  refine mv_i2l rfl ?_
  refine ev_bk 1 (S' := (335, [some (.ref 367), some (vI x1), some (vI x2), some (vI x3), some (vI ((S.1 367 9) - x3))], [vI 4, vL (w32 x3), .ref 367], hp S9, 0, 0)) rfl ?_
  obtain ⟨S11, e12, F⟩ := F
  refine mv_calv (as := [vL (w32 x3), vI 4]) (rest := []) e12 (sh_367) rfl rfl rfl ⟨rfl, rfl⟩ rfl rfl rfl rfl rfl ?_
  refine ev_bk 3 (S' := (341, [some (.ref 367), some (vI x1), some (vI x2), some (vI x3), some (vI ((S.1 367 9) - x3))], [vI 2, vL 0, .ref 367], hp S11, 0, 0)) rfl ?_
  obtain ⟨S13, e14, F⟩ := F
  refine mv_calv (as := [vL 0, vI 2]) (rest := []) e14 (sh_367) rfl rfl rfl ⟨rfl, rfl⟩ rfl rfl rfl rfl rfl ?_
  obtain ⟨rfl, rfl⟩ := F
  exact ev_ret rfl rfl
theorem vc_MD_boxText {q : Nat × (Nat → Int32)} {S S' : ms} {r : Option Value} (x1 x2 : Int)
    (F : (0 ≤ w32 x1 ∧ w32 x1 < (16 : Nat)) ∧ ∀ S2 : ms, S2 = wI S 435 (w32 x1) (S.1 367 9) → (0 ≤ w32 x1 ∧ w32 x1 < (16 : Nat)) ∧ (0 ≤ w32 x1 ∧ w32 x1 < (16 : Nat)) ∧ ∀ S5 : ms, S5 = wI S2 367 2 (S2.1 424 (w32 x1)) → EV q 391 38 [some (.ref 367), some (vI x1), some (vI x2), some (vI (S2.1 367 9 + 30 + (S2.1 420 (w32 x1)))), some (vI 0)] [] S5 r S') : EV q 391 0 [some (.ref 367), some (vI x1), some (vI x2), none, none] [] S r S' := by
  unfold EV
  refine ev_bk 1 (S' := (1, [some (.ref 367), some (vI x1), some (vI x2), none, none], [.ref 367], hp S, 0, 0)) rfl ?_
  refine mv_gfR rfl rfl (sh_367) (by decide) rfl ?_
  refine ev_bk 2 (S' := (6, [some (.ref 367), some (vI x1), some (vI x2), none, none], [.ref 367, vI x1, .ref 435], hp S, 0, 0)) rfl ?_
  refine mv_gfI rfl rfl (sh_367) (by decide) rfl ?_
  obtain ⟨b1, F⟩ := F
  refine mv_ias rfl (sh_435) b1 ?_
  have F := F _ rfl
  refine ev_bk 1 (S' := (11, [some (.ref 367), some (vI x1), some (vI x2), none, none], [.ref 367], hp (wI S 435 (w32 x1) (S.1 367 9)), 0, 0)) rfl ?_
  refine mv_gfI rfl rfl (sh_367) (by decide) rfl ?_
  refine ev_bk 1 (S' := (16, [some (.ref 367), some (vI x1), some (vI x2), none, none], [vI 30, vI ((wI S 435 (w32 x1) (S.1 367 9)).1 367 9)], hp (wI S 435 (w32 x1) (S.1 367 9)), 0, 0)) rfl ?_
  refine mv_iadd rfl ?_
  refine ev_bk 1 (S' := (18, [some (.ref 367), some (vI x1), some (vI x2), none, none], [.ref 367, vI ((wI S 435 (w32 x1) (S.1 367 9)).1 367 9 + 30)], hp (wI S 435 (w32 x1) (S.1 367 9)), 0, 0)) rfl ?_
  refine mv_gfR rfl rfl (sh_367) (by decide) rfl ?_
  refine ev_bk 1 (S' := (22, [some (.ref 367), some (vI x1), some (vI x2), none, none], [vI x1, .ref 420, vI ((wI S 435 (w32 x1) (S.1 367 9)).1 367 9 + 30)], hp (wI S 435 (w32 x1) (S.1 367 9)), 0, 0)) rfl ?_
  obtain ⟨b3, F⟩ := F
  refine mv_ial rfl (sh_420) b3 ?_
  refine mv_iadd rfl ?_
  refine ev_bk 3 (S' := (27, [some (.ref 367), some (vI x1), some (vI x2), some (vI ((wI S 435 (w32 x1) (S.1 367 9)).1 367 9 + 30 + ((wI S 435 (w32 x1) (S.1 367 9)).1 420 (w32 x1)))), none], [.ref 367, .ref 367], hp (wI S 435 (w32 x1) (S.1 367 9)), 0, 0)) rfl ?_
  refine mv_gfR rfl rfl (sh_367) (by decide) rfl ?_
  refine ev_bk 1 (S' := (31, [some (.ref 367), some (vI x1), some (vI x2), some (vI ((wI S 435 (w32 x1) (S.1 367 9)).1 367 9 + 30 + ((wI S 435 (w32 x1) (S.1 367 9)).1 420 (w32 x1)))), none], [vI x1, .ref 424, .ref 367], hp (wI S 435 (w32 x1) (S.1 367 9)), 0, 0)) rfl ?_
  obtain ⟨b4, F⟩ := F
  refine mv_ial rfl (sh_424) b4 ?_
  refine mv_pfI rfl rfl (sh_367) (by decide) rfl rfl ?_
  have F := F _ rfl
  refine ev_bk 2 (S' := (38, [some (.ref 367), some (vI x1), some (vI x2), some (vI ((wI S 435 (w32 x1) (S.1 367 9)).1 367 9 + 30 + ((wI S 435 (w32 x1) (S.1 367 9)).1 420 (w32 x1)))), some (vI 0)], [], hp (wI (wI S 435 (w32 x1) (S.1 367 9)) 367 2 ((wI S 435 (w32 x1) (S.1 367 9)).1 424 (w32 x1))), 0, 0)) rfl ?_
  exact F
theorem vc_MD_boxText_38 {q : Nat × (Nat → Int32)} {S S' : ms} {r : Option Value} (x1 x2 x3 x4 : Int)
    (F : ((w32 (S.1 367 2) ≤ w32 x4) → ∃ (z3 : Int) (S1 : ms), EV q 264 0 [some (.ref 367), some (.ref 368), some (vI 0), some (vI (S.1 367 2)), none, none] [] S (some (vI z3)) S1 ∧ (0 ≤ w32 x1 ∧ w32 x1 < (16 : Nat)) ∧ ∀ S5 : ms, S5 = wI S1 433 (w32 x1) z3 → ∀ S6 : ms, S6 = wI S5 367 9 x3 → ∀ S7 : ms, S7 = wI S6 367 10 0 → ∃ (S8 : ms), EV q 289 0 [some (.ref 367), some (vI x2), none, none, none, none, none] [] S7 none S8 ∧ (0 ≤ w32 x1 ∧ w32 x1 < (16 : Nat)) ∧ ∀ S11 : ms, S11 = wI S8 434 (w32 x1) ((S8.1 367 9) - x3) → (0 ≤ w32 x1 ∧ w32 x1 < (16 : Nat)) ∧ ((w32 (S11.1 367 2) ≤ w32 (S11.1 434 (w32 x1))) → EV q 391 143 [some (.ref 367), some (vI x1), some (vI x2), some (vI x3), some (vI x4)] [vI 0, vI x1, .ref 432] S11 r S') ∧ ((¬ w32 (S11.1 367 2) ≤ w32 (S11.1 434 (w32 x1))) → EV q 391 143 [some (.ref 367), some (vI x1), some (vI x2), some (vI x3), some (vI x4)] [vI 8, vI x1, .ref 432] S11 r S')) ∧ ((¬ w32 (S.1 367 2) ≤ w32 x4) → (0 ≤ w32 ((6000 * x1) + x4) ∧ w32 ((6000 * x1) + x4) < (96000 : Nat)) ∧ (0 ≤ w32 x4 ∧ w32 x4 < (6000 : Nat)) ∧ ∀ S15 : ms, S15 = wI S 368 (w32 x4) (b8 (S.1 423 (w32 ((6000 * x1) + x4)))) → EV q 391 38 [some (.ref 367), some (vI x1), some (vI x2), some (vI x3), some (vI (x4 + 1))] [] S15 r S')) : EV q 391 38 [some (.ref 367), some (vI x1), some (vI x2), some (vI x3), some (vI x4)] [] S r S' := by
  unfold EV
  refine ev_bk 2 (S' := (41, [some (.ref 367), some (vI x1), some (vI x2), some (vI x3), some (vI x4)], [.ref 367, vI x4], hp S, 0, 0)) rfl ?_
  refine mv_gfI rfl rfl (sh_367) (by decide) rfl ?_
  refine mv_icmp 73 rfl rfl (fun c => ?_) (fun c => ?_)
  · have F := F.1 c
    refine ev_bk 1 (S' := (74, [some (.ref 367), some (vI x1), some (vI x2), some (vI x3), some (vI x4)], [.ref 367], hp S, 0, 0)) rfl ?_
    refine mv_gfR rfl rfl (sh_367) (by decide) rfl ?_
    refine ev_bk 3 (S' := (80, [some (.ref 367), some (vI x1), some (vI x2), some (vI x3), some (vI x4)], [.ref 367, .ref 367, vI x1, .ref 433], hp S, 0, 0)) rfl ?_
    refine mv_gfR rfl rfl (sh_367) (by decide) rfl ?_
    refine ev_bk 2 (S' := (85, [some (.ref 367), some (vI x1), some (vI x2), some (vI x3), some (vI x4)], [.ref 367, vI 0, .ref 368, .ref 367, vI x1, .ref 433], hp S, 0, 0)) rfl ?_
    refine mv_gfI rfl rfl (sh_367) (by decide) rfl ?_
    obtain ⟨z3, S1, e2, F⟩ := F
    refine mv_calv (as := [.ref 368, vI 0, vI (S.1 367 2)]) (rest := [vI x1, .ref 433]) e2 (sh_367) rfl rfl rfl ⟨rfl, rfl⟩ rfl rfl rfl rfl rfl ?_
    obtain ⟨b4, F⟩ := F
    refine mv_ias rfl (sh_433) b4 ?_
    have F := F _ rfl
    refine ev_bk 2 (S' := (94, [some (.ref 367), some (vI x1), some (vI x2), some (vI x3), some (vI x4)], [vI x3, .ref 367], hp (wI S1 433 (w32 x1) z3), 0, 0)) rfl ?_
    refine mv_pfI rfl rfl (sh_367) (by decide) rfl rfl ?_
    have F := F _ rfl
    refine ev_bk 2 (S' := (99, [some (.ref 367), some (vI x1), some (vI x2), some (vI x3), some (vI x4)], [vI 0, .ref 367], hp (wI (wI S1 433 (w32 x1) z3) 367 9 x3), 0, 0)) rfl ?_
    refine mv_pfI rfl rfl (sh_367) (by decide) rfl rfl ?_
    have F := F _ rfl
    refine ev_bk 2 (S' := (104, [some (.ref 367), some (vI x1), some (vI x2), some (vI x3), some (vI x4)], [vI x2, .ref 367], hp (wI (wI (wI S1 433 (w32 x1) z3) 367 9 x3) 367 10 0), 0, 0)) rfl ?_
    obtain ⟨S8, e9, F⟩ := F
    refine mv_calv (as := [vI x2]) (rest := []) e9 (sh_367) rfl rfl rfl ⟨rfl, rfl⟩ rfl rfl rfl rfl rfl ?_
    refine ev_bk 1 (S' := (108, [some (.ref 367), some (vI x1), some (vI x2), some (vI x3), some (vI x4)], [.ref 367], hp S8, 0, 0)) rfl ?_
    refine mv_gfR rfl rfl (sh_367) (by decide) rfl ?_
    refine ev_bk 2 (S' := (113, [some (.ref 367), some (vI x1), some (vI x2), some (vI x3), some (vI x4)], [.ref 367, vI x1, .ref 434], hp S8, 0, 0)) rfl ?_
    refine mv_gfI rfl rfl (sh_367) (by decide) rfl ?_
    refine ev_bk 1 (S' := (117, [some (.ref 367), some (vI x1), some (vI x2), some (vI x3), some (vI x4)], [vI x3, vI (S8.1 367 9), vI x1, .ref 434], hp S8, 0, 0)) rfl ?_
    refine mv_isub rfl ?_
    obtain ⟨b10, F⟩ := F
    refine mv_ias rfl (sh_434) b10 ?_
    have F := F _ rfl
    refine ev_bk 1 (S' := (120, [some (.ref 367), some (vI x1), some (vI x2), some (vI x3), some (vI x4)], [.ref 367], hp (wI S8 434 (w32 x1) ((S8.1 367 9) - x3)), 0, 0)) rfl ?_
    refine mv_gfR rfl rfl (sh_367) (by decide) rfl ?_
    refine ev_bk 2 (S' := (125, [some (.ref 367), some (vI x1), some (vI x2), some (vI x3), some (vI x4)], [.ref 367, vI x1, .ref 432], hp (wI S8 434 (w32 x1) ((S8.1 367 9) - x3)), 0, 0)) rfl ?_
    refine mv_gfR rfl rfl (sh_367) (by decide) rfl ?_
    refine ev_bk 1 (S' := (129, [some (.ref 367), some (vI x1), some (vI x2), some (vI x3), some (vI x4)], [vI x1, .ref 434, vI x1, .ref 432], hp (wI S8 434 (w32 x1) ((S8.1 367 9) - x3)), 0, 0)) rfl ?_
    obtain ⟨b12, F⟩ := F
    refine mv_ial rfl (sh_434) b12 ?_
    refine ev_bk 1 (S' := (131, [some (.ref 367), some (vI x1), some (vI x2), some (vI x3), some (vI x4)], [.ref 367, vI ((wI S8 434 (w32 x1) ((S8.1 367 9) - x3)).1 434 (w32 x1)), vI x1, .ref 432], hp (wI S8 434 (w32 x1) ((S8.1 367 9) - x3)), 0, 0)) rfl ?_
    refine mv_gfI rfl rfl (sh_367) (by decide) rfl ?_
    refine mv_icmp 142 rfl rfl (fun c => ?_) (fun c => ?_)
    · have F := F.1 c
      refine ev_bk 1 (S' := (143, [some (.ref 367), some (vI x1), some (vI x2), some (vI x3), some (vI x4)], [vI 0, vI x1, .ref 432], hp (wI S8 434 (w32 x1) ((S8.1 367 9) - x3)), 0, 0)) rfl ?_
      exact F
    · have F := F.2 c
      refine ev_bk 1 (S' := (139, [some (.ref 367), some (vI x1), some (vI x2), some (vI x3), some (vI x4)], [vI 8, vI x1, .ref 432], hp (wI S8 434 (w32 x1) ((S8.1 367 9) - x3)), 0, 0)) rfl ?_
      refine mv_goto 143 rfl rfl ?_
      exact F
  · have F := F.2 c
    refine ev_bk 1 (S' := (48, [some (.ref 367), some (vI x1), some (vI x2), some (vI x3), some (vI x4)], [.ref 367], hp S, 0, 0)) rfl ?_
    refine mv_gfR rfl rfl (sh_367) (by decide) rfl ?_
    refine ev_bk 2 (S' := (54, [some (.ref 367), some (vI x1), some (vI x2), some (vI x3), some (vI x4)], [.ref 367, vI x4, .ref 368], hp S, 0, 0)) rfl ?_
    refine mv_gfR rfl rfl (sh_367) (by decide) rfl ?_
    refine ev_bk 2 (S' := (61, [some (.ref 367), some (vI x1), some (vI x2), some (vI x3), some (vI x4)], [vI x1, vI 6000, .ref 423, vI x4, .ref 368], hp S, 0, 0)) rfl ?_
    refine mv_imul rfl ?_
    refine ev_bk 1 (S' := (64, [some (.ref 367), some (vI x1), some (vI x2), some (vI x3), some (vI x4)], [vI x4, vI (6000 * x1), .ref 423, vI x4, .ref 368], hp S, 0, 0)) rfl ?_
    refine mv_iadd rfl ?_
    obtain ⟨b13, F⟩ := F
    refine mv_bal rfl (sh_423) b13 ?_
    obtain ⟨b14, F⟩ := F
    refine mv_bas rfl (sh_368) b14 ?_
    have F := F _ rfl
    refine mv_inc (lv' := [some (.ref 367), some (vI x1), some (vI x2), some (vI x3), some (vI (x4 + 1))]) 4 1 rfl rfl rfl rfl ?_
    refine mv_goto 38 rfl rfl ?_
    exact F
theorem vc_MD_boxText_143 {q : Nat × (Nat → Int32)} {S S' : ms} {r : Option Value} (x1 x2 x3 x4 y0 y1 : Int)
    (F : (0 ≤ w32 y1 ∧ w32 y1 < (16 : Nat)) ∧ ∀ S2 : ms, S2 = wI S 432 (w32 y1) y0 → (0 ≤ w32 x1 ∧ w32 x1 < (16 : Nat)) ∧ ((¬ w32 (S2.1 432 (w32 x1)) = 0) → EV q 391 173 [some (.ref 367), some (vI x1), some (vI x2), some (vI x3), some (vI x4)] [] S2 r S') ∧ ((¬ (¬ w32 (S2.1 432 (w32 x1)) = 0)) → (0 ≤ w32 x1 ∧ w32 x1 < (16 : Nat)) ∧ ∀ S5 : ms, S5 = wI S2 434 (w32 x1) (S2.1 367 2) → ∀ S6 : ms, S6 = wI S5 367 9 x3 → ∃ (S7 : ms), EV q 387 0 [some (.ref 367), some (vI x1), none] [] S6 none S7 ∧ EV q 391 173 [some (.ref 367), some (vI x1), some (vI x2), some (vI x3), some (vI x4)] [] S7 r S')) : EV q 391 143 [some (.ref 367), some (vI x1), some (vI x2), some (vI x3), some (vI x4)] [vI y0, vI y1, .ref 432] S r S' := by
  unfold EV
  obtain ⟨b1, F⟩ := F
  refine mv_ias rfl (sh_432) b1 ?_
  have F := F _ rfl
  refine ev_bk 1 (S' := (145, [some (.ref 367), some (vI x1), some (vI x2), some (vI x3), some (vI x4)], [.ref 367], hp (wI S 432 (w32 y1) y0), 0, 0)) rfl ?_
  refine mv_gfR rfl rfl (sh_367) (by decide) rfl ?_
  refine ev_bk 1 (S' := (149, [some (.ref 367), some (vI x1), some (vI x2), some (vI x3), some (vI x4)], [vI x1, .ref 432], hp (wI S 432 (w32 y1) y0), 0, 0)) rfl ?_
  obtain ⟨b3, F⟩ := F
  refine mv_ial rfl (sh_432) b3 ?_
  refine mv_if 173 rfl rfl (fun c => ?_) (fun c => ?_)
  · have F := F.1 c
    exact F
  · have F := F.2 c
    refine ev_bk 1 (S' := (154, [some (.ref 367), some (vI x1), some (vI x2), some (vI x3), some (vI x4)], [.ref 367], hp (wI S 432 (w32 y1) y0), 0, 0)) rfl ?_
    refine mv_gfR rfl rfl (sh_367) (by decide) rfl ?_
    refine ev_bk 2 (S' := (159, [some (.ref 367), some (vI x1), some (vI x2), some (vI x3), some (vI x4)], [.ref 367, vI x1, .ref 434], hp (wI S 432 (w32 y1) y0), 0, 0)) rfl ?_
    refine mv_gfI rfl rfl (sh_367) (by decide) rfl ?_
    obtain ⟨b4, F⟩ := F
    refine mv_ias rfl (sh_434) b4 ?_
    have F := F _ rfl
    refine ev_bk 2 (S' := (165, [some (.ref 367), some (vI x1), some (vI x2), some (vI x3), some (vI x4)], [vI x3, .ref 367], hp (wI (wI S 432 (w32 y1) y0) 434 (w32 x1) ((wI S 432 (w32 y1) y0).1 367 2)), 0, 0)) rfl ?_
    refine mv_pfI rfl rfl (sh_367) (by decide) rfl rfl ?_
    have F := F _ rfl
    refine ev_bk 2 (S' := (170, [some (.ref 367), some (vI x1), some (vI x2), some (vI x3), some (vI x4)], [vI x1, .ref 367], hp (wI (wI (wI S 432 (w32 y1) y0) 434 (w32 x1) ((wI S 432 (w32 y1) y0).1 367 2)) 367 9 x3), 0, 0)) rfl ?_
    obtain ⟨S7, e8, F⟩ := F
    refine mv_calv (as := [vI x1]) (rest := []) e8 (sh_367) rfl rfl rfl ⟨rfl, rfl⟩ rfl rfl rfl rfl rfl ?_
    exact F
theorem vc_MD_boxText_173 {q : Nat × (Nat → Int32)} {S S' : ms} {r : Option Value} (x1 x2 x3 x4 : Int)
    (F : (0 ≤ w32 x1 ∧ w32 x1 < (16 : Nat)) ∧ ∀ S2 : ms, S2 = wI S 367 9 (S.1 435 (w32 x1)) → ∃ (S3 : ms), EV q 291 0 [some (.ref 367), some (vL 67324752), none, some (vI 4), none] [] S2 none S3 ∧ ∃ (S5 : ms), EV q 291 0 [some (.ref 367), some (vL 20), none, some (vI 2), none] [] S3 none S5 ∧ ∃ (S7 : ms), EV q 291 0 [some (.ref 367), some (vL 0), none, some (vI 2), none] [] S5 none S7 ∧ (0 ≤ w32 x1 ∧ w32 x1 < (16 : Nat)) ∧ ∃ (S10 : ms), EV q 291 0 [some (.ref 367), some (vL (w32 (S7.1 432 (w32 x1)))), none, some (vI 2), none] [] S7 none S10 ∧ (0 ≤ w32 x1 ∧ w32 x1 < (16 : Nat)) ∧ ∃ (S13 : ms), EV q 291 0 [some (.ref 367), some (vL (w32 (S10.1 422 (w32 x1)))), none, some (vI 4), none] [] S10 none S13 ∧ (0 ≤ w32 x1 ∧ w32 x1 < (16 : Nat)) ∧ ∃ (S16 : ms), EV q 291 0 [some (.ref 367), some (vL (w32 (S13.1 433 (w32 x1)))), none, some (vI 4), none] [] S13 none S16 ∧ (0 ≤ w32 x1 ∧ w32 x1 < (16 : Nat)) ∧ ∃ (S19 : ms), EV q 291 0 [some (.ref 367), some (vL (w32 (S16.1 434 (w32 x1)))), none, some (vI 4), none] [] S16 none S19 ∧ (0 ≤ w32 x1 ∧ w32 x1 < (16 : Nat)) ∧ ∃ (S22 : ms), EV q 291 0 [some (.ref 367), some (vL (w32 (S19.1 424 (w32 x1)))), none, some (vI 4), none] [] S19 none S22 ∧ (0 ≤ w32 x1 ∧ w32 x1 < (16 : Nat)) ∧ ∃ (S25 : ms), EV q 291 0 [some (.ref 367), some (vL (w32 (S22.1 420 (w32 x1)))), none, some (vI 2), none] [] S22 none S25 ∧ ∃ (S27 : ms), EV q 291 0 [some (.ref 367), some (vL 0), none, some (vI 2), none] [] S25 none S27 ∧ ∃ (S29 : ms), EV q 384 0 [some (.ref 367), some (vI x1), none] [] S27 none S29 ∧ ∀ S31 : ms, S31 = wI S29 367 9 (S.1 367 9) → r = none ∧ S' = S31) : EV q 391 173 [some (.ref 367), some (vI x1), some (vI x2), some (vI x3), some (vI x4)] [] S r S' := by
  unfold EV
  refine ev_bk 1 (S' := (174, [some (.ref 367), some (vI x1), some (vI x2), some (vI x3), some (vI x4)], [.ref 367], hp S, 0, 0)) rfl ?_
  refine mv_gfI rfl rfl (sh_367) (by decide) rfl ?_
  refine ev_bk 3 (S' := (181, [some (.ref 367), some (vI x1), some (vI x2), some (vI x3), some (vI (S.1 367 9))], [.ref 367, .ref 367], hp S, 0, 0)) rfl ?_
  refine mv_gfR rfl rfl (sh_367) (by decide) rfl ?_
  refine ev_bk 1 (S' := (185, [some (.ref 367), some (vI x1), some (vI x2), some (vI x3), some (vI (S.1 367 9))], [vI x1, .ref 435, .ref 367], hp S, 0, 0)) rfl ?_
  obtain ⟨b1, F⟩ := F
  refine mv_ial rfl (sh_435) b1 ?_
  refine mv_pfI rfl rfl (sh_367) (by decide) rfl rfl ?_
  have F := F _ rfl
  refine ev_bk 3 (S' := (194, [some (.ref 367), some (vI x1), some (vI x2), some (vI x3), some (vI (S.1 367 9))], [vI 4, vL 67324752, .ref 367], hp (wI S 367 9 (S.1 435 (w32 x1))), 0, 0)) rfl ?_
  obtain ⟨S3, e4, F⟩ := F
  refine mv_calv (as := [vL 67324752, vI 4]) (rest := []) e4 (sh_367) rfl rfl rfl ⟨rfl, rfl⟩ rfl rfl rfl rfl rfl ?_
  refine ev_bk 3 (S' := (202, [some (.ref 367), some (vI x1), some (vI x2), some (vI x3), some (vI (S.1 367 9))], [vI 2, vL 20, .ref 367], hp S3, 0, 0)) rfl ?_
  obtain ⟨S5, e6, F⟩ := F
  refine mv_calv (as := [vL 20, vI 2]) (rest := []) e6 (sh_367) rfl rfl rfl ⟨rfl, rfl⟩ rfl rfl rfl rfl rfl ?_
  refine ev_bk 3 (S' := (208, [some (.ref 367), some (vI x1), some (vI x2), some (vI x3), some (vI (S.1 367 9))], [vI 2, vL 0, .ref 367], hp S5, 0, 0)) rfl ?_
  obtain ⟨S7, e8, F⟩ := F
  refine mv_calv (as := [vL 0, vI 2]) (rest := []) e8 (sh_367) rfl rfl rfl ⟨rfl, rfl⟩ rfl rfl rfl rfl rfl ?_
  refine ev_bk 2 (S' := (213, [some (.ref 367), some (vI x1), some (vI x2), some (vI x3), some (vI (S.1 367 9))], [.ref 367, .ref 367], hp S7, 0, 0)) rfl ?_
  refine mv_gfR rfl rfl (sh_367) (by decide) rfl ?_
  refine ev_bk 1 (S' := (217, [some (.ref 367), some (vI x1), some (vI x2), some (vI x3), some (vI (S.1 367 9))], [vI x1, .ref 432, .ref 367], hp S7, 0, 0)) rfl ?_
  obtain ⟨b9, F⟩ := F
  refine mv_ial rfl (sh_432) b9 ?_
  refine mv_i2l rfl ?_
  refine ev_bk 1 (S' := (220, [some (.ref 367), some (vI x1), some (vI x2), some (vI x3), some (vI (S.1 367 9))], [vI 2, vL (w32 (S7.1 432 (w32 x1))), .ref 367], hp S7, 0, 0)) rfl ?_
  obtain ⟨S10, e11, F⟩ := F
  refine mv_calv (as := [vL (w32 (S7.1 432 (w32 x1))), vI 2]) (rest := []) e11 (sh_367) rfl rfl rfl ⟨rfl, rfl⟩ rfl rfl rfl rfl rfl ?_
  refine ev_bk 2 (S' := (225, [some (.ref 367), some (vI x1), some (vI x2), some (vI x3), some (vI (S.1 367 9))], [.ref 367, .ref 367], hp S10, 0, 0)) rfl ?_
  refine mv_gfR rfl rfl (sh_367) (by decide) rfl ?_
  refine ev_bk 1 (S' := (229, [some (.ref 367), some (vI x1), some (vI x2), some (vI x3), some (vI (S.1 367 9))], [vI x1, .ref 422, .ref 367], hp S10, 0, 0)) rfl ?_
  obtain ⟨b12, F⟩ := F
  refine mv_ial rfl (sh_422) b12 ?_
  refine mv_i2l rfl ?_
  refine ev_bk 1 (S' := (232, [some (.ref 367), some (vI x1), some (vI x2), some (vI x3), some (vI (S.1 367 9))], [vI 4, vL (w32 (S10.1 422 (w32 x1))), .ref 367], hp S10, 0, 0)) rfl ?_
  obtain ⟨S13, e14, F⟩ := F
  refine mv_calv (as := [vL (w32 (S10.1 422 (w32 x1))), vI 4]) (rest := []) e14 (sh_367) rfl rfl rfl ⟨rfl, rfl⟩ rfl rfl rfl rfl rfl ?_
  refine ev_bk 2 (S' := (237, [some (.ref 367), some (vI x1), some (vI x2), some (vI x3), some (vI (S.1 367 9))], [.ref 367, .ref 367], hp S13, 0, 0)) rfl ?_
  refine mv_gfR rfl rfl (sh_367) (by decide) rfl ?_
  refine ev_bk 1 (S' := (241, [some (.ref 367), some (vI x1), some (vI x2), some (vI x3), some (vI (S.1 367 9))], [vI x1, .ref 433, .ref 367], hp S13, 0, 0)) rfl ?_
  obtain ⟨b15, F⟩ := F
  refine mv_ial rfl (sh_433) b15 ?_
  refine mv_i2l rfl ?_
  refine ev_bk 1 (S' := (244, [some (.ref 367), some (vI x1), some (vI x2), some (vI x3), some (vI (S.1 367 9))], [vI 4, vL (w32 (S13.1 433 (w32 x1))), .ref 367], hp S13, 0, 0)) rfl ?_
  obtain ⟨S16, e17, F⟩ := F
  refine mv_calv (as := [vL (w32 (S13.1 433 (w32 x1))), vI 4]) (rest := []) e17 (sh_367) rfl rfl rfl ⟨rfl, rfl⟩ rfl rfl rfl rfl rfl ?_
  refine ev_bk 2 (S' := (249, [some (.ref 367), some (vI x1), some (vI x2), some (vI x3), some (vI (S.1 367 9))], [.ref 367, .ref 367], hp S16, 0, 0)) rfl ?_
  refine mv_gfR rfl rfl (sh_367) (by decide) rfl ?_
  refine ev_bk 1 (S' := (253, [some (.ref 367), some (vI x1), some (vI x2), some (vI x3), some (vI (S.1 367 9))], [vI x1, .ref 434, .ref 367], hp S16, 0, 0)) rfl ?_
  obtain ⟨b18, F⟩ := F
  refine mv_ial rfl (sh_434) b18 ?_
  refine mv_i2l rfl ?_
  refine ev_bk 1 (S' := (256, [some (.ref 367), some (vI x1), some (vI x2), some (vI x3), some (vI (S.1 367 9))], [vI 4, vL (w32 (S16.1 434 (w32 x1))), .ref 367], hp S16, 0, 0)) rfl ?_
  obtain ⟨S19, e20, F⟩ := F
  refine mv_calv (as := [vL (w32 (S16.1 434 (w32 x1))), vI 4]) (rest := []) e20 (sh_367) rfl rfl rfl ⟨rfl, rfl⟩ rfl rfl rfl rfl rfl ?_
  refine ev_bk 2 (S' := (261, [some (.ref 367), some (vI x1), some (vI x2), some (vI x3), some (vI (S.1 367 9))], [.ref 367, .ref 367], hp S19, 0, 0)) rfl ?_
  refine mv_gfR rfl rfl (sh_367) (by decide) rfl ?_
  refine ev_bk 1 (S' := (265, [some (.ref 367), some (vI x1), some (vI x2), some (vI x3), some (vI (S.1 367 9))], [vI x1, .ref 424, .ref 367], hp S19, 0, 0)) rfl ?_
  obtain ⟨b21, F⟩ := F
  refine mv_ial rfl (sh_424) b21 ?_
  refine mv_i2l rfl ?_
  refine ev_bk 1 (S' := (268, [some (.ref 367), some (vI x1), some (vI x2), some (vI x3), some (vI (S.1 367 9))], [vI 4, vL (w32 (S19.1 424 (w32 x1))), .ref 367], hp S19, 0, 0)) rfl ?_
  obtain ⟨S22, e23, F⟩ := F
  refine mv_calv (as := [vL (w32 (S19.1 424 (w32 x1))), vI 4]) (rest := []) e23 (sh_367) rfl rfl rfl ⟨rfl, rfl⟩ rfl rfl rfl rfl rfl ?_
  refine ev_bk 2 (S' := (273, [some (.ref 367), some (vI x1), some (vI x2), some (vI x3), some (vI (S.1 367 9))], [.ref 367, .ref 367], hp S22, 0, 0)) rfl ?_
  refine mv_gfR rfl rfl (sh_367) (by decide) rfl ?_
  refine ev_bk 1 (S' := (277, [some (.ref 367), some (vI x1), some (vI x2), some (vI x3), some (vI (S.1 367 9))], [vI x1, .ref 420, .ref 367], hp S22, 0, 0)) rfl ?_
  obtain ⟨b24, F⟩ := F
  refine mv_ial rfl (sh_420) b24 ?_
  refine mv_i2l rfl ?_
  refine ev_bk 1 (S' := (280, [some (.ref 367), some (vI x1), some (vI x2), some (vI x3), some (vI (S.1 367 9))], [vI 2, vL (w32 (S22.1 420 (w32 x1))), .ref 367], hp S22, 0, 0)) rfl ?_
  obtain ⟨S25, e26, F⟩ := F
  refine mv_calv (as := [vL (w32 (S22.1 420 (w32 x1))), vI 2]) (rest := []) e26 (sh_367) rfl rfl rfl ⟨rfl, rfl⟩ rfl rfl rfl rfl rfl ?_
  refine ev_bk 3 (S' := (286, [some (.ref 367), some (vI x1), some (vI x2), some (vI x3), some (vI (S.1 367 9))], [vI 2, vL 0, .ref 367], hp S25, 0, 0)) rfl ?_
  obtain ⟨S27, e28, F⟩ := F
  refine mv_calv (as := [vL 0, vI 2]) (rest := []) e28 (sh_367) rfl rfl rfl ⟨rfl, rfl⟩ rfl rfl rfl rfl rfl ?_
  refine ev_bk 2 (S' := (291, [some (.ref 367), some (vI x1), some (vI x2), some (vI x3), some (vI (S.1 367 9))], [vI x1, .ref 367], hp S27, 0, 0)) rfl ?_
  obtain ⟨S29, e30, F⟩ := F
  refine mv_calv (as := [vI x1]) (rest := []) e30 (sh_367) rfl rfl rfl ⟨rfl, rfl⟩ rfl rfl rfl rfl rfl ?_
  refine ev_bk 2 (S' := (297, [some (.ref 367), some (vI x1), some (vI x2), some (vI x3), some (vI (S.1 367 9))], [vI (S.1 367 9), .ref 367], hp S29, 0, 0)) rfl ?_
  refine mv_pfI rfl rfl (sh_367) (by decide) rfl rfl ?_
  have F := F _ rfl
  obtain ⟨rfl, rfl⟩ := F
  exact ev_ret rfl rfl
theorem vc_MD_read {q : Nat × (Nat → Int32)} {S S' : ms} {r : Option Value} (x1 : Int)
    (F : ∀ S1 : ms, S1 = wI S 367 0 0 → ∃ (z4 : Int) (S2 : ms), EV q 257 0 [some (vI x1), some (vI 11), some (vI 13)] [] S1 (some (vI z4)) S2 ∧ ((¬ w32 z4 = 0) → ∃ (S5 : ms), EV q 330 0 [some (.ref 367)] [] S2 none S5 ∧ ∀ S7 : ms, S7 = wI S5 367 95 0 → ((¬ w32 x1 = 11) → ((¬ w32 x1 = 12) → ∃ (S8 : ms), EV q 400 0 [some (.ref 367), none, none, none, none, none, none, none, none, none, none, none, none, none] [] S7 none S8 ∧ EV q 392 58 [some (.ref 367), some (vI x1), none, none] [] S8 r S') ∧ ((¬ (¬ w32 x1 = 12)) → ∃ (S10 : ms), EV q 398 0 [some (.ref 367), none, none, none, none, none, none, none, none, none, none, none] [] S7 none S10 ∧ EV q 392 58 [some (.ref 367), some (vI x1), none, none] [] S10 r S')) ∧ ((¬ (¬ w32 x1 = 11)) → ∃ (S12 : ms), EV q 393 0 [some (.ref 367), none, none, none, none, none, none, none, none, none, none, none, none, none, none, none, none, none] [] S7 none S12 ∧ EV q 392 58 [some (.ref 367), some (vI x1), none, none] [] S12 r S')) ∧ ((¬ (¬ w32 z4 = 0)) → r = some (vI ((-2))) ∧ S' = S2)) : EV q 392 0 [some (.ref 367), some (vI x1), none, none] [] S r S' := by
  unfold EV
  refine ev_bk 2 (S' := (2, [some (.ref 367), some (vI x1), none, none], [vI 0, .ref 367], hp S, 0, 0)) rfl ?_
  refine mv_pfI rfl rfl (sh_367) (by decide) rfl rfl ?_
  have F := F _ rfl
  refine ev_bk 3 (S' := (10, [some (.ref 367), some (vI x1), none, none], [vI 13, vI 11, vI x1], hp (wI S 367 0 0), 0, 0)) rfl ?_
  obtain ⟨z4, S2, e3, F⟩ := F
  refine mv_cals (as := [vI x1, vI 11, vI 13]) (rest := []) e3 rfl rfl rfl ⟨rfl, rfl, rfl⟩ rfl rfl rfl rfl ?_
  refine mv_if 19 rfl rfl (fun c => ?_) (fun c => ?_)
  · have F := F.1 c
    refine ev_bk 1 (S' := (20, [some (.ref 367), some (vI x1), none, none], [.ref 367], hp S2, 0, 0)) rfl ?_
    obtain ⟨S5, e6, F⟩ := F
    refine mv_calv (as := []) (rest := []) e6 (sh_367) rfl rfl rfl ⟨rfl, rfl⟩ rfl rfl rfl rfl rfl ?_
    refine ev_bk 2 (S' := (25, [some (.ref 367), some (vI x1), none, none], [vI 0, .ref 367], hp S5, 0, 0)) rfl ?_
    refine mv_pfI rfl rfl (sh_367) (by decide) rfl rfl ?_
    have F := F _ rfl
    refine ev_bk 2 (S' := (31, [some (.ref 367), some (vI x1), none, none], [vI 11, vI x1], hp (wI S5 367 95 0), 0, 0)) rfl ?_
    refine mv_icmp 41 rfl rfl (fun c => ?_) (fun c => ?_)
    · have F := F.1 c
      refine ev_bk 2 (S' := (44, [some (.ref 367), some (vI x1), none, none], [vI 12, vI x1], hp (wI S5 367 95 0), 0, 0)) rfl ?_
      refine mv_icmp 54 rfl rfl (fun c => ?_) (fun c => ?_)
      · have F := F.1 c
        refine ev_bk 1 (S' := (55, [some (.ref 367), some (vI x1), none, none], [.ref 367], hp (wI S5 367 95 0), 0, 0)) rfl ?_
        obtain ⟨S8, e9, F⟩ := F
        refine mv_calv (as := []) (rest := []) e9 (sh_367) rfl rfl rfl ⟨rfl, rfl⟩ rfl rfl rfl rfl rfl ?_
        exact F
      · have F := F.2 c
        refine ev_bk 1 (S' := (48, [some (.ref 367), some (vI x1), none, none], [.ref 367], hp (wI S5 367 95 0), 0, 0)) rfl ?_
        obtain ⟨S10, e11, F⟩ := F
        refine mv_calv (as := []) (rest := []) e11 (sh_367) rfl rfl rfl ⟨rfl, rfl⟩ rfl rfl rfl rfl rfl ?_
        refine mv_goto 58 rfl rfl ?_
        exact F
    · have F := F.2 c
      refine ev_bk 1 (S' := (35, [some (.ref 367), some (vI x1), none, none], [.ref 367], hp (wI S5 367 95 0), 0, 0)) rfl ?_
      obtain ⟨S12, e13, F⟩ := F
      refine mv_calv (as := []) (rest := []) e13 (sh_367) rfl rfl rfl ⟨rfl, rfl⟩ rfl rfl rfl rfl rfl ?_
      refine mv_goto 58 rfl rfl ?_
      exact F
  · have F := F.2 c
    refine ev_bk 1 (S' := (18, [some (.ref 367), some (vI x1), none, none], [vI ((-2))], hp S2, 0, 0)) rfl ?_
    obtain ⟨rfl, rfl⟩ := F
    exact ev_ret rfl rfl
theorem vc_MD_read_58 {q : Nat × (Nat → Int32)} {S S' : ms} {r : Option Value} (x1 : Int)
    (F : ∃ (z3 : Int) (S1 : ms), EV q 368 0 [some (.ref 367), some (vI (S.1 367 95))] [] S (some (vI z3)) S1 ∧ ((w32 (S1.1 367 19) ≤ 0) → ∀ S4 : ms, S4 = wI S1 367 88 (S1.1 367 95) → EV q 392 86 [some (.ref 367), some (vI x1), some (vI z3), some (vI 0)] [] S4 r S') ∧ ((¬ w32 (S1.1 367 19) ≤ 0) → r = some (vI z3) ∧ S' = S1)) : EV q 392 58 [some (.ref 367), some (vI x1), none, none] [] S r S' := by
  unfold EV
  refine ev_bk 2 (S' := (60, [some (.ref 367), some (vI x1), none, none], [.ref 367, .ref 367], hp S, 0, 0)) rfl ?_
  refine mv_gfI rfl rfl (sh_367) (by decide) rfl ?_
  obtain ⟨z3, S1, e2, F⟩ := F
  refine mv_calv (as := [vI (S.1 367 95)]) (rest := []) e2 (sh_367) rfl rfl rfl ⟨rfl, rfl⟩ rfl rfl rfl rfl rfl ?_
  refine ev_bk 2 (S' := (68, [some (.ref 367), some (vI x1), some (vI z3), none], [.ref 367], hp S1, 0, 0)) rfl ?_
  refine mv_gfI rfl rfl (sh_367) (by decide) rfl ?_
  refine mv_if 76 rfl rfl (fun c => ?_) (fun c => ?_)
  · have F := F.1 c
    refine ev_bk 2 (S' := (78, [some (.ref 367), some (vI x1), some (vI z3), none], [.ref 367, .ref 367], hp S1, 0, 0)) rfl ?_
    refine mv_gfI rfl rfl (sh_367) (by decide) rfl ?_
    refine mv_pfI rfl rfl (sh_367) (by decide) rfl rfl ?_
    have F := F _ rfl
    refine ev_bk 2 (S' := (86, [some (.ref 367), some (vI x1), some (vI z3), some (vI 0)], [], hp (wI S1 367 88 (S1.1 367 95)), 0, 0)) rfl ?_
    exact F
  · have F := F.2 c
    refine ev_bk 1 (S' := (75, [some (.ref 367), some (vI x1), some (vI z3), none], [vI z3], hp S1, 0, 0)) rfl ?_
    obtain ⟨rfl, rfl⟩ := F
    exact ev_ret rfl rfl
theorem vc_MD_read_86 {q : Nat × (Nat → Int32)} {S S' : ms} {r : Option Value} (x1 x2 x3 : Int)
    (F : ((w32 (S.1 367 88) ≤ w32 x3) → EV q 392 150 [some (.ref 367), some (vI x1), some (vI x2), some (vI 0)] [] S r S') ∧ ((¬ w32 (S.1 367 88) ≤ w32 x3) → (0 ≤ w32 x3 ∧ w32 x3 < (16 : Nat)) ∧ (0 ≤ w32 x3 ∧ w32 x3 < (16 : Nat)) ∧ ∀ S3 : ms, S3 = wI S 420 (w32 x3) (S.1 426 (w32 x3)) → (0 ≤ w32 x3 ∧ w32 x3 < (16 : Nat)) ∧ (0 ≤ w32 x3 ∧ w32 x3 < (16 : Nat)) ∧ ∀ S6 : ms, S6 = wI S3 421 (w32 x3) (S3.1 427 (w32 x3)) → (0 ≤ w32 x3 ∧ w32 x3 < (16 : Nat)) ∧ (0 ≤ w32 x3 ∧ w32 x3 < (16 : Nat)) ∧ ∀ S9 : ms, S9 = wI S6 422 (w32 x3) (S6.1 428 (w32 x3)) → (0 ≤ w32 x3 ∧ w32 x3 < (16 : Nat)) ∧ (0 ≤ w32 x3 ∧ w32 x3 < (16 : Nat)) ∧ ∀ S12 : ms, S12 = wI S9 424 (w32 x3) (S9.1 430 (w32 x3)) → EV q 392 86 [some (.ref 367), some (vI x1), some (vI x2), some (vI (x3 + 1))] [] S12 r S')) : EV q 392 86 [some (.ref 367), some (vI x1), some (vI x2), some (vI x3)] [] S r S' := by
  unfold EV
  refine ev_bk 2 (S' := (88, [some (.ref 367), some (vI x1), some (vI x2), some (vI x3)], [.ref 367, vI x3], hp S, 0, 0)) rfl ?_
  refine mv_gfI rfl rfl (sh_367) (by decide) rfl ?_
  refine mv_icmp 148 rfl rfl (fun c => ?_) (fun c => ?_)
  · have F := F.1 c
    refine ev_bk 2 (S' := (150, [some (.ref 367), some (vI x1), some (vI x2), some (vI 0)], [], hp S, 0, 0)) rfl ?_
    exact F
  · have F := F.2 c
    refine ev_bk 1 (S' := (95, [some (.ref 367), some (vI x1), some (vI x2), some (vI x3)], [.ref 367], hp S, 0, 0)) rfl ?_
    refine mv_gfR rfl rfl (sh_367) (by decide) rfl ?_
    refine ev_bk 2 (S' := (100, [some (.ref 367), some (vI x1), some (vI x2), some (vI x3)], [.ref 367, vI x3, .ref 420], hp S, 0, 0)) rfl ?_
    refine mv_gfR rfl rfl (sh_367) (by decide) rfl ?_
    refine ev_bk 1 (S' := (104, [some (.ref 367), some (vI x1), some (vI x2), some (vI x3)], [vI x3, .ref 426, vI x3, .ref 420], hp S, 0, 0)) rfl ?_
    obtain ⟨b1, F⟩ := F
    refine mv_ial rfl (sh_426) b1 ?_
    obtain ⟨b2, F⟩ := F
    refine mv_ias rfl (sh_420) b2 ?_
    have F := F _ rfl
    refine ev_bk 1 (S' := (107, [some (.ref 367), some (vI x1), some (vI x2), some (vI x3)], [.ref 367], hp (wI S 420 (w32 x3) (S.1 426 (w32 x3))), 0, 0)) rfl ?_
    refine mv_gfR rfl rfl (sh_367) (by decide) rfl ?_
    refine ev_bk 2 (S' := (112, [some (.ref 367), some (vI x1), some (vI x2), some (vI x3)], [.ref 367, vI x3, .ref 421], hp (wI S 420 (w32 x3) (S.1 426 (w32 x3))), 0, 0)) rfl ?_
    refine mv_gfR rfl rfl (sh_367) (by decide) rfl ?_
    refine ev_bk 1 (S' := (116, [some (.ref 367), some (vI x1), some (vI x2), some (vI x3)], [vI x3, .ref 427, vI x3, .ref 421], hp (wI S 420 (w32 x3) (S.1 426 (w32 x3))), 0, 0)) rfl ?_
    obtain ⟨b4, F⟩ := F
    refine mv_ial rfl (sh_427) b4 ?_
    obtain ⟨b5, F⟩ := F
    refine mv_ias rfl (sh_421) b5 ?_
    have F := F _ rfl
    refine ev_bk 1 (S' := (119, [some (.ref 367), some (vI x1), some (vI x2), some (vI x3)], [.ref 367], hp (wI (wI S 420 (w32 x3) (S.1 426 (w32 x3))) 421 (w32 x3) ((wI S 420 (w32 x3) (S.1 426 (w32 x3))).1 427 (w32 x3))), 0, 0)) rfl ?_
    refine mv_gfR rfl rfl (sh_367) (by decide) rfl ?_
    refine ev_bk 2 (S' := (124, [some (.ref 367), some (vI x1), some (vI x2), some (vI x3)], [.ref 367, vI x3, .ref 422], hp (wI (wI S 420 (w32 x3) (S.1 426 (w32 x3))) 421 (w32 x3) ((wI S 420 (w32 x3) (S.1 426 (w32 x3))).1 427 (w32 x3))), 0, 0)) rfl ?_
    refine mv_gfR rfl rfl (sh_367) (by decide) rfl ?_
    refine ev_bk 1 (S' := (128, [some (.ref 367), some (vI x1), some (vI x2), some (vI x3)], [vI x3, .ref 428, vI x3, .ref 422], hp (wI (wI S 420 (w32 x3) (S.1 426 (w32 x3))) 421 (w32 x3) ((wI S 420 (w32 x3) (S.1 426 (w32 x3))).1 427 (w32 x3))), 0, 0)) rfl ?_
    obtain ⟨b7, F⟩ := F
    refine mv_ial rfl (sh_428) b7 ?_
    obtain ⟨b8, F⟩ := F
    refine mv_ias rfl (sh_422) b8 ?_
    have F := F _ rfl
    refine ev_bk 1 (S' := (131, [some (.ref 367), some (vI x1), some (vI x2), some (vI x3)], [.ref 367], hp (wI (wI (wI S 420 (w32 x3) (S.1 426 (w32 x3))) 421 (w32 x3) ((wI S 420 (w32 x3) (S.1 426 (w32 x3))).1 427 (w32 x3))) 422 (w32 x3) ((wI (wI S 420 (w32 x3) (S.1 426 (w32 x3))) 421 (w32 x3) ((wI S 420 (w32 x3) (S.1 426 (w32 x3))).1 427 (w32 x3))).1 428 (w32 x3))), 0, 0)) rfl ?_
    refine mv_gfR rfl rfl (sh_367) (by decide) rfl ?_
    refine ev_bk 2 (S' := (136, [some (.ref 367), some (vI x1), some (vI x2), some (vI x3)], [.ref 367, vI x3, .ref 424], hp (wI (wI (wI S 420 (w32 x3) (S.1 426 (w32 x3))) 421 (w32 x3) ((wI S 420 (w32 x3) (S.1 426 (w32 x3))).1 427 (w32 x3))) 422 (w32 x3) ((wI (wI S 420 (w32 x3) (S.1 426 (w32 x3))) 421 (w32 x3) ((wI S 420 (w32 x3) (S.1 426 (w32 x3))).1 427 (w32 x3))).1 428 (w32 x3))), 0, 0)) rfl ?_
    refine mv_gfR rfl rfl (sh_367) (by decide) rfl ?_
    refine ev_bk 1 (S' := (140, [some (.ref 367), some (vI x1), some (vI x2), some (vI x3)], [vI x3, .ref 430, vI x3, .ref 424], hp (wI (wI (wI S 420 (w32 x3) (S.1 426 (w32 x3))) 421 (w32 x3) ((wI S 420 (w32 x3) (S.1 426 (w32 x3))).1 427 (w32 x3))) 422 (w32 x3) ((wI (wI S 420 (w32 x3) (S.1 426 (w32 x3))) 421 (w32 x3) ((wI S 420 (w32 x3) (S.1 426 (w32 x3))).1 427 (w32 x3))).1 428 (w32 x3))), 0, 0)) rfl ?_
    obtain ⟨b10, F⟩ := F
    refine mv_ial rfl (sh_430) b10 ?_
    obtain ⟨b11, F⟩ := F
    refine mv_ias rfl (sh_424) b11 ?_
    have F := F _ rfl
    refine mv_inc (lv' := [some (.ref 367), some (vI x1), some (vI x2), some (vI (x3 + 1))]) 3 1 rfl rfl rfl rfl ?_
    refine mv_goto 86 rfl rfl ?_
    exact F
theorem vc_MD_read_150 {q : Nat × (Nat → Int32)} {S S' : ms} {r : Option Value} (x1 x2 x3 : Int)
    (F : ((1600 ≤ w32 x3) → EV q 392 177 [some (.ref 367), some (vI x1), some (vI x2), some (vI 0)] [] S r S') ∧ ((¬ 1600 ≤ w32 x3) → (0 ≤ w32 x3 ∧ w32 x3 < (1600 : Nat)) ∧ (0 ≤ w32 x3 ∧ w32 x3 < (1600 : Nat)) ∧ ∀ S3 : ms, S3 = wI S 419 (w32 x3) (b8 (S.1 425 (w32 x3))) → EV q 392 150 [some (.ref 367), some (vI x1), some (vI x2), some (vI (x3 + 1))] [] S3 r S')) : EV q 392 150 [some (.ref 367), some (vI x1), some (vI x2), some (vI x3)] [] S r S' := by
  unfold EV
  refine ev_bk 2 (S' := (154, [some (.ref 367), some (vI x1), some (vI x2), some (vI x3)], [vI 1600, vI x3], hp S, 0, 0)) rfl ?_
  refine mv_icmp 175 rfl rfl (fun c => ?_) (fun c => ?_)
  · have F := F.1 c
    refine ev_bk 2 (S' := (177, [some (.ref 367), some (vI x1), some (vI x2), some (vI 0)], [], hp S, 0, 0)) rfl ?_
    exact F
  · have F := F.2 c
    refine ev_bk 1 (S' := (158, [some (.ref 367), some (vI x1), some (vI x2), some (vI x3)], [.ref 367], hp S, 0, 0)) rfl ?_
    refine mv_gfR rfl rfl (sh_367) (by decide) rfl ?_
    refine ev_bk 2 (S' := (163, [some (.ref 367), some (vI x1), some (vI x2), some (vI x3)], [.ref 367, vI x3, .ref 419], hp S, 0, 0)) rfl ?_
    refine mv_gfR rfl rfl (sh_367) (by decide) rfl ?_
    refine ev_bk 1 (S' := (167, [some (.ref 367), some (vI x1), some (vI x2), some (vI x3)], [vI x3, .ref 425, vI x3, .ref 419], hp S, 0, 0)) rfl ?_
    obtain ⟨b1, F⟩ := F
    refine mv_bal rfl (sh_425) b1 ?_
    obtain ⟨b2, F⟩ := F
    refine mv_bas rfl (sh_419) b2 ?_
    have F := F _ rfl
    refine mv_inc (lv' := [some (.ref 367), some (vI x1), some (vI x2), some (vI (x3 + 1))]) 3 1 rfl rfl rfl rfl ?_
    refine mv_goto 150 rfl rfl ?_
    exact F
theorem vc_MD_read_177 {q : Nat × (Nat → Int32)} {S S' : ms} {r : Option Value} (x1 x2 x3 : Int)
    (F : ((96000 ≤ w32 x3) → r = some (vI (S.1 367 88)) ∧ S' = S) ∧ ((¬ 96000 ≤ w32 x3) → (0 ≤ w32 x3 ∧ w32 x3 < (96000 : Nat)) ∧ (0 ≤ w32 x3 ∧ w32 x3 < (96000 : Nat)) ∧ ∀ S3 : ms, S3 = wI S 423 (w32 x3) (b8 (S.1 429 (w32 x3))) → EV q 392 177 [some (.ref 367), some (vI x1), some (vI x2), some (vI (x3 + 1))] [] S3 r S')) : EV q 392 177 [some (.ref 367), some (vI x1), some (vI x2), some (vI x3)] [] S r S' := by
  unfold EV
  refine ev_bk 2 (S' := (180, [some (.ref 367), some (vI x1), some (vI x2), some (vI x3)], [vI 96000, vI x3], hp S, 0, 0)) rfl ?_
  refine mv_icmp 201 rfl rfl (fun c => ?_) (fun c => ?_)
  · have F := F.1 c
    refine ev_bk 1 (S' := (202, [some (.ref 367), some (vI x1), some (vI x2), some (vI x3)], [.ref 367], hp S, 0, 0)) rfl ?_
    refine mv_gfI rfl rfl (sh_367) (by decide) rfl ?_
    obtain ⟨rfl, rfl⟩ := F
    exact ev_ret rfl rfl
  · have F := F.2 c
    refine ev_bk 1 (S' := (184, [some (.ref 367), some (vI x1), some (vI x2), some (vI x3)], [.ref 367], hp S, 0, 0)) rfl ?_
    refine mv_gfR rfl rfl (sh_367) (by decide) rfl ?_
    refine ev_bk 2 (S' := (189, [some (.ref 367), some (vI x1), some (vI x2), some (vI x3)], [.ref 367, vI x3, .ref 423], hp S, 0, 0)) rfl ?_
    refine mv_gfR rfl rfl (sh_367) (by decide) rfl ?_
    refine ev_bk 1 (S' := (193, [some (.ref 367), some (vI x1), some (vI x2), some (vI x3)], [vI x3, .ref 429, vI x3, .ref 423], hp S, 0, 0)) rfl ?_
    obtain ⟨b1, F⟩ := F
    refine mv_bal rfl (sh_429) b1 ?_
    obtain ⟨b2, F⟩ := F
    refine mv_bas rfl (sh_423) b2 ?_
    have F := F _ rfl
    refine mv_inc (lv' := [some (.ref 367), some (vI x1), some (vI x2), some (vI (x3 + 1))]) 3 1 rfl rfl rfl rfl ?_
    refine mv_goto 177 rfl rfl ?_
    exact F
theorem vc_MD_readTape {q : Nat × (Nat → Int32)} {S S' : ms} {r : Option Value}
    (F : EV q 393 2 [some (.ref 367), some (vI 0), none, none, none, none, none, none, none, none, none, none, none, none, none, none, none, none] [] S r S') : EV q 393 0 [some (.ref 367), none, none, none, none, none, none, none, none, none, none, none, none, none, none, none, none, none] [] S r S' := by
  unfold EV
  refine ev_bk 2 (S' := (2, [some (.ref 367), some (vI 0), none, none, none, none, none, none, none, none, none, none, none, none, none, none, none, none], [], hp S, 0, 0)) rfl ?_
  exact F
theorem vc_MD_readTape_2 {q : Nat × (Nat → Int32)} {S S' : ms} {r : Option Value} (x1 : Int)
    (F : ∃ (z3 : Int) (S1 : ms), EV q 333 0 [some (.ref 367)] [] S (some (vI z3)) S1 ∧ ((w32 z3 = 0) → r = none ∧ S' = S1) ∧ ((¬ w32 z3 = 0) → ((512 ≤ w32 ((S1.1 367 2) - x1)) → EV q 393 38 [some (.ref 367), some (vI x1), some (vI 1), some (vI 0), some (vI 0), none, none, none, none, none, none, none, none, none, none, none, none, none] [] S1 r S') ∧ ((¬ 512 ≤ w32 ((S1.1 367 2) - x1)) → ∃ (S4 : ms), EV q 335 0 [some (.ref 367), some (vI 1), some (vI (S1.1 367 2))] [] S1 none S4 ∧ r = none ∧ S' = S4))) : EV q 393 2 [some (.ref 367), some (vI x1), none, none, none, none, none, none, none, none, none, none, none, none, none, none, none, none] [] S r S' := by
  unfold EV
  refine ev_bk 1 (S' := (3, [some (.ref 367), some (vI x1), none, none, none, none, none, none, none, none, none, none, none, none, none, none, none, none], [.ref 367], hp S, 0, 0)) rfl ?_
  obtain ⟨z3, S1, e2, F⟩ := F
  refine mv_calv (as := []) (rest := []) e2 (sh_367) rfl rfl rfl ⟨rfl, rfl⟩ rfl rfl rfl rfl rfl ?_
  refine mv_if 547 rfl rfl (fun c => ?_) (fun c => ?_)
  · have F := F.1 c
    obtain ⟨rfl, rfl⟩ := F
    exact ev_ret rfl rfl
  · have F := F.2 c
    refine ev_bk 1 (S' := (10, [some (.ref 367), some (vI x1), none, none, none, none, none, none, none, none, none, none, none, none, none, none, none, none], [.ref 367], hp S1, 0, 0)) rfl ?_
    refine mv_gfI rfl rfl (sh_367) (by decide) rfl ?_
    refine ev_bk 1 (S' := (14, [some (.ref 367), some (vI x1), none, none, none, none, none, none, none, none, none, none, none, none, none, none, none, none], [vI x1, vI (S1.1 367 2)], hp S1, 0, 0)) rfl ?_
    refine mv_isub rfl ?_
    refine ev_bk 1 (S' := (18, [some (.ref 367), some (vI x1), none, none, none, none, none, none, none, none, none, none, none, none, none, none, none, none], [vI 512, vI ((S1.1 367 2) - x1)], hp S1, 0, 0)) rfl ?_
    refine mv_icmp 31 rfl rfl (fun c => ?_) (fun c => ?_)
    · have F := F.1 c
      refine ev_bk 6 (S' := (38, [some (.ref 367), some (vI x1), some (vI 1), some (vI 0), some (vI 0), none, none, none, none, none, none, none, none, none, none, none, none, none], [], hp S1, 0, 0)) rfl ?_
      exact F
    · have F := F.2 c
      refine ev_bk 3 (S' := (24, [some (.ref 367), some (vI x1), none, none, none, none, none, none, none, none, none, none, none, none, none, none, none, none], [.ref 367, vI 1, .ref 367], hp S1, 0, 0)) rfl ?_
      refine mv_gfI rfl rfl (sh_367) (by decide) rfl ?_
      obtain ⟨S4, e5, F⟩ := F
      refine mv_calv (as := [vI 1, vI (S1.1 367 2)]) (rest := []) e5 (sh_367) rfl rfl rfl ⟨rfl, rfl⟩ rfl rfl rfl rfl rfl ?_
      obtain ⟨rfl, rfl⟩ := F
      exact ev_ret rfl rfl
theorem vc_MD_readTape_38 {q : Nat × (Nat → Int32)} {S S' : ms} {r : Option Value} (x1 x2 x3 x4 : Int)
    (F : ((512 ≤ w32 x4) → ((w32 x2 = 0) → ∃ (z3 : Int) (S1 : ms), EV q 394 0 [some (.ref 367), some (vI (x1 + 148)), some (vI 8), none, none, none, none, none] [] S (some (vL z3)) S1 ∧ ∃ (z6 : Int) (S4 : ms), EV q 394 0 [some (.ref 367), some (vI (x1 + 100)), some (vI 8), none, none, none, none, none] [] S1 (some (vL z6)) S4 ∧ ∃ (z9 : Int) (S7 : ms), EV q 394 0 [some (.ref 367), some (vI (x1 + 124)), some (vI 12), none, none, none, none, none] [] S4 (some (vL z9)) S7 ∧ ∃ (z12 : Int) (S10 : ms), EV q 394 0 [some (.ref 367), some (vI (x1 + 136)), some (vI 12), none, none, none, none, none] [] S7 (some (vL z12)) S10 ∧ (0 ≤ w32 (x1 + 345) ∧ w32 (x1 + 345) < (6000 : Nat)) ∧ ((w32 (S10.1 368 (w32 (x1 + 345))) = 0) → EV q 393 193 [some (.ref 367), some (vI x1), some (vI x2), some (vI x3), some (vL z3), none, some (vL z6), none, some (vL z9), none, some (vL z12), none, none, none, none, none, none, none] [vI 0] S10 r S') ∧ ((¬ w32 (S10.1 368 (w32 (x1 + 345))) = 0) → ∃ (z16 : Int) (S14 : ms), EV q 395 0 [some (.ref 367), some (vI (x1 + 345)), some (vI 155), none] [] S10 (some (vI z16)) S14 ∧ EV q 393 193 [some (.ref 367), some (vI x1), some (vI x2), some (vI x3), some (vL z3), none, some (vL z6), none, some (vL z9), none, some (vL z12), none, none, none, none, none, none, none] [vI z16] S14 r S')) ∧ ((¬ w32 x2 = 0) → r = none ∧ S' = S)) ∧ ((¬ 512 ≤ w32 x4) → ((w32 x2 = 0) → EV q 393 66 [some (.ref 367), some (vI x1), some (vI x2), some (vI x3), some (vI x4), none, none, none, none, none, none, none, none, none, none, none, none, none] [] S r S') ∧ ((¬ w32 x2 = 0) → (0 ≤ w32 (x1 + x4) ∧ w32 (x1 + x4) < (6000 : Nat)) ∧ ((¬ w32 (S.1 368 (w32 (x1 + x4))) = 0) → EV q 393 66 [some (.ref 367), some (vI x1), some (vI x2), some (vI x3), some (vI x4), none, none, none, none, none, none, none, none, none, none, none, none, none] [] S r S') ∧ ((¬ (¬ w32 (S.1 368 (w32 (x1 + x4))) = 0)) → EV q 393 67 [some (.ref 367), some (vI x1), some (vI x2), some (vI x3), some (vI x4), none, none, none, none, none, none, none, none, none, none, none, none, none] [vI 1] S r S')))) : EV q 393 38 [some (.ref 367), some (vI x1), some (vI x2), some (vI x3), some (vI x4), none, none, none, none, none, none, none, none, none, none, none, none, none] [] S r S' := by
  unfold EV
  refine ev_bk 2 (S' := (43, [some (.ref 367), some (vI x1), some (vI x2), some (vI x3), some (vI x4), none, none, none, none, none, none, none, none, none, none, none, none, none], [vI 512, vI x4], hp S, 0, 0)) rfl ?_
  refine mv_icmp 109 rfl rfl (fun c => ?_) (fun c => ?_)
  · have F := F.1 c
    refine ev_bk 1 (S' := (110, [some (.ref 367), some (vI x1), some (vI x2), some (vI x3), some (vI x4), none, none, none, none, none, none, none, none, none, none, none, none, none], [vI x2], hp S, 0, 0)) rfl ?_
    refine mv_if 114 rfl rfl (fun c => ?_) (fun c => ?_)
    · have F := F.1 c
      refine ev_bk 3 (S' := (119, [some (.ref 367), some (vI x1), some (vI x2), some (vI x3), some (vI x4), none, none, none, none, none, none, none, none, none, none, none, none, none], [vI 148, vI x1, .ref 367], hp S, 0, 0)) rfl ?_
      refine mv_iadd rfl ?_
      refine ev_bk 1 (S' := (122, [some (.ref 367), some (vI x1), some (vI x2), some (vI x3), some (vI x4), none, none, none, none, none, none, none, none, none, none, none, none, none], [vI 8, vI (x1 + 148), .ref 367], hp S, 0, 0)) rfl ?_
      obtain ⟨z3, S1, e2, F⟩ := F
      refine mv_calv (as := [vI (x1 + 148), vI 8]) (rest := []) e2 (sh_367) rfl rfl rfl ⟨rfl, rfl⟩ rfl rfl rfl rfl rfl ?_
      refine ev_bk 4 (S' := (131, [some (.ref 367), some (vI x1), some (vI x2), some (vI x3), some (vL z3), none, none, none, none, none, none, none, none, none, none, none, none, none], [vI 100, vI x1, .ref 367], hp S1, 0, 0)) rfl ?_
      refine mv_iadd rfl ?_
      refine ev_bk 1 (S' := (134, [some (.ref 367), some (vI x1), some (vI x2), some (vI x3), some (vL z3), none, none, none, none, none, none, none, none, none, none, none, none, none], [vI 8, vI (x1 + 100), .ref 367], hp S1, 0, 0)) rfl ?_
      obtain ⟨z6, S4, e5, F⟩ := F
      refine mv_calv (as := [vI (x1 + 100), vI 8]) (rest := []) e5 (sh_367) rfl rfl rfl ⟨rfl, rfl⟩ rfl rfl rfl rfl rfl ?_
      refine ev_bk 4 (S' := (143, [some (.ref 367), some (vI x1), some (vI x2), some (vI x3), some (vL z3), none, some (vL z6), none, none, none, none, none, none, none, none, none, none, none], [vI 124, vI x1, .ref 367], hp S4, 0, 0)) rfl ?_
      refine mv_iadd rfl ?_
      refine ev_bk 1 (S' := (146, [some (.ref 367), some (vI x1), some (vI x2), some (vI x3), some (vL z3), none, some (vL z6), none, none, none, none, none, none, none, none, none, none, none], [vI 12, vI (x1 + 124), .ref 367], hp S4, 0, 0)) rfl ?_
      obtain ⟨z9, S7, e8, F⟩ := F
      refine mv_calv (as := [vI (x1 + 124), vI 12]) (rest := []) e8 (sh_367) rfl rfl rfl ⟨rfl, rfl⟩ rfl rfl rfl rfl rfl ?_
      refine ev_bk 4 (S' := (156, [some (.ref 367), some (vI x1), some (vI x2), some (vI x3), some (vL z3), none, some (vL z6), none, some (vL z9), none, none, none, none, none, none, none, none, none], [vI 136, vI x1, .ref 367], hp S7, 0, 0)) rfl ?_
      refine mv_iadd rfl ?_
      refine ev_bk 1 (S' := (159, [some (.ref 367), some (vI x1), some (vI x2), some (vI x3), some (vL z3), none, some (vL z6), none, some (vL z9), none, none, none, none, none, none, none, none, none], [vI 12, vI (x1 + 136), .ref 367], hp S7, 0, 0)) rfl ?_
      obtain ⟨z12, S10, e11, F⟩ := F
      refine mv_calv (as := [vI (x1 + 136), vI 12]) (rest := []) e11 (sh_367) rfl rfl rfl ⟨rfl, rfl⟩ rfl rfl rfl rfl rfl ?_
      refine ev_bk 2 (S' := (165, [some (.ref 367), some (vI x1), some (vI x2), some (vI x3), some (vL z3), none, some (vL z6), none, some (vL z9), none, some (vL z12), none, none, none, none, none, none, none], [.ref 367], hp S10, 0, 0)) rfl ?_
      refine mv_gfR rfl rfl (sh_367) (by decide) rfl ?_
      refine ev_bk 2 (S' := (172, [some (.ref 367), some (vI x1), some (vI x2), some (vI x3), some (vL z3), none, some (vL z6), none, some (vL z9), none, some (vL z12), none, none, none, none, none, none, none], [vI 345, vI x1, .ref 368], hp S10, 0, 0)) rfl ?_
      refine mv_iadd rfl ?_
      obtain ⟨b13, F⟩ := F
      refine mv_bal rfl (sh_368) b13 ?_
      refine mv_if 192 rfl rfl (fun c => ?_) (fun c => ?_)
      · have F := F.1 c
        refine ev_bk 1 (S' := (193, [some (.ref 367), some (vI x1), some (vI x2), some (vI x3), some (vL z3), none, some (vL z6), none, some (vL z9), none, some (vL z12), none, none, none, none, none, none, none], [vI 0], hp S10, 0, 0)) rfl ?_
        exact F
      · have F := F.2 c
        refine ev_bk 3 (S' := (182, [some (.ref 367), some (vI x1), some (vI x2), some (vI x3), some (vL z3), none, some (vL z6), none, some (vL z9), none, some (vL z12), none, none, none, none, none, none, none], [vI 345, vI x1, .ref 367], hp S10, 0, 0)) rfl ?_
        refine mv_iadd rfl ?_
        refine ev_bk 1 (S' := (186, [some (.ref 367), some (vI x1), some (vI x2), some (vI x3), some (vL z3), none, some (vL z6), none, some (vL z9), none, some (vL z12), none, none, none, none, none, none, none], [vI 155, vI (x1 + 345), .ref 367], hp S10, 0, 0)) rfl ?_
        obtain ⟨z16, S14, e15, F⟩ := F
        refine mv_calv (as := [vI (x1 + 345), vI 155]) (rest := []) e15 (sh_367) rfl rfl rfl ⟨rfl, rfl⟩ rfl rfl rfl rfl rfl ?_
        refine mv_goto 193 rfl rfl ?_
        exact F
    · have F := F.2 c
      obtain ⟨rfl, rfl⟩ := F
      exact ev_ret rfl rfl
  · have F := F.2 c
    refine ev_bk 1 (S' := (47, [some (.ref 367), some (vI x1), some (vI x2), some (vI x3), some (vI x4), none, none, none, none, none, none, none, none, none, none, none, none, none], [vI x2], hp S, 0, 0)) rfl ?_
    refine mv_if 66 rfl rfl (fun c => ?_) (fun c => ?_)
    · have F := F.1 c
      exact F
    · have F := F.2 c
      refine ev_bk 1 (S' := (51, [some (.ref 367), some (vI x1), some (vI x2), some (vI x3), some (vI x4), none, none, none, none, none, none, none, none, none, none, none, none, none], [.ref 367], hp S, 0, 0)) rfl ?_
      refine mv_gfR rfl rfl (sh_367) (by decide) rfl ?_
      refine ev_bk 2 (S' := (57, [some (.ref 367), some (vI x1), some (vI x2), some (vI x3), some (vI x4), none, none, none, none, none, none, none, none, none, none, none, none, none], [vI x4, vI x1, .ref 368], hp S, 0, 0)) rfl ?_
      refine mv_iadd rfl ?_
      obtain ⟨b17, F⟩ := F
      refine mv_bal rfl (sh_368) b17 ?_
      refine mv_if 66 rfl rfl (fun c => ?_) (fun c => ?_)
      · have F := F.1 c
        exact F
      · have F := F.2 c
        refine ev_bk 1 (S' := (63, [some (.ref 367), some (vI x1), some (vI x2), some (vI x3), some (vI x4), none, none, none, none, none, none, none, none, none, none, none, none, none], [vI 1], hp S, 0, 0)) rfl ?_
        refine mv_goto 67 rfl rfl ?_
        exact F
theorem vc_MD_readTape_66 {q : Nat × (Nat → Int32)} {S S' : ms} {r : Option Value} (x1 x2 x3 x4 : Int)
    (F : EV q 393 67 [some (.ref 367), some (vI x1), some (vI x2), some (vI x3), some (vI x4), none, none, none, none, none, none, none, none, none, none, none, none, none] [vI 0] S r S') : EV q 393 66 [some (.ref 367), some (vI x1), some (vI x2), some (vI x3), some (vI x4), none, none, none, none, none, none, none, none, none, none, none, none, none] [] S r S' := by
  unfold EV
  refine ev_bk 1 (S' := (67, [some (.ref 367), some (vI x1), some (vI x2), some (vI x3), some (vI x4), none, none, none, none, none, none, none, none, none, none, none, none, none], [vI 0], hp S, 0, 0)) rfl ?_
  exact F
theorem vc_MD_readTape_67 {q : Nat × (Nat → Int32)} {S S' : ms} {r : Option Value} (x1 x2 x3 x4 y0 : Int)
    (F : ∃ (z3 : Int) (S1 : ms), EV q 257 0 [some (vI x4), some (vI 148), some (vI 155)] [] S (some (vI z3)) S1 ∧ ((w32 z3 = 0) → (0 ≤ w32 (x1 + x4) ∧ w32 (x1 + x4) < (6000 : Nat)) ∧ EV q 393 101 [some (.ref 367), some (vI x1), some (vI y0), some (vI x3), some (vI x4), none, none, none, none, none, none, none, none, none, none, none, none, none] [vI ((S1.1 368 (w32 (x1 + x4))) % 256), vI x3] S1 r S') ∧ ((¬ w32 z3 = 0) → EV q 393 101 [some (.ref 367), some (vI x1), some (vI y0), some (vI x3), some (vI x4), none, none, none, none, none, none, none, none, none, none, none, none, none] [vI 32, vI x3] S1 r S')) : EV q 393 67 [some (.ref 367), some (vI x1), some (vI x2), some (vI x3), some (vI x4), none, none, none, none, none, none, none, none, none, none, none, none, none] [vI y0] S r S' := by
  unfold EV
  refine ev_bk 5 (S' := (77, [some (.ref 367), some (vI x1), some (vI y0), some (vI x3), some (vI x4), none, none, none, none, none, none, none, none, none, none, none, none, none], [vI 155, vI 148, vI x4, vI x3], hp S, 0, 0)) rfl ?_
  obtain ⟨z3, S1, e2, F⟩ := F
  refine mv_cals (as := [vI x4, vI 148, vI 155]) (rest := [vI x3]) e2 rfl rfl rfl ⟨rfl, rfl, rfl⟩ rfl rfl rfl rfl ?_
  refine mv_if 88 rfl rfl (fun c => ?_) (fun c => ?_)
  · have F := F.1 c
    refine ev_bk 1 (S' := (89, [some (.ref 367), some (vI x1), some (vI y0), some (vI x3), some (vI x4), none, none, none, none, none, none, none, none, none, none, none, none, none], [.ref 367, vI x3], hp S1, 0, 0)) rfl ?_
    refine mv_gfR rfl rfl (sh_367) (by decide) rfl ?_
    refine ev_bk 2 (S' := (95, [some (.ref 367), some (vI x1), some (vI y0), some (vI x3), some (vI x4), none, none, none, none, none, none, none, none, none, none, none, none, none], [vI x4, vI x1, .ref 368, vI x3], hp S1, 0, 0)) rfl ?_
    refine mv_iadd rfl ?_
    obtain ⟨b4, F⟩ := F
    refine mv_bal rfl (sh_368) b4 ?_
    refine ev_bk 1 (S' := (100, [some (.ref 367), some (vI x1), some (vI y0), some (vI x3), some (vI x4), none, none, none, none, none, none, none, none, none, none, none, none, none], [vI 255, vI (S1.1 368 (w32 (x1 + x4))), vI x3], hp S1, 0, 0)) rfl ?_
    refine mv_iandm 256 8 (by decide) rfl rfl rfl ?_
    exact F
  · have F := F.2 c
    refine ev_bk 1 (S' := (85, [some (.ref 367), some (vI x1), some (vI y0), some (vI x3), some (vI x4), none, none, none, none, none, none, none, none, none, none, none, none, none], [vI 32, vI x3], hp S1, 0, 0)) rfl ?_
    refine mv_goto 101 rfl rfl ?_
    exact F
theorem vc_MD_readTape_101 {q : Nat × (Nat → Int32)} {S S' : ms} {r : Option Value} (x1 x2 x3 x4 y0 y1 : Int)
    (F : EV q 393 38 [some (.ref 367), some (vI x1), some (vI x2), some (vI (y1 + y0)), some (vI (x4 + 1)), none, none, none, none, none, none, none, none, none, none, none, none, none] [] S r S') : EV q 393 101 [some (.ref 367), some (vI x1), some (vI x2), some (vI x3), some (vI x4), none, none, none, none, none, none, none, none, none, none, none, none, none] [vI y0, vI y1] S r S' := by
  unfold EV
  refine mv_iadd rfl ?_
  refine ev_bk 1 (S' := (103, [some (.ref 367), some (vI x1), some (vI x2), some (vI (y1 + y0)), some (vI x4), none, none, none, none, none, none, none, none, none, none, none, none, none], [], hp S, 0, 0)) rfl ?_
  refine mv_inc (lv' := [some (.ref 367), some (vI x1), some (vI x2), some (vI (y1 + y0)), some (vI (x4 + 1)), none, none, none, none, none, none, none, none, none, none, none, none, none]) 4 1 rfl rfl rfl rfl ?_
  refine mv_goto 38 rfl rfl ?_
  exact F
theorem vc_MD_readTape_193 {q : Nat × (Nat → Int32)} {S S' : ms} {r : Option Value} (x1 x2 x3 x4 x6 x8 x10 y0 : Int)
    (F : ∃ (z3 : Int) (S1 : ms), EV q 395 0 [some (.ref 367), some (vI x1), some (vI 100), none] [] S (some (vI z3)) S1 ∧ (0 ≤ w32 (x1 + 345) ∧ w32 (x1 + 345) < (6000 : Nat)) ∧ ((w32 (S1.1 368 (w32 (x1 + 345))) = 0) → EV q 393 222 [some (.ref 367), some (vI x1), some (vI x2), some (vI x3), some (vL x4), none, some (vL x6), none, some (vL x8), none, some (vL x10), none, some (vI y0), some (vI z3), none, none, none, none] [vI 0] S1 r S') ∧ ((¬ w32 (S1.1 368 (w32 (x1 + 345))) = 0) → EV q 393 222 [some (.ref 367), some (vI x1), some (vI x2), some (vI x3), some (vL x4), none, some (vL x6), none, some (vL x8), none, some (vL x10), none, some (vI y0), some (vI z3), none, none, none, none] [vI 1] S1 r S')) : EV q 393 193 [some (.ref 367), some (vI x1), some (vI x2), some (vI x3), some (vL x4), none, some (vL x6), none, some (vL x8), none, some (vL x10), none, none, none, none, none, none, none] [vI y0] S r S' := by
  unfold EV
  refine ev_bk 4 (S' := (199, [some (.ref 367), some (vI x1), some (vI x2), some (vI x3), some (vL x4), none, some (vL x6), none, some (vL x8), none, some (vL x10), none, some (vI y0), none, none, none, none, none], [vI 100, vI x1, .ref 367], hp S, 0, 0)) rfl ?_
  obtain ⟨z3, S1, e2, F⟩ := F
  refine mv_calv (as := [vI x1, vI 100]) (rest := []) e2 (sh_367) rfl rfl rfl ⟨rfl, rfl⟩ rfl rfl rfl rfl rfl ?_
  refine ev_bk 2 (S' := (205, [some (.ref 367), some (vI x1), some (vI x2), some (vI x3), some (vL x4), none, some (vL x6), none, some (vL x8), none, some (vL x10), none, some (vI y0), some (vI z3), none, none, none, none], [.ref 367], hp S1, 0, 0)) rfl ?_
  refine mv_gfR rfl rfl (sh_367) (by decide) rfl ?_
  refine ev_bk 2 (S' := (212, [some (.ref 367), some (vI x1), some (vI x2), some (vI x3), some (vL x4), none, some (vL x6), none, some (vL x8), none, some (vL x10), none, some (vI y0), some (vI z3), none, none, none, none], [vI 345, vI x1, .ref 368], hp S1, 0, 0)) rfl ?_
  refine mv_iadd rfl ?_
  obtain ⟨b4, F⟩ := F
  refine mv_bal rfl (sh_368) b4 ?_
  refine mv_if 221 rfl rfl (fun c => ?_) (fun c => ?_)
  · have F := F.1 c
    refine ev_bk 1 (S' := (222, [some (.ref 367), some (vI x1), some (vI x2), some (vI x3), some (vL x4), none, some (vL x6), none, some (vL x8), none, some (vL x10), none, some (vI y0), some (vI z3), none, none, none, none], [vI 0], hp S1, 0, 0)) rfl ?_
    exact F
  · have F := F.2 c
    refine ev_bk 1 (S' := (218, [some (.ref 367), some (vI x1), some (vI x2), some (vI x3), some (vL x4), none, some (vL x6), none, some (vL x8), none, some (vL x10), none, some (vI y0), some (vI z3), none, none, none, none], [vI 1], hp S1, 0, 0)) rfl ?_
    refine mv_goto 222 rfl rfl ?_
    exact F
theorem vc_MD_readTape_222 {q : Nat × (Nat → Int32)} {S S' : ms} {r : Option Value} (x1 x2 x3 x4 x6 x8 x10 x12 x13 y0 : Int)
    (F : ((w32 y0 = 0) → EV q 393 239 [some (.ref 367), some (vI x1), some (vI x2), some (vI x3), some (vL x4), none, some (vL x6), none, some (vL x8), none, some (vL x10), none, some (vI x12), some (vI x13), some (vI y0), none, none, none] [vI 0, vI x13] S r S') ∧ ((¬ w32 y0 = 0) → EV q 393 239 [some (.ref 367), some (vI x1), some (vI x2), some (vI x3), some (vL x4), none, some (vL x6), none, some (vL x8), none, some (vL x10), none, some (vI x12), some (vI x13), some (vI y0), none, none, none] [vI (x12 + 1), vI x13] S r S')) : EV q 393 222 [some (.ref 367), some (vI x1), some (vI x2), some (vI x3), some (vL x4), none, some (vL x6), none, some (vL x8), none, some (vL x10), none, some (vI x12), some (vI x13), none, none, none, none] [vI y0] S r S' := by
  unfold EV
  refine ev_bk 3 (S' := (228, [some (.ref 367), some (vI x1), some (vI x2), some (vI x3), some (vL x4), none, some (vL x6), none, some (vL x8), none, some (vL x10), none, some (vI x12), some (vI x13), some (vI y0), none, none, none], [vI y0, vI x13], hp S, 0, 0)) rfl ?_
  refine mv_if 238 rfl rfl (fun c => ?_) (fun c => ?_)
  · have F := F.1 c
    refine ev_bk 1 (S' := (239, [some (.ref 367), some (vI x1), some (vI x2), some (vI x3), some (vL x4), none, some (vL x6), none, some (vL x8), none, some (vL x10), none, some (vI x12), some (vI x13), some (vI y0), none, none, none], [vI 0, vI x13], hp S, 0, 0)) rfl ?_
    exact F
  · have F := F.2 c
    refine ev_bk 2 (S' := (234, [some (.ref 367), some (vI x1), some (vI x2), some (vI x3), some (vL x4), none, some (vL x6), none, some (vL x8), none, some (vL x10), none, some (vI x12), some (vI x13), some (vI y0), none, none, none], [vI 1, vI x12, vI x13], hp S, 0, 0)) rfl ?_
    refine mv_iadd rfl ?_
    refine mv_goto 239 rfl rfl ?_
    exact F
theorem vc_MD_readTape_239 {q : Nat × (Nat → Int32)} {S S' : ms} {r : Option Value} (x1 x2 x3 x4 x6 x8 x10 x12 x13 x14 y0 y1 : Int)
    (F : ((w64 0 ≤ w64 x4) → ((w64 x4 = w64 (w32 x3)) → ((w64 x6 < w64 0) → EV q 393 297 [some (.ref 367), some (vI x1), some (vI x2), some (vI x3), some (vL x4), none, some (vL x6), none, some (vL x8), none, some (vL x10), none, some (vI x12), some (vI x13), some (vI x14), some (vI (y1 + y0)), none, none] [] S r S') ∧ ((¬ w64 x6 < w64 0) → ((w64 x8 < w64 0) → EV q 393 297 [some (.ref 367), some (vI x1), some (vI x2), some (vI x3), some (vL x4), none, some (vL x6), none, some (vL x8), none, some (vL x10), none, some (vI x12), some (vI x13), some (vI x14), some (vI (y1 + y0)), none, none] [] S r S') ∧ ((¬ w64 x8 < w64 0) → ((w64 x10 < w64 0) → EV q 393 297 [some (.ref 367), some (vI x1), some (vI x2), some (vI x3), some (vL x4), none, some (vL x6), none, some (vL x8), none, some (vL x10), none, some (vI x12), some (vI x13), some (vI x14), some (vI (y1 + y0)), none, none] [] S r S') ∧ ((¬ w64 x10 < w64 0) → ((w64 x10 ≤ w64 2147483647) → (0 ≤ w32 (x1 + 156) ∧ w32 (x1 + 156) < (6000 : Nat)) ∧ ((w32 (S.1 368 (w32 (x1 + 156))) = 48) → ((w32 x13 = 0) → EV q 393 334 [some (.ref 367), some (vI x1), some (vI x2), some (vI x3), some (vL x4), none, some (vL x6), none, some (vL x8), none, some (vL x10), none, some (vI x12), some (vI x13), some (vI x14), some (vI (y1 + y0)), none, none] [] S r S') ∧ ((¬ w32 x13 = 0) → ((w32 (y1 + y0) ≤ 100) → ((w32 (S.1 367 95) = 16) → EV q 393 357 [some (.ref 367), some (vI x1), some (vI x2), some (vI x3), some (vL x4), none, some (vL x6), none, some (vL x8), none, some (vL x10), none, some (vI x12), some (vI x13), some (vI x14), some (vI (y1 + y0)), none, none] [] S r S') ∧ ((¬ w32 (S.1 367 95) = 16) → ((w64 x8 ≤ w64 6000) → EV q 393 363 [some (.ref 367), some (vI x1), some (vI x2), some (vI x3), some (vL x4), none, some (vL x6), none, some (vL x8), none, some (vL x10), none, some (vI x12), some (vI x13), some (vI x14), some (vI (y1 + y0)), none, none] [vI 0] S r S') ∧ ((¬ w64 x8 ≤ w64 6000) → EV q 393 357 [some (.ref 367), some (vI x1), some (vI x2), some (vI x3), some (vL x4), none, some (vL x6), none, some (vL x8), none, some (vL x10), none, some (vI x12), some (vI x13), some (vI x14), some (vI (y1 + y0)), none, none] [] S r S'))) ∧ ((¬ w32 (y1 + y0) ≤ 100) → EV q 393 334 [some (.ref 367), some (vI x1), some (vI x2), some (vI x3), some (vL x4), none, some (vL x6), none, some (vL x8), none, some (vL x10), none, some (vI x12), some (vI x13), some (vI x14), some (vI (y1 + y0)), none, none] [] S r S'))) ∧ ((¬ w32 (S.1 368 (w32 (x1 + 156))) = 48) → EV q 393 363 [some (.ref 367), some (vI x1), some (vI x2), some (vI x3), some (vL x4), none, some (vL x6), none, some (vL x8), none, some (vL x10), none, some (vI x12), some (vI x13), some (vI x14), some (vI (y1 + y0)), none, none] [vI 102] S r S')) ∧ ((¬ w64 x10 ≤ w64 2147483647) → EV q 393 297 [some (.ref 367), some (vI x1), some (vI x2), some (vI x3), some (vL x4), none, some (vL x6), none, some (vL x8), none, some (vL x10), none, some (vI x12), some (vI x13), some (vI x14), some (vI (y1 + y0)), none, none] [] S r S'))))) ∧ ((¬ w64 x4 = w64 (w32 x3)) → EV q 393 363 [some (.ref 367), some (vI x1), some (vI x2), some (vI x3), some (vL x4), none, some (vL x6), none, some (vL x8), none, some (vL x10), none, some (vI x12), some (vI x13), some (vI x14), some (vI (y1 + y0)), none, none] [vI 100] S r S')) ∧ ((¬ w64 0 ≤ w64 x4) → EV q 393 363 [some (.ref 367), some (vI x1), some (vI x2), some (vI x3), some (vL x4), none, some (vL x6), none, some (vL x8), none, some (vL x10), none, some (vI x12), some (vI x13), some (vI x14), some (vI (y1 + y0)), none, none] [vI 101] S r S')) : EV q 393 239 [some (.ref 367), some (vI x1), some (vI x2), some (vI x3), some (vL x4), none, some (vL x6), none, some (vL x8), none, some (vL x10), none, some (vI x12), some (vI x13), some (vI x14), none, none, none] [vI y0, vI y1] S r S' := by
  unfold EV
  refine mv_iadd rfl ?_
  refine ev_bk 3 (S' := (245, [some (.ref 367), some (vI x1), some (vI x2), some (vI x3), some (vL x4), none, some (vL x6), none, some (vL x8), none, some (vL x10), none, some (vI x12), some (vI x13), some (vI x14), some (vI (y1 + y0)), none, none], [vL 0, vL x4], hp S, 0, 0)) rfl ?_
  refine mv_lif 254 rfl rfl rfl (fun c => ?_) (fun c => ?_)
  · have F := F.1 c
    refine ev_bk 2 (S' := (257, [some (.ref 367), some (vI x1), some (vI x2), some (vI x3), some (vL x4), none, some (vL x6), none, some (vL x8), none, some (vL x10), none, some (vI x12), some (vI x13), some (vI x14), some (vI (y1 + y0)), none, none], [vI x3, vL x4], hp S, 0, 0)) rfl ?_
    refine mv_i2l rfl ?_
    refine mv_lif 267 rfl rfl rfl (fun c => ?_) (fun c => ?_)
    · have F := F.1 c
      refine ev_bk 2 (S' := (270, [some (.ref 367), some (vI x1), some (vI x2), some (vI x3), some (vL x4), none, some (vL x6), none, some (vL x8), none, some (vL x10), none, some (vI x12), some (vI x13), some (vI x14), some (vI (y1 + y0)), none, none], [vL 0, vL x6], hp S, 0, 0)) rfl ?_
      refine mv_lif 297 rfl rfl rfl (fun c => ?_) (fun c => ?_)
      · have F := F.1 c
        exact F
      · have F := F.2 c
        refine ev_bk 2 (S' := (277, [some (.ref 367), some (vI x1), some (vI x2), some (vI x3), some (vL x4), none, some (vL x6), none, some (vL x8), none, some (vL x10), none, some (vI x12), some (vI x13), some (vI x14), some (vI (y1 + y0)), none, none], [vL 0, vL x8], hp S, 0, 0)) rfl ?_
        refine mv_lif 297 rfl rfl rfl (fun c => ?_) (fun c => ?_)
        · have F := F.1 c
          exact F
        · have F := F.2 c
          refine ev_bk 2 (S' := (284, [some (.ref 367), some (vI x1), some (vI x2), some (vI x3), some (vL x4), none, some (vL x6), none, some (vL x8), none, some (vL x10), none, some (vI x12), some (vI x13), some (vI x14), some (vI (y1 + y0)), none, none], [vL 0, vL x10], hp S, 0, 0)) rfl ?_
          refine mv_lif 297 rfl rfl rfl (fun c => ?_) (fun c => ?_)
          · have F := F.1 c
            exact F
          · have F := F.2 c
            refine ev_bk 2 (S' := (293, [some (.ref 367), some (vI x1), some (vI x2), some (vI x3), some (vL x4), none, some (vL x6), none, some (vL x8), none, some (vL x10), none, some (vI x12), some (vI x13), some (vI x14), some (vI (y1 + y0)), none, none], [vL 2147483647, vL x10], hp S, 0, 0)) rfl ?_
            refine mv_lif 302 rfl rfl rfl (fun c => ?_) (fun c => ?_)
            · have F := F.1 c
              refine ev_bk 1 (S' := (303, [some (.ref 367), some (vI x1), some (vI x2), some (vI x3), some (vL x4), none, some (vL x6), none, some (vL x8), none, some (vL x10), none, some (vI x12), some (vI x13), some (vI x14), some (vI (y1 + y0)), none, none], [.ref 367], hp S, 0, 0)) rfl ?_
              refine mv_gfR rfl rfl (sh_367) (by decide) rfl ?_
              refine ev_bk 2 (S' := (310, [some (.ref 367), some (vI x1), some (vI x2), some (vI x3), some (vL x4), none, some (vL x6), none, some (vL x8), none, some (vL x10), none, some (vI x12), some (vI x13), some (vI x14), some (vI (y1 + y0)), none, none], [vI 156, vI x1, .ref 368], hp S, 0, 0)) rfl ?_
              refine mv_iadd rfl ?_
              obtain ⟨b1, F⟩ := F
              refine mv_bal rfl (sh_368) b1 ?_
              refine ev_bk 1 (S' := (314, [some (.ref 367), some (vI x1), some (vI x2), some (vI x3), some (vL x4), none, some (vL x6), none, some (vL x8), none, some (vL x10), none, some (vI x12), some (vI x13), some (vI x14), some (vI (y1 + y0)), none, none], [vI 48, vI (S.1 368 (w32 (x1 + 156)))], hp S, 0, 0)) rfl ?_
              refine mv_icmp 322 rfl rfl (fun c => ?_) (fun c => ?_)
              · have F := F.1 c
                refine ev_bk 1 (S' := (324, [some (.ref 367), some (vI x1), some (vI x2), some (vI x3), some (vL x4), none, some (vL x6), none, some (vL x8), none, some (vL x10), none, some (vI x12), some (vI x13), some (vI x14), some (vI (y1 + y0)), none, none], [vI x13], hp S, 0, 0)) rfl ?_
                refine mv_if 334 rfl rfl (fun c => ?_) (fun c => ?_)
                · have F := F.1 c
                  exact F
                · have F := F.2 c
                  refine ev_bk 2 (S' := (331, [some (.ref 367), some (vI x1), some (vI x2), some (vI x3), some (vL x4), none, some (vL x6), none, some (vL x8), none, some (vL x10), none, some (vI x12), some (vI x13), some (vI x14), some (vI (y1 + y0)), none, none], [vI 100, vI (y1 + y0)], hp S, 0, 0)) rfl ?_
                  refine mv_icmp 339 rfl rfl (fun c => ?_) (fun c => ?_)
                  · have F := F.1 c
                    refine ev_bk 1 (S' := (340, [some (.ref 367), some (vI x1), some (vI x2), some (vI x3), some (vL x4), none, some (vL x6), none, some (vL x8), none, some (vL x10), none, some (vI x12), some (vI x13), some (vI x14), some (vI (y1 + y0)), none, none], [.ref 367], hp S, 0, 0)) rfl ?_
                    refine mv_gfI rfl rfl (sh_367) (by decide) rfl ?_
                    refine ev_bk 1 (S' := (345, [some (.ref 367), some (vI x1), some (vI x2), some (vI x3), some (vL x4), none, some (vL x6), none, some (vL x8), none, some (vL x10), none, some (vI x12), some (vI x13), some (vI x14), some (vI (y1 + y0)), none, none], [vI 16, vI (S.1 367 95)], hp S, 0, 0)) rfl ?_
                    refine mv_icmp 357 rfl rfl (fun c => ?_) (fun c => ?_)
                    · have F := F.1 c
                      exact F
                    · have F := F.2 c
                      refine ev_bk 2 (S' := (353, [some (.ref 367), some (vI x1), some (vI x2), some (vI x3), some (vL x4), none, some (vL x6), none, some (vL x8), none, some (vL x10), none, some (vI x12), some (vI x13), some (vI x14), some (vI (y1 + y0)), none, none], [vL 6000, vL x8], hp S, 0, 0)) rfl ?_
                      refine mv_lif 362 rfl rfl rfl (fun c => ?_) (fun c => ?_)
                      · have F := F.1 c
                        refine ev_bk 1 (S' := (363, [some (.ref 367), some (vI x1), some (vI x2), some (vI x3), some (vL x4), none, some (vL x6), none, some (vL x8), none, some (vL x10), none, some (vI x12), some (vI x13), some (vI x14), some (vI (y1 + y0)), none, none], [vI 0], hp S, 0, 0)) rfl ?_
                        exact F
                      · have F := F.2 c
                        exact F
                  · have F := F.2 c
                    exact F
              · have F := F.2 c
                refine ev_bk 1 (S' := (319, [some (.ref 367), some (vI x1), some (vI x2), some (vI x3), some (vL x4), none, some (vL x6), none, some (vL x8), none, some (vL x10), none, some (vI x12), some (vI x13), some (vI x14), some (vI (y1 + y0)), none, none], [vI 102], hp S, 0, 0)) rfl ?_
                refine mv_goto 363 rfl rfl ?_
                exact F
            · have F := F.2 c
              exact F
    · have F := F.2 c
      refine ev_bk 1 (S' := (264, [some (.ref 367), some (vI x1), some (vI x2), some (vI x3), some (vL x4), none, some (vL x6), none, some (vL x8), none, some (vL x10), none, some (vI x12), some (vI x13), some (vI x14), some (vI (y1 + y0)), none, none], [vI 100], hp S, 0, 0)) rfl ?_
      refine mv_goto 363 rfl rfl ?_
      exact F
  · have F := F.2 c
    refine ev_bk 1 (S' := (251, [some (.ref 367), some (vI x1), some (vI x2), some (vI x3), some (vL x4), none, some (vL x6), none, some (vL x8), none, some (vL x10), none, some (vI x12), some (vI x13), some (vI x14), some (vI (y1 + y0)), none, none], [vI 101], hp S, 0, 0)) rfl ?_
    refine mv_goto 363 rfl rfl ?_
    exact F
theorem vc_MD_readTape_297 {q : Nat × (Nat → Int32)} {S S' : ms} {r : Option Value} (x1 x2 x3 x4 x6 x8 x10 x12 x13 x14 x15 : Int)
    (F : EV q 393 363 [some (.ref 367), some (vI x1), some (vI x2), some (vI x3), some (vL x4), none, some (vL x6), none, some (vL x8), none, some (vL x10), none, some (vI x12), some (vI x13), some (vI x14), some (vI x15), none, none] [vI 101] S r S') : EV q 393 297 [some (.ref 367), some (vI x1), some (vI x2), some (vI x3), some (vL x4), none, some (vL x6), none, some (vL x8), none, some (vL x10), none, some (vI x12), some (vI x13), some (vI x14), some (vI x15), none, none] [] S r S' := by
  unfold EV
  refine ev_bk 1 (S' := (299, [some (.ref 367), some (vI x1), some (vI x2), some (vI x3), some (vL x4), none, some (vL x6), none, some (vL x8), none, some (vL x10), none, some (vI x12), some (vI x13), some (vI x14), some (vI x15), none, none], [vI 101], hp S, 0, 0)) rfl ?_
  refine mv_goto 363 rfl rfl ?_
  exact F
theorem vc_MD_readTape_334 {q : Nat × (Nat → Int32)} {S S' : ms} {r : Option Value} (x1 x2 x3 x4 x6 x8 x10 x12 x13 x14 x15 : Int)
    (F : EV q 393 363 [some (.ref 367), some (vI x1), some (vI x2), some (vI x3), some (vL x4), none, some (vL x6), none, some (vL x8), none, some (vL x10), none, some (vI x12), some (vI x13), some (vI x14), some (vI x15), none, none] [vI 103] S r S') : EV q 393 334 [some (.ref 367), some (vI x1), some (vI x2), some (vI x3), some (vL x4), none, some (vL x6), none, some (vL x8), none, some (vL x10), none, some (vI x12), some (vI x13), some (vI x14), some (vI x15), none, none] [] S r S' := by
  unfold EV
  refine ev_bk 1 (S' := (336, [some (.ref 367), some (vI x1), some (vI x2), some (vI x3), some (vL x4), none, some (vL x6), none, some (vL x8), none, some (vL x10), none, some (vI x12), some (vI x13), some (vI x14), some (vI x15), none, none], [vI 103], hp S, 0, 0)) rfl ?_
  refine mv_goto 363 rfl rfl ?_
  exact F
theorem vc_MD_readTape_357 {q : Nat × (Nat → Int32)} {S S' : ms} {r : Option Value} (x1 x2 x3 x4 x6 x8 x10 x12 x13 x14 x15 : Int)
    (F : EV q 393 363 [some (.ref 367), some (vI x1), some (vI x2), some (vI x3), some (vL x4), none, some (vL x6), none, some (vL x8), none, some (vL x10), none, some (vI x12), some (vI x13), some (vI x14), some (vI x15), none, none] [vI 104] S r S') : EV q 393 357 [some (.ref 367), some (vI x1), some (vI x2), some (vI x3), some (vL x4), none, some (vL x6), none, some (vL x8), none, some (vL x10), none, some (vI x12), some (vI x13), some (vI x14), some (vI x15), none, none] [] S r S' := by
  unfold EV
  refine ev_bk 1 (S' := (359, [some (.ref 367), some (vI x1), some (vI x2), some (vI x3), some (vL x4), none, some (vL x6), none, some (vL x8), none, some (vL x10), none, some (vI x12), some (vI x13), some (vI x14), some (vI x15), none, none], [vI 104], hp S, 0, 0)) rfl ?_
  refine mv_goto 363 rfl rfl ?_
  exact F
theorem vc_MD_readTape_363 {q : Nat × (Nat → Int32)} {S S' : ms} {r : Option Value} (x1 x2 x3 x4 x6 x8 x10 x12 x13 x14 x15 y0 : Int)
    (F : ((w32 y0 ≤ 0) → ((w64 x8 ≤ w64 (w32 (((S.1 367 2) - x1) - 512))) → (0 ≤ w32 (S.1 367 95) ∧ w32 (S.1 367 95) < (16 : Nat)) ∧ ∀ S2 : ms, S2 = wI S 426 (w32 (S.1 367 95)) 0 → ((w32 x14 = 0) → EV q 393 470 [some (.ref 367), some (vI x1), some (vI x2), some (vI x3), some (vL x4), none, some (vL x6), none, some (vL x8), none, some (vL x10), none, some (vI x12), some (vI x13), some (vI x14), some (vI x15), some (vI y0), none] [] S2 r S') ∧ ((¬ w32 x14 = 0) → ∃ (z5 : Int) (S3 : ms), EV q 396 0 [some (.ref 367), some (vI (x1 + 345)), some (vI x12), none] [] S2 (some (vI z5)) S3 ∧ (0 ≤ w32 (S3.1 367 95) ∧ w32 (S3.1 367 95) < (16 : Nat)) ∧ (0 ≤ w32 ((100 * (S3.1 367 95)) + (S3.1 426 (w32 (S3.1 367 95)))) ∧ w32 ((100 * (S3.1 367 95)) + (S3.1 426 (w32 (S3.1 367 95)))) < (1600 : Nat)) ∧ ∀ S8 : ms, S8 = wI S3 425 (w32 ((100 * (S3.1 367 95)) + (S3.1 426 (w32 (S3.1 367 95))))) (b8 47) → (0 ≤ w32 (S8.1 367 95) ∧ w32 (S8.1 367 95) < (16 : Nat)) ∧ (0 ≤ w32 (S8.1 367 95) ∧ w32 (S8.1 367 95) < (16 : Nat)) ∧ ∀ S11 : ms, S11 = wI S8 426 (w32 (S8.1 367 95)) ((S8.1 426 (w32 (S8.1 367 95))) + 1) → EV q 393 470 [some (.ref 367), some (vI x1), some (vI x2), some (vI x3), some (vL x4), none, some (vL x6), none, some (vL x8), none, some (vL x10), none, some (vI x12), some (vI x13), some (vI x14), some (vI x15), some (vI y0), none] [] S11 r S')) ∧ ((¬ w64 x8 ≤ w64 (w32 (((S.1 367 2) - x1) - 512))) → ∃ (S12 : ms), EV q 335 0 [some (.ref 367), some (vI 1), some (vI (S.1 367 2))] [] S none S12 ∧ r = none ∧ S' = S12)) ∧ ((¬ w32 y0 ≤ 0) → ∃ (S14 : ms), EV q 335 0 [some (.ref 367), some (vI y0), some (vI x1)] [] S none S14 ∧ r = none ∧ S' = S14)) : EV q 393 363 [some (.ref 367), some (vI x1), some (vI x2), some (vI x3), some (vL x4), none, some (vL x6), none, some (vL x8), none, some (vL x10), none, some (vI x12), some (vI x13), some (vI x14), some (vI x15), none, none] [vI y0] S r S' := by
  unfold EV
  refine ev_bk 2 (S' := (367, [some (.ref 367), some (vI x1), some (vI x2), some (vI x3), some (vL x4), none, some (vL x6), none, some (vL x8), none, some (vL x10), none, some (vI x12), some (vI x13), some (vI x14), some (vI x15), some (vI y0), none], [vI y0], hp S, 0, 0)) rfl ?_
  refine mv_if 378 rfl rfl (fun c => ?_) (fun c => ?_)
  · have F := F.1 c
    refine ev_bk 2 (S' := (381, [some (.ref 367), some (vI x1), some (vI x2), some (vI x3), some (vL x4), none, some (vL x6), none, some (vL x8), none, some (vL x10), none, some (vI x12), some (vI x13), some (vI x14), some (vI x15), some (vI y0), none], [.ref 367, vL x8], hp S, 0, 0)) rfl ?_
    refine mv_gfI rfl rfl (sh_367) (by decide) rfl ?_
    refine ev_bk 1 (S' := (385, [some (.ref 367), some (vI x1), some (vI x2), some (vI x3), some (vL x4), none, some (vL x6), none, some (vL x8), none, some (vL x10), none, some (vI x12), some (vI x13), some (vI x14), some (vI x15), some (vI y0), none], [vI x1, vI (S.1 367 2), vL x8], hp S, 0, 0)) rfl ?_
    refine mv_isub rfl ?_
    refine ev_bk 1 (S' := (389, [some (.ref 367), some (vI x1), some (vI x2), some (vI x3), some (vL x4), none, some (vL x6), none, some (vL x8), none, some (vL x10), none, some (vI x12), some (vI x13), some (vI x14), some (vI x15), some (vI y0), none], [vI 512, vI ((S.1 367 2) - x1), vL x8], hp S, 0, 0)) rfl ?_
    refine mv_isub rfl ?_
    refine mv_i2l rfl ?_
    refine mv_lif 405 rfl rfl rfl (fun c => ?_) (fun c => ?_)
    · have F := F.1 c
      refine ev_bk 1 (S' := (406, [some (.ref 367), some (vI x1), some (vI x2), some (vI x3), some (vL x4), none, some (vL x6), none, some (vL x8), none, some (vL x10), none, some (vI x12), some (vI x13), some (vI x14), some (vI x15), some (vI y0), none], [.ref 367], hp S, 0, 0)) rfl ?_
      refine mv_gfR rfl rfl (sh_367) (by decide) rfl ?_
      refine ev_bk 1 (S' := (410, [some (.ref 367), some (vI x1), some (vI x2), some (vI x3), some (vL x4), none, some (vL x6), none, some (vL x8), none, some (vL x10), none, some (vI x12), some (vI x13), some (vI x14), some (vI x15), some (vI y0), none], [.ref 367, .ref 426], hp S, 0, 0)) rfl ?_
      refine mv_gfI rfl rfl (sh_367) (by decide) rfl ?_
      refine ev_bk 1 (S' := (414, [some (.ref 367), some (vI x1), some (vI x2), some (vI x3), some (vL x4), none, some (vL x6), none, some (vL x8), none, some (vL x10), none, some (vI x12), some (vI x13), some (vI x14), some (vI x15), some (vI y0), none], [vI 0, vI (S.1 367 95), .ref 426], hp S, 0, 0)) rfl ?_
      obtain ⟨b1, F⟩ := F
      refine mv_ias rfl (sh_426) b1 ?_
      have F := F _ rfl
      refine ev_bk 1 (S' := (417, [some (.ref 367), some (vI x1), some (vI x2), some (vI x3), some (vL x4), none, some (vL x6), none, some (vL x8), none, some (vL x10), none, some (vI x12), some (vI x13), some (vI x14), some (vI x15), some (vI y0), none], [vI x14], hp (wI S 426 (w32 (S.1 367 95)) 0), 0, 0)) rfl ?_
      refine mv_if 470 rfl rfl (fun c => ?_) (fun c => ?_)
      · have F := F.1 c
        exact F
      · have F := F.2 c
        refine ev_bk 3 (S' := (425, [some (.ref 367), some (vI x1), some (vI x2), some (vI x3), some (vL x4), none, some (vL x6), none, some (vL x8), none, some (vL x10), none, some (vI x12), some (vI x13), some (vI x14), some (vI x15), some (vI y0), none], [vI 345, vI x1, .ref 367], hp (wI S 426 (w32 (S.1 367 95)) 0), 0, 0)) rfl ?_
        refine mv_iadd rfl ?_
        refine ev_bk 1 (S' := (428, [some (.ref 367), some (vI x1), some (vI x2), some (vI x3), some (vL x4), none, some (vL x6), none, some (vL x8), none, some (vL x10), none, some (vI x12), some (vI x13), some (vI x14), some (vI x15), some (vI y0), none], [vI x12, vI (x1 + 345), .ref 367], hp (wI S 426 (w32 (S.1 367 95)) 0), 0, 0)) rfl ?_
        obtain ⟨z5, S3, e4, F⟩ := F
        refine mv_calv (as := [vI (x1 + 345), vI x12]) (rest := []) e4 (sh_367) rfl rfl rfl ⟨rfl, rfl⟩ rfl rfl rfl rfl rfl ?_
        refine ev_bk 2 (S' := (434, [some (.ref 367), some (vI x1), some (vI x2), some (vI x3), some (vL x4), none, some (vL x6), none, some (vL x8), none, some (vL x10), none, some (vI x12), some (vI x13), some (vI x14), some (vI x15), some (vI y0), some (vI z5)], [.ref 367], hp S3, 0, 0)) rfl ?_
        refine mv_gfR rfl rfl (sh_367) (by decide) rfl ?_
        refine ev_bk 2 (S' := (440, [some (.ref 367), some (vI x1), some (vI x2), some (vI x3), some (vL x4), none, some (vL x6), none, some (vL x8), none, some (vL x10), none, some (vI x12), some (vI x13), some (vI x14), some (vI x15), some (vI y0), some (vI z5)], [.ref 367, vI 100, .ref 425], hp S3, 0, 0)) rfl ?_
        refine mv_gfI rfl rfl (sh_367) (by decide) rfl ?_
        refine mv_imul rfl ?_
        refine ev_bk 1 (S' := (445, [some (.ref 367), some (vI x1), some (vI x2), some (vI x3), some (vL x4), none, some (vL x6), none, some (vL x8), none, some (vL x10), none, some (vI x12), some (vI x13), some (vI x14), some (vI x15), some (vI y0), some (vI z5)], [.ref 367, vI (100 * (S3.1 367 95)), .ref 425], hp S3, 0, 0)) rfl ?_
        refine mv_gfR rfl rfl (sh_367) (by decide) rfl ?_
        refine ev_bk 1 (S' := (449, [some (.ref 367), some (vI x1), some (vI x2), some (vI x3), some (vL x4), none, some (vL x6), none, some (vL x8), none, some (vL x10), none, some (vI x12), some (vI x13), some (vI x14), some (vI x15), some (vI y0), some (vI z5)], [.ref 367, .ref 426, vI (100 * (S3.1 367 95)), .ref 425], hp S3, 0, 0)) rfl ?_
        refine mv_gfI rfl rfl (sh_367) (by decide) rfl ?_
        obtain ⟨b6, F⟩ := F
        refine mv_ial rfl (sh_426) b6 ?_
        refine mv_iadd rfl ?_
        refine ev_bk 1 (S' := (456, [some (.ref 367), some (vI x1), some (vI x2), some (vI x3), some (vL x4), none, some (vL x6), none, some (vL x8), none, some (vL x10), none, some (vI x12), some (vI x13), some (vI x14), some (vI x15), some (vI y0), some (vI z5)], [vI 47, vI ((100 * (S3.1 367 95)) + (S3.1 426 (w32 (S3.1 367 95)))), .ref 425], hp S3, 0, 0)) rfl ?_
        obtain ⟨b7, F⟩ := F
        refine mv_bas rfl (sh_425) b7 ?_
        have F := F _ rfl
        refine ev_bk 1 (S' := (458, [some (.ref 367), some (vI x1), some (vI x2), some (vI x3), some (vL x4), none, some (vL x6), none, some (vL x8), none, some (vL x10), none, some (vI x12), some (vI x13), some (vI x14), some (vI x15), some (vI y0), some (vI z5)], [.ref 367], hp (wI S3 425 (w32 ((100 * (S3.1 367 95)) + (S3.1 426 (w32 (S3.1 367 95))))) (b8 47)), 0, 0)) rfl ?_
        refine mv_gfR rfl rfl (sh_367) (by decide) rfl ?_
        refine ev_bk 1 (S' := (462, [some (.ref 367), some (vI x1), some (vI x2), some (vI x3), some (vL x4), none, some (vL x6), none, some (vL x8), none, some (vL x10), none, some (vI x12), some (vI x13), some (vI x14), some (vI x15), some (vI y0), some (vI z5)], [.ref 367, .ref 426], hp (wI S3 425 (w32 ((100 * (S3.1 367 95)) + (S3.1 426 (w32 (S3.1 367 95))))) (b8 47)), 0, 0)) rfl ?_
        refine mv_gfI rfl rfl (sh_367) (by decide) rfl ?_
        refine ev_bk 1 (S' := (466, [some (.ref 367), some (vI x1), some (vI x2), some (vI x3), some (vL x4), none, some (vL x6), none, some (vL x8), none, some (vL x10), none, some (vI x12), some (vI x13), some (vI x14), some (vI x15), some (vI y0), some (vI z5)], [vI ((wI S3 425 (w32 ((100 * (S3.1 367 95)) + (S3.1 426 (w32 (S3.1 367 95))))) (b8 47)).1 367 95), .ref 426, vI ((wI S3 425 (w32 ((100 * (S3.1 367 95)) + (S3.1 426 (w32 (S3.1 367 95))))) (b8 47)).1 367 95), .ref 426], hp (wI S3 425 (w32 ((100 * (S3.1 367 95)) + (S3.1 426 (w32 (S3.1 367 95))))) (b8 47)), 0, 0)) rfl ?_
        obtain ⟨b9, F⟩ := F
        refine mv_ial rfl (sh_426) b9 ?_
        refine ev_bk 1 (S' := (468, [some (.ref 367), some (vI x1), some (vI x2), some (vI x3), some (vL x4), none, some (vL x6), none, some (vL x8), none, some (vL x10), none, some (vI x12), some (vI x13), some (vI x14), some (vI x15), some (vI y0), some (vI z5)], [vI 1, vI ((wI S3 425 (w32 ((100 * (S3.1 367 95)) + (S3.1 426 (w32 (S3.1 367 95))))) (b8 47)).1 426 (w32 ((wI S3 425 (w32 ((100 * (S3.1 367 95)) + (S3.1 426 (w32 (S3.1 367 95))))) (b8 47)).1 367 95))), vI ((wI S3 425 (w32 ((100 * (S3.1 367 95)) + (S3.1 426 (w32 (S3.1 367 95))))) (b8 47)).1 367 95), .ref 426], hp (wI S3 425 (w32 ((100 * (S3.1 367 95)) + (S3.1 426 (w32 (S3.1 367 95))))) (b8 47)), 0, 0)) rfl ?_
        refine mv_iadd rfl ?_
        obtain ⟨b10, F⟩ := F
        refine mv_ias rfl (sh_426) b10 ?_
        have F := F _ rfl
        exact ev_wk (le_s (le_s (le_s (le_s (le_s (le_s (le_s (le_s (le_s (le_s (le_s (le_s (le_s (le_s (le_s (le_s (le_s (le_n le_0)))))))))))))))))) F
    · have F := F.2 c
      refine ev_bk 3 (S' := (398, [some (.ref 367), some (vI x1), some (vI x2), some (vI x3), some (vL x4), none, some (vL x6), none, some (vL x8), none, some (vL x10), none, some (vI x12), some (vI x13), some (vI x14), some (vI x15), some (vI y0), none], [.ref 367, vI 1, .ref 367], hp S, 0, 0)) rfl ?_
      refine mv_gfI rfl rfl (sh_367) (by decide) rfl ?_
      obtain ⟨S12, e13, F⟩ := F
      refine mv_calv (as := [vI 1, vI (S.1 367 2)]) (rest := []) e13 (sh_367) rfl rfl rfl ⟨rfl, rfl⟩ rfl rfl rfl rfl rfl ?_
      obtain ⟨rfl, rfl⟩ := F
      exact ev_ret rfl rfl
  · have F := F.2 c
    refine ev_bk 3 (S' := (374, [some (.ref 367), some (vI x1), some (vI x2), some (vI x3), some (vL x4), none, some (vL x6), none, some (vL x8), none, some (vL x10), none, some (vI x12), some (vI x13), some (vI x14), some (vI x15), some (vI y0), none], [vI x1, vI y0, .ref 367], hp S, 0, 0)) rfl ?_
    obtain ⟨S14, e15, F⟩ := F
    refine mv_calv (as := [vI y0, vI x1]) (rest := []) e15 (sh_367) rfl rfl rfl ⟨rfl, rfl⟩ rfl rfl rfl rfl rfl ?_
    obtain ⟨rfl, rfl⟩ := F
    exact ev_ret rfl rfl
theorem vc_MD_readTape_470 {q : Nat × (Nat → Int32)} {S S' : ms} {r : Option Value} (x1 x2 x3 x4 x6 x8 x10 x12 x13 x14 x15 x16 : Int)
    (F : ∃ (z3 : Int) (S1 : ms), EV q 396 0 [some (.ref 367), some (vI x1), some (vI x13), none] [] S (some (vI z3)) S1 ∧ ∃ (S4 : ms), EV q 397 0 [some (.ref 367), some (vI (x6 % 512)), some (vI x10), some (.ref 368), some (vI (x1 + 512)), some (vI x8), none] [] S1 none S4 ∧ ((w32 (x1 + (512 + ((Int.tdiv (w32 (x8 + 511)) (w32 512)) * 512))) ≤ w32 (S4.1 367 2)) → EV q 393 543 [some (.ref 367), some (vI (x1 + (512 + ((Int.tdiv (w32 (x8 + 511)) (w32 512)) * 512)))), some (vI x2), some (vI x3), some (vL x4), none, some (vL x6), none, some (vL x8), none, some (vL x10), none, some (vI x12), some (vI x13), some (vI x14), some (vI x15), some (vI x16), some (vI z3)] [vI (x1 + (512 + ((Int.tdiv (w32 (x8 + 511)) (w32 512)) * 512)))] S4 r S') ∧ ((¬ w32 (x1 + (512 + ((Int.tdiv (w32 (x8 + 511)) (w32 512)) * 512))) ≤ w32 (S4.1 367 2)) → EV q 393 543 [some (.ref 367), some (vI (x1 + (512 + ((Int.tdiv (w32 (x8 + 511)) (w32 512)) * 512)))), some (vI x2), some (vI x3), some (vL x4), none, some (vL x6), none, some (vL x8), none, some (vL x10), none, some (vI x12), some (vI x13), some (vI x14), some (vI x15), some (vI x16), some (vI z3)] [vI (S4.1 367 2)] S4 r S')) : EV q 393 470 [some (.ref 367), some (vI x1), some (vI x2), some (vI x3), some (vL x4), none, some (vL x6), none, some (vL x8), none, some (vL x10), none, some (vI x12), some (vI x13), some (vI x14), some (vI x15), some (vI x16), none] [] S r S' := by
  unfold EV
  refine ev_bk 3 (S' := (474, [some (.ref 367), some (vI x1), some (vI x2), some (vI x3), some (vL x4), none, some (vL x6), none, some (vL x8), none, some (vL x10), none, some (vI x12), some (vI x13), some (vI x14), some (vI x15), some (vI x16), none], [vI x13, vI x1, .ref 367], hp S, 0, 0)) rfl ?_
  obtain ⟨z3, S1, e2, F⟩ := F
  refine mv_calv (as := [vI x1, vI x13]) (rest := []) e2 (sh_367) rfl rfl rfl ⟨rfl, rfl⟩ rfl rfl rfl rfl rfl ?_
  refine ev_bk 3 (S' := (482, [some (.ref 367), some (vI x1), some (vI x2), some (vI x3), some (vL x4), none, some (vL x6), none, some (vL x8), none, some (vL x10), none, some (vI x12), some (vI x13), some (vI x14), some (vI x15), some (vI x16), some (vI z3)], [vL x6, .ref 367], hp S1, 0, 0)) rfl ?_
  refine mv_l2i rfl ?_
  refine ev_bk 1 (S' := (486, [some (.ref 367), some (vI x1), some (vI x2), some (vI x3), some (vL x4), none, some (vL x6), none, some (vL x8), none, some (vL x10), none, some (vI x12), some (vI x13), some (vI x14), some (vI x15), some (vI x16), some (vI z3)], [vI 511, vI x6, .ref 367], hp S1, 0, 0)) rfl ?_
  refine mv_iandm 512 9 (by decide) rfl rfl rfl ?_
  refine ev_bk 1 (S' := (489, [some (.ref 367), some (vI x1), some (vI x2), some (vI x3), some (vL x4), none, some (vL x6), none, some (vL x8), none, some (vL x10), none, some (vI x12), some (vI x13), some (vI x14), some (vI x15), some (vI x16), some (vI z3)], [vL x10, vI (x6 % 512), .ref 367], hp S1, 0, 0)) rfl ?_
  refine mv_l2i rfl ?_
  refine ev_bk 1 (S' := (491, [some (.ref 367), some (vI x1), some (vI x2), some (vI x3), some (vL x4), none, some (vL x6), none, some (vL x8), none, some (vL x10), none, some (vI x12), some (vI x13), some (vI x14), some (vI x15), some (vI x16), some (vI z3)], [.ref 367, vI x10, vI (x6 % 512), .ref 367], hp S1, 0, 0)) rfl ?_
  refine mv_gfR rfl rfl (sh_367) (by decide) rfl ?_
  refine ev_bk 2 (S' := (498, [some (.ref 367), some (vI x1), some (vI x2), some (vI x3), some (vL x4), none, some (vL x6), none, some (vL x8), none, some (vL x10), none, some (vI x12), some (vI x13), some (vI x14), some (vI x15), some (vI x16), some (vI z3)], [vI 512, vI x1, .ref 368, vI x10, vI (x6 % 512), .ref 367], hp S1, 0, 0)) rfl ?_
  refine mv_iadd rfl ?_
  refine ev_bk 1 (S' := (501, [some (.ref 367), some (vI x1), some (vI x2), some (vI x3), some (vL x4), none, some (vL x6), none, some (vL x8), none, some (vL x10), none, some (vI x12), some (vI x13), some (vI x14), some (vI x15), some (vI x16), some (vI z3)], [vL x8, vI (x1 + 512), .ref 368, vI x10, vI (x6 % 512), .ref 367], hp S1, 0, 0)) rfl ?_
  refine mv_l2i rfl ?_
  obtain ⟨S4, e5, F⟩ := F
  refine mv_calv (as := [vI (x6 % 512), vI x10, .ref 368, vI (x1 + 512), vI x8]) (rest := []) e5 (sh_367) rfl rfl rfl ⟨rfl, rfl⟩ rfl rfl rfl rfl rfl ?_
  refine ev_bk 3 (S' := (511, [some (.ref 367), some (vI x1), some (vI x2), some (vI x3), some (vL x4), none, some (vL x6), none, some (vL x8), none, some (vL x10), none, some (vI x12), some (vI x13), some (vI x14), some (vI x15), some (vI x16), some (vI z3)], [vL x8, vI 512, vI x1], hp S4, 0, 0)) rfl ?_
  refine mv_l2i rfl ?_
  refine ev_bk 1 (S' := (515, [some (.ref 367), some (vI x1), some (vI x2), some (vI x3), some (vL x4), none, some (vL x6), none, some (vL x8), none, some (vL x10), none, some (vI x12), some (vI x13), some (vI x14), some (vI x15), some (vI x16), some (vI z3)], [vI 511, vI x8, vI 512, vI x1], hp S4, 0, 0)) rfl ?_
  refine mv_iadd rfl ?_
  refine ev_bk 1 (S' := (519, [some (.ref 367), some (vI x1), some (vI x2), some (vI x3), some (vL x4), none, some (vL x6), none, some (vL x8), none, some (vL x10), none, some (vI x12), some (vI x13), some (vI x14), some (vI x15), some (vI x16), some (vI z3)], [vI 512, vI (x8 + 511), vI 512, vI x1], hp S4, 0, 0)) rfl ?_
  refine mv_idiv (by decide) rfl ?_
  refine ev_bk 1 (S' := (523, [some (.ref 367), some (vI x1), some (vI x2), some (vI x3), some (vL x4), none, some (vL x6), none, some (vL x8), none, some (vL x10), none, some (vI x12), some (vI x13), some (vI x14), some (vI x15), some (vI x16), some (vI z3)], [vI 512, vI (Int.tdiv (w32 (x8 + 511)) (w32 512)), vI 512, vI x1], hp S4, 0, 0)) rfl ?_
  refine mv_imul rfl ?_
  refine mv_iadd rfl ?_
  refine mv_iadd rfl ?_
  refine ev_bk 3 (S' := (529, [some (.ref 367), some (vI (x1 + (512 + ((Int.tdiv (w32 (x8 + 511)) (w32 512)) * 512)))), some (vI x2), some (vI x3), some (vL x4), none, some (vL x6), none, some (vL x8), none, some (vL x10), none, some (vI x12), some (vI x13), some (vI x14), some (vI x15), some (vI x16), some (vI z3)], [.ref 367, vI (x1 + (512 + ((Int.tdiv (w32 (x8 + 511)) (w32 512)) * 512)))], hp S4, 0, 0)) rfl ?_
  refine mv_gfI rfl rfl (sh_367) (by decide) rfl ?_
  refine mv_icmp 542 rfl rfl (fun c => ?_) (fun c => ?_)
  · have F := F.1 c
    refine ev_bk 1 (S' := (543, [some (.ref 367), some (vI (x1 + (512 + ((Int.tdiv (w32 (x8 + 511)) (w32 512)) * 512)))), some (vI x2), some (vI x3), some (vL x4), none, some (vL x6), none, some (vL x8), none, some (vL x10), none, some (vI x12), some (vI x13), some (vI x14), some (vI x15), some (vI x16), some (vI z3)], [vI (x1 + (512 + ((Int.tdiv (w32 (x8 + 511)) (w32 512)) * 512)))], hp S4, 0, 0)) rfl ?_
    exact F
  · have F := F.2 c
    refine ev_bk 1 (S' := (536, [some (.ref 367), some (vI (x1 + (512 + ((Int.tdiv (w32 (x8 + 511)) (w32 512)) * 512)))), some (vI x2), some (vI x3), some (vL x4), none, some (vL x6), none, some (vL x8), none, some (vL x10), none, some (vI x12), some (vI x13), some (vI x14), some (vI x15), some (vI x16), some (vI z3)], [.ref 367], hp S4, 0, 0)) rfl ?_
    refine mv_gfI rfl rfl (sh_367) (by decide) rfl ?_
    refine mv_goto 543 rfl rfl ?_
    exact F
theorem vc_MD_readTape_543 {q : Nat × (Nat → Int32)} {S S' : ms} {r : Option Value} (x1 x2 x3 x4 x6 x8 x10 x12 x13 x14 x15 x16 x17 y0 : Int)
    (F : EV q 393 2 [some (.ref 367), some (vI y0), none, none, none, none, none, none, none, none, none, none, none, none, none, none, none, none] [] S r S') : EV q 393 543 [some (.ref 367), some (vI x1), some (vI x2), some (vI x3), some (vL x4), none, some (vL x6), none, some (vL x8), none, some (vL x10), none, some (vI x12), some (vI x13), some (vI x14), some (vI x15), some (vI x16), some (vI x17)] [vI y0] S r S' := by
  unfold EV
  refine ev_bk 1 (S' := (544, [some (.ref 367), some (vI y0), some (vI x2), some (vI x3), some (vL x4), none, some (vL x6), none, some (vL x8), none, some (vL x10), none, some (vI x12), some (vI x13), some (vI x14), some (vI x15), some (vI x16), some (vI x17)], [], hp S, 0, 0)) rfl ?_
  refine mv_goto 2 rfl rfl ?_
  exact ev_wk (le_s (le_s (le_n (le_n (le_n (le_s (le_n (le_s (le_n (le_s (le_n (le_s (le_n (le_n (le_n (le_n (le_n (le_n le_0)))))))))))))))))) F
theorem vc_MD_eights {q : Nat × (Nat → Int32)} {S S' : ms} {r : Option Value} (x1 x2 : Int)
    (F : EV q 394 2 [some (.ref 367), some (vI x1), some (vI x2), some (vI x1), none, none, none, none] [] S r S') : EV q 394 0 [some (.ref 367), some (vI x1), some (vI x2), none, none, none, none, none] [] S r S' := by
  unfold EV
  refine ev_bk 2 (S' := (2, [some (.ref 367), some (vI x1), some (vI x2), some (vI x1), none, none, none, none], [], hp S, 0, 0)) rfl ?_
  exact F
theorem vc_MD_eights_2 {q : Nat × (Nat → Int32)} {S S' : ms} {r : Option Value} (x1 x2 x3 : Int)
    (F : ((w32 (x1 + x2) ≤ w32 x3) → EV q 394 26 [some (.ref 367), some (vI x1), some (vI x2), some (vI x3), none, none, none, none] [] S r S') ∧ ((¬ w32 (x1 + x2) ≤ w32 x3) → (0 ≤ w32 x3 ∧ w32 x3 < (6000 : Nat)) ∧ ((¬ w32 (S.1 368 (w32 x3)) = 32) → EV q 394 26 [some (.ref 367), some (vI x1), some (vI x2), some (vI x3), none, none, none, none] [] S r S') ∧ ((¬ (¬ w32 (S.1 368 (w32 x3)) = 32)) → EV q 394 2 [some (.ref 367), some (vI x1), some (vI x2), some (vI (x3 + 1)), none, none, none, none] [] S r S'))) : EV q 394 2 [some (.ref 367), some (vI x1), some (vI x2), some (vI x3), none, none, none, none] [] S r S' := by
  unfold EV
  refine ev_bk 3 (S' := (5, [some (.ref 367), some (vI x1), some (vI x2), some (vI x3), none, none, none, none], [vI x2, vI x1, vI x3], hp S, 0, 0)) rfl ?_
  refine mv_iadd rfl ?_
  refine mv_icmp 26 rfl rfl (fun c => ?_) (fun c => ?_)
  · have F := F.1 c
    exact F
  · have F := F.2 c
    refine ev_bk 1 (S' := (10, [some (.ref 367), some (vI x1), some (vI x2), some (vI x3), none, none, none, none], [.ref 367], hp S, 0, 0)) rfl ?_
    refine mv_gfR rfl rfl (sh_367) (by decide) rfl ?_
    refine ev_bk 1 (S' := (14, [some (.ref 367), some (vI x1), some (vI x2), some (vI x3), none, none, none, none], [vI x3, .ref 368], hp S, 0, 0)) rfl ?_
    obtain ⟨b1, F⟩ := F
    refine mv_bal rfl (sh_368) b1 ?_
    refine ev_bk 1 (S' := (17, [some (.ref 367), some (vI x1), some (vI x2), some (vI x3), none, none, none, none], [vI 32, vI (S.1 368 (w32 x3))], hp S, 0, 0)) rfl ?_
    refine mv_icmp 26 rfl rfl (fun c => ?_) (fun c => ?_)
    · have F := F.1 c
      exact F
    · have F := F.2 c
      refine mv_inc (lv' := [some (.ref 367), some (vI x1), some (vI x2), some (vI (x3 + 1)), none, none, none, none]) 3 1 rfl rfl rfl rfl ?_
      refine mv_goto 2 rfl rfl ?_
      exact F
theorem vc_MD_eights_26 {q : Nat × (Nat → Int32)} {S S' : ms} {r : Option Value} (x1 x2 x3 : Int)
    (F : EV q 394 32 [some (.ref 367), some (vI x1), some (vI x2), some (vI x3), some (vL 0), none, some (vI 0), none] [] S r S') : EV q 394 26 [some (.ref 367), some (vI x1), some (vI x2), some (vI x3), none, none, none, none] [] S r S' := by
  unfold EV
  refine ev_bk 4 (S' := (32, [some (.ref 367), some (vI x1), some (vI x2), some (vI x3), some (vL 0), none, some (vI 0), none], [], hp S, 0, 0)) rfl ?_
  exact F
theorem vc_MD_eights_32 {q : Nat × (Nat → Int32)} {S S' : ms} {r : Option Value} (x1 x2 x3 x4 x6 : Int)
    (F : ((w32 (x1 + x2) ≤ w32 x3) → EV q 394 84 [some (.ref 367), some (vI x1), some (vI x2), some (vI x3), some (vL x4), none, some (vI x6), none] [] S r S') ∧ ((¬ w32 (x1 + x2) ≤ w32 x3) → (0 ≤ w32 x3 ∧ w32 x3 < (6000 : Nat)) ∧ ∃ (z4 : Int) (S2 : ms), EV q 257 0 [some (vI (S.1 368 (w32 x3))), some (vI 48), some (vI 55)] [] S (some (vI z4)) S2 ∧ ((w32 z4 = 0) → EV q 394 84 [some (.ref 367), some (vI x1), some (vI x2), some (vI x3), some (vL x4), none, some (vI x6), none] [] S2 r S') ∧ ((¬ w32 z4 = 0) → (0 ≤ w32 x3 ∧ w32 x3 < (6000 : Nat)) ∧ EV q 394 32 [some (.ref 367), some (vI x1), some (vI x2), some (vI (x3 + 1)), some (vL (((8 * x4) + (w32 (S2.1 368 (w32 x3)))) - 48)), none, some (vI (x6 + 1)), none] [] S2 r S'))) : EV q 394 32 [some (.ref 367), some (vI x1), some (vI x2), some (vI x3), some (vL x4), none, some (vI x6), none] [] S r S' := by
  unfold EV
  refine ev_bk 3 (S' := (35, [some (.ref 367), some (vI x1), some (vI x2), some (vI x3), some (vL x4), none, some (vI x6), none], [vI x2, vI x1, vI x3], hp S, 0, 0)) rfl ?_
  refine mv_iadd rfl ?_
  refine mv_icmp 84 rfl rfl (fun c => ?_) (fun c => ?_)
  · have F := F.1 c
    exact F
  · have F := F.2 c
    refine ev_bk 1 (S' := (40, [some (.ref 367), some (vI x1), some (vI x2), some (vI x3), some (vL x4), none, some (vI x6), none], [.ref 367], hp S, 0, 0)) rfl ?_
    refine mv_gfR rfl rfl (sh_367) (by decide) rfl ?_
    refine ev_bk 1 (S' := (44, [some (.ref 367), some (vI x1), some (vI x2), some (vI x3), some (vL x4), none, some (vI x6), none], [vI x3, .ref 368], hp S, 0, 0)) rfl ?_
    obtain ⟨b1, F⟩ := F
    refine mv_bal rfl (sh_368) b1 ?_
    refine ev_bk 2 (S' := (49, [some (.ref 367), some (vI x1), some (vI x2), some (vI x3), some (vL x4), none, some (vI x6), none], [vI 55, vI 48, vI (S.1 368 (w32 x3))], hp S, 0, 0)) rfl ?_
    obtain ⟨z4, S2, e3, F⟩ := F
    refine mv_cals (as := [vI (S.1 368 (w32 x3)), vI 48, vI 55]) (rest := []) e3 rfl rfl rfl ⟨rfl, rfl, rfl⟩ rfl rfl rfl rfl ?_
    refine mv_if 84 rfl rfl (fun c => ?_) (fun c => ?_)
    · have F := F.1 c
      exact F
    · have F := F.2 c
      refine ev_bk 2 (S' := (60, [some (.ref 367), some (vI x1), some (vI x2), some (vI x3), some (vL x4), none, some (vI x6), none], [vL x4, vL 8], hp S2, 0, 0)) rfl ?_
      refine mv_lmul rfl ?_
      refine ev_bk 1 (S' := (62, [some (.ref 367), some (vI x1), some (vI x2), some (vI x3), some (vL x4), none, some (vI x6), none], [.ref 367, vL (8 * x4)], hp S2, 0, 0)) rfl ?_
      refine mv_gfR rfl rfl (sh_367) (by decide) rfl ?_
      refine ev_bk 1 (S' := (66, [some (.ref 367), some (vI x1), some (vI x2), some (vI x3), some (vL x4), none, some (vI x6), none], [vI x3, .ref 368, vL (8 * x4)], hp S2, 0, 0)) rfl ?_
      obtain ⟨b5, F⟩ := F
      refine mv_bal rfl (sh_368) b5 ?_
      refine mv_i2l rfl ?_
      refine mv_ladd rfl ?_
      refine ev_bk 1 (S' := (72, [some (.ref 367), some (vI x1), some (vI x2), some (vI x3), some (vL x4), none, some (vI x6), none], [vL 48, vL ((8 * x4) + (w32 (S2.1 368 (w32 x3))))], hp S2, 0, 0)) rfl ?_
      refine mv_lsub rfl ?_
      refine ev_bk 1 (S' := (75, [some (.ref 367), some (vI x1), some (vI x2), some (vI x3), some (vL (((8 * x4) + (w32 (S2.1 368 (w32 x3)))) - 48)), none, some (vI x6), none], [], hp S2, 0, 0)) rfl ?_
      refine mv_inc (lv' := [some (.ref 367), some (vI x1), some (vI x2), some (vI (x3 + 1)), some (vL (((8 * x4) + (w32 (S2.1 368 (w32 x3)))) - 48)), none, some (vI x6), none]) 3 1 rfl rfl rfl rfl ?_
      refine mv_inc (lv' := [some (.ref 367), some (vI x1), some (vI x2), some (vI (x3 + 1)), some (vL (((8 * x4) + (w32 (S2.1 368 (w32 x3)))) - 48)), none, some (vI (x6 + 1)), none]) 6 1 rfl rfl rfl rfl ?_
      refine mv_goto 32 rfl rfl ?_
      exact F
theorem vc_MD_eights_84 {q : Nat × (Nat → Int32)} {S S' : ms} {r : Option Value} (x1 x2 x3 x4 x6 : Int)
    (F : ((w32 x3 = w32 (x1 + x2)) → EV q 394 111 [some (.ref 367), some (vI x1), some (vI x2), some (vI x3), some (vL x4), none, some (vI x6), none] [] S r S') ∧ ((¬ w32 x3 = w32 (x1 + x2)) → (0 ≤ w32 x3 ∧ w32 x3 < (6000 : Nat)) ∧ ((w32 (S.1 368 (w32 x3)) = 0) → EV q 394 111 [some (.ref 367), some (vI x1), some (vI x2), some (vI x3), some (vL x4), none, some (vI x6), none] [] S r S') ∧ ((¬ w32 (S.1 368 (w32 x3)) = 0) → (0 ≤ w32 x3 ∧ w32 x3 < (6000 : Nat)) ∧ ((¬ w32 (S.1 368 (w32 x3)) = 32) → EV q 394 116 [some (.ref 367), some (vI x1), some (vI x2), some (vI x3), some (vL x4), none, some (vI x6), none] [vI 0] S r S') ∧ ((¬ (¬ w32 (S.1 368 (w32 x3)) = 32)) → EV q 394 111 [some (.ref 367), some (vI x1), some (vI x2), some (vI x3), some (vL x4), none, some (vI x6), none] [] S r S')))) : EV q 394 84 [some (.ref 367), some (vI x1), some (vI x2), some (vI x3), some (vL x4), none, some (vI x6), none] [] S r S' := by
  unfold EV
  refine ev_bk 3 (S' := (87, [some (.ref 367), some (vI x1), some (vI x2), some (vI x3), some (vL x4), none, some (vI x6), none], [vI x2, vI x1, vI x3], hp S, 0, 0)) rfl ?_
  refine mv_iadd rfl ?_
  refine mv_icmp 111 rfl rfl (fun c => ?_) (fun c => ?_)
  · have F := F.1 c
    exact F
  · have F := F.2 c
    refine ev_bk 1 (S' := (92, [some (.ref 367), some (vI x1), some (vI x2), some (vI x3), some (vL x4), none, some (vI x6), none], [.ref 367], hp S, 0, 0)) rfl ?_
    refine mv_gfR rfl rfl (sh_367) (by decide) rfl ?_
    refine ev_bk 1 (S' := (96, [some (.ref 367), some (vI x1), some (vI x2), some (vI x3), some (vL x4), none, some (vI x6), none], [vI x3, .ref 368], hp S, 0, 0)) rfl ?_
    obtain ⟨b1, F⟩ := F
    refine mv_bal rfl (sh_368) b1 ?_
    refine mv_if 111 rfl rfl (fun c => ?_) (fun c => ?_)
    · have F := F.1 c
      exact F
    · have F := F.2 c
      refine ev_bk 1 (S' := (101, [some (.ref 367), some (vI x1), some (vI x2), some (vI x3), some (vL x4), none, some (vI x6), none], [.ref 367], hp S, 0, 0)) rfl ?_
      refine mv_gfR rfl rfl (sh_367) (by decide) rfl ?_
      refine ev_bk 1 (S' := (105, [some (.ref 367), some (vI x1), some (vI x2), some (vI x3), some (vL x4), none, some (vI x6), none], [vI x3, .ref 368], hp S, 0, 0)) rfl ?_
      obtain ⟨b2, F⟩ := F
      refine mv_bal rfl (sh_368) b2 ?_
      refine ev_bk 1 (S' := (108, [some (.ref 367), some (vI x1), some (vI x2), some (vI x3), some (vL x4), none, some (vI x6), none], [vI 32, vI (S.1 368 (w32 x3))], hp S, 0, 0)) rfl ?_
      refine mv_icmp 115 rfl rfl (fun c => ?_) (fun c => ?_)
      · have F := F.1 c
        refine ev_bk 1 (S' := (116, [some (.ref 367), some (vI x1), some (vI x2), some (vI x3), some (vL x4), none, some (vI x6), none], [vI 0], hp S, 0, 0)) rfl ?_
        exact F
      · have F := F.2 c
        exact F
theorem vc_MD_eights_111 {q : Nat × (Nat → Int32)} {S S' : ms} {r : Option Value} (x1 x2 x3 x4 x6 : Int)
    (F : EV q 394 116 [some (.ref 367), some (vI x1), some (vI x2), some (vI x3), some (vL x4), none, some (vI x6), none] [vI 1] S r S') : EV q 394 111 [some (.ref 367), some (vI x1), some (vI x2), some (vI x3), some (vL x4), none, some (vI x6), none] [] S r S' := by
  unfold EV
  refine ev_bk 1 (S' := (112, [some (.ref 367), some (vI x1), some (vI x2), some (vI x3), some (vL x4), none, some (vI x6), none], [vI 1], hp S, 0, 0)) rfl ?_
  refine mv_goto 116 rfl rfl ?_
  exact F
theorem vc_MD_eights_116 {q : Nat × (Nat → Int32)} {S S' : ms} {r : Option Value} (x1 x2 x3 x4 x6 y0 : Int)
    (F : ((w32 x6 ≤ 0) → r = some (vL ((-1))) ∧ S' = S) ∧ ((¬ w32 x6 ≤ 0) → ((w32 y0 = 0) → r = some (vL ((-1))) ∧ S' = S) ∧ ((¬ w32 y0 = 0) → r = some (vL x4) ∧ S' = S))) : EV q 394 116 [some (.ref 367), some (vI x1), some (vI x2), some (vI x3), some (vL x4), none, some (vI x6), none] [vI y0] S r S' := by
  unfold EV
  refine ev_bk 2 (S' := (120, [some (.ref 367), some (vI x1), some (vI x2), some (vI x3), some (vL x4), none, some (vI x6), some (vI y0)], [vI x6], hp S, 0, 0)) rfl ?_
  refine mv_if 133 rfl rfl (fun c => ?_) (fun c => ?_)
  · have F := F.1 c
    refine ev_bk 1 (S' := (136, [some (.ref 367), some (vI x1), some (vI x2), some (vI x3), some (vL x4), none, some (vI x6), some (vI y0)], [vL ((-1))], hp S, 0, 0)) rfl ?_
    obtain ⟨rfl, rfl⟩ := F
    exact ev_ret rfl rfl
  · have F := F.2 c
    refine ev_bk 1 (S' := (125, [some (.ref 367), some (vI x1), some (vI x2), some (vI x3), some (vL x4), none, some (vI x6), some (vI y0)], [vI y0], hp S, 0, 0)) rfl ?_
    refine mv_if 133 rfl rfl (fun c => ?_) (fun c => ?_)
    · have F := F.1 c
      refine ev_bk 1 (S' := (136, [some (.ref 367), some (vI x1), some (vI x2), some (vI x3), some (vL x4), none, some (vI x6), some (vI y0)], [vL ((-1))], hp S, 0, 0)) rfl ?_
      obtain ⟨rfl, rfl⟩ := F
      exact ev_ret rfl rfl
    · have F := F.2 c
      refine ev_bk 1 (S' := (130, [some (.ref 367), some (vI x1), some (vI x2), some (vI x3), some (vL x4), none, some (vI x6), some (vI y0)], [vL x4], hp S, 0, 0)) rfl ?_
      refine mv_goto 136 rfl rfl ?_
      obtain ⟨rfl, rfl⟩ := F
      exact ev_ret rfl rfl
theorem vc_MD_upTo0 {q : Nat × (Nat → Int32)} {S S' : ms} {r : Option Value} (x1 x2 : Int)
    (F : EV q 395 2 [some (.ref 367), some (vI x1), some (vI x2), some (vI 0)] [] S r S') : EV q 395 0 [some (.ref 367), some (vI x1), some (vI x2), none] [] S r S' := by
  unfold EV
  refine ev_bk 2 (S' := (2, [some (.ref 367), some (vI x1), some (vI x2), some (vI 0)], [], hp S, 0, 0)) rfl ?_
  exact F
theorem vc_MD_upTo0_2 {q : Nat × (Nat → Int32)} {S S' : ms} {r : Option Value} (x1 x2 x3 : Int)
    (F : ((w32 x2 ≤ w32 x3) → r = some (vI x3) ∧ S' = S) ∧ ((¬ w32 x2 ≤ w32 x3) → (0 ≤ w32 (x1 + x3) ∧ w32 (x1 + x3) < (6000 : Nat)) ∧ ((w32 (S.1 368 (w32 (x1 + x3))) = 0) → r = some (vI x3) ∧ S' = S) ∧ ((¬ w32 (S.1 368 (w32 (x1 + x3))) = 0) → EV q 395 2 [some (.ref 367), some (vI x1), some (vI x2), some (vI (x3 + 1))] [] S r S'))) : EV q 395 2 [some (.ref 367), some (vI x1), some (vI x2), some (vI x3)] [] S r S' := by
  unfold EV
  refine ev_bk 2 (S' := (4, [some (.ref 367), some (vI x1), some (vI x2), some (vI x3)], [vI x2, vI x3], hp S, 0, 0)) rfl ?_
  refine mv_icmp 24 rfl rfl (fun c => ?_) (fun c => ?_)
  · have F := F.1 c
    refine ev_bk 1 (S' := (25, [some (.ref 367), some (vI x1), some (vI x2), some (vI x3)], [vI x3], hp S, 0, 0)) rfl ?_
    obtain ⟨rfl, rfl⟩ := F
    exact ev_ret rfl rfl
  · have F := F.2 c
    refine ev_bk 1 (S' := (8, [some (.ref 367), some (vI x1), some (vI x2), some (vI x3)], [.ref 367], hp S, 0, 0)) rfl ?_
    refine mv_gfR rfl rfl (sh_367) (by decide) rfl ?_
    refine ev_bk 2 (S' := (13, [some (.ref 367), some (vI x1), some (vI x2), some (vI x3)], [vI x3, vI x1, .ref 368], hp S, 0, 0)) rfl ?_
    refine mv_iadd rfl ?_
    obtain ⟨b1, F⟩ := F
    refine mv_bal rfl (sh_368) b1 ?_
    refine mv_if 24 rfl rfl (fun c => ?_) (fun c => ?_)
    · have F := F.1 c
      refine ev_bk 1 (S' := (25, [some (.ref 367), some (vI x1), some (vI x2), some (vI x3)], [vI x3], hp S, 0, 0)) rfl ?_
      obtain ⟨rfl, rfl⟩ := F
      exact ev_ret rfl rfl
    · have F := F.2 c
      refine mv_inc (lv' := [some (.ref 367), some (vI x1), some (vI x2), some (vI (x3 + 1))]) 3 1 rfl rfl rfl rfl ?_
      refine mv_goto 2 rfl rfl ?_
      exact F
theorem vc_MD_newName {q : Nat × (Nat → Int32)} {S S' : ms} {r : Option Value} (x1 x2 : Int)
    (F : EV q 396 2 [some (.ref 367), some (vI x1), some (vI x2), some (vI 0)] [] S r S') : EV q 396 0 [some (.ref 367), some (vI x1), some (vI x2), none] [] S r S' := by
  unfold EV
  refine ev_bk 2 (S' := (2, [some (.ref 367), some (vI x1), some (vI x2), some (vI 0)], [], hp S, 0, 0)) rfl ?_
  exact F
theorem vc_MD_newName_2 {q : Nat × (Nat → Int32)} {S S' : ms} {r : Option Value} (x1 x2 x3 : Int)
    (F : ((w32 x2 ≤ w32 x3) → r = some (vI 1) ∧ S' = S) ∧ ((¬ w32 x2 ≤ w32 x3) → (0 ≤ w32 (S.1 367 95) ∧ w32 (S.1 367 95) < (16 : Nat)) ∧ ((100 ≤ w32 (S.1 426 (w32 (S.1 367 95)))) → r = some (vI 1) ∧ S' = S) ∧ ((¬ 100 ≤ w32 (S.1 426 (w32 (S.1 367 95)))) → (0 ≤ w32 (S.1 367 95) ∧ w32 (S.1 367 95) < (16 : Nat)) ∧ (0 ≤ w32 (x1 + x3) ∧ w32 (x1 + x3) < (6000 : Nat)) ∧ (0 ≤ w32 ((100 * (S.1 367 95)) + (S.1 426 (w32 (S.1 367 95)))) ∧ w32 ((100 * (S.1 367 95)) + (S.1 426 (w32 (S.1 367 95)))) < (1600 : Nat)) ∧ ∀ S5 : ms, S5 = wI S 425 (w32 ((100 * (S.1 367 95)) + (S.1 426 (w32 (S.1 367 95))))) (b8 (S.1 368 (w32 (x1 + x3)))) → (0 ≤ w32 (S5.1 367 95) ∧ w32 (S5.1 367 95) < (16 : Nat)) ∧ (0 ≤ w32 (S5.1 367 95) ∧ w32 (S5.1 367 95) < (16 : Nat)) ∧ ∀ S8 : ms, S8 = wI S5 426 (w32 (S5.1 367 95)) ((S5.1 426 (w32 (S5.1 367 95))) + 1) → EV q 396 2 [some (.ref 367), some (vI x1), some (vI x2), some (vI (x3 + 1))] [] S8 r S'))) : EV q 396 2 [some (.ref 367), some (vI x1), some (vI x2), some (vI x3)] [] S r S' := by
  unfold EV
  refine ev_bk 2 (S' := (4, [some (.ref 367), some (vI x1), some (vI x2), some (vI x3)], [vI x2, vI x3], hp S, 0, 0)) rfl ?_
  refine mv_icmp 70 rfl rfl (fun c => ?_) (fun c => ?_)
  · have F := F.1 c
    refine ev_bk 1 (S' := (71, [some (.ref 367), some (vI x1), some (vI x2), some (vI x3)], [vI 1], hp S, 0, 0)) rfl ?_
    obtain ⟨rfl, rfl⟩ := F
    exact ev_ret rfl rfl
  · have F := F.2 c
    refine ev_bk 1 (S' := (8, [some (.ref 367), some (vI x1), some (vI x2), some (vI x3)], [.ref 367], hp S, 0, 0)) rfl ?_
    refine mv_gfR rfl rfl (sh_367) (by decide) rfl ?_
    refine ev_bk 1 (S' := (12, [some (.ref 367), some (vI x1), some (vI x2), some (vI x3)], [.ref 367, .ref 426], hp S, 0, 0)) rfl ?_
    refine mv_gfI rfl rfl (sh_367) (by decide) rfl ?_
    obtain ⟨b1, F⟩ := F
    refine mv_ial rfl (sh_426) b1 ?_
    refine ev_bk 1 (S' := (18, [some (.ref 367), some (vI x1), some (vI x2), some (vI x3)], [vI 100, vI (S.1 426 (w32 (S.1 367 95)))], hp S, 0, 0)) rfl ?_
    refine mv_icmp 70 rfl rfl (fun c => ?_) (fun c => ?_)
    · have F := F.1 c
      refine ev_bk 1 (S' := (71, [some (.ref 367), some (vI x1), some (vI x2), some (vI x3)], [vI 1], hp S, 0, 0)) rfl ?_
      obtain ⟨rfl, rfl⟩ := F
      exact ev_ret rfl rfl
    · have F := F.2 c
      refine ev_bk 1 (S' := (22, [some (.ref 367), some (vI x1), some (vI x2), some (vI x3)], [.ref 367], hp S, 0, 0)) rfl ?_
      refine mv_gfR rfl rfl (sh_367) (by decide) rfl ?_
      refine ev_bk 2 (S' := (28, [some (.ref 367), some (vI x1), some (vI x2), some (vI x3)], [.ref 367, vI 100, .ref 425], hp S, 0, 0)) rfl ?_
      refine mv_gfI rfl rfl (sh_367) (by decide) rfl ?_
      refine mv_imul rfl ?_
      refine ev_bk 1 (S' := (33, [some (.ref 367), some (vI x1), some (vI x2), some (vI x3)], [.ref 367, vI (100 * (S.1 367 95)), .ref 425], hp S, 0, 0)) rfl ?_
      refine mv_gfR rfl rfl (sh_367) (by decide) rfl ?_
      refine ev_bk 1 (S' := (37, [some (.ref 367), some (vI x1), some (vI x2), some (vI x3)], [.ref 367, .ref 426, vI (100 * (S.1 367 95)), .ref 425], hp S, 0, 0)) rfl ?_
      refine mv_gfI rfl rfl (sh_367) (by decide) rfl ?_
      obtain ⟨b2, F⟩ := F
      refine mv_ial rfl (sh_426) b2 ?_
      refine mv_iadd rfl ?_
      refine ev_bk 1 (S' := (43, [some (.ref 367), some (vI x1), some (vI x2), some (vI x3)], [.ref 367, vI ((100 * (S.1 367 95)) + (S.1 426 (w32 (S.1 367 95)))), .ref 425], hp S, 0, 0)) rfl ?_
      refine mv_gfR rfl rfl (sh_367) (by decide) rfl ?_
      refine ev_bk 2 (S' := (48, [some (.ref 367), some (vI x1), some (vI x2), some (vI x3)], [vI x3, vI x1, .ref 368, vI ((100 * (S.1 367 95)) + (S.1 426 (w32 (S.1 367 95)))), .ref 425], hp S, 0, 0)) rfl ?_
      refine mv_iadd rfl ?_
      obtain ⟨b3, F⟩ := F
      refine mv_bal rfl (sh_368) b3 ?_
      obtain ⟨b4, F⟩ := F
      refine mv_bas rfl (sh_425) b4 ?_
      have F := F _ rfl
      refine ev_bk 1 (S' := (52, [some (.ref 367), some (vI x1), some (vI x2), some (vI x3)], [.ref 367], hp (wI S 425 (w32 ((100 * (S.1 367 95)) + (S.1 426 (w32 (S.1 367 95))))) (b8 (S.1 368 (w32 (x1 + x3))))), 0, 0)) rfl ?_
      refine mv_gfR rfl rfl (sh_367) (by decide) rfl ?_
      refine ev_bk 1 (S' := (56, [some (.ref 367), some (vI x1), some (vI x2), some (vI x3)], [.ref 367, .ref 426], hp (wI S 425 (w32 ((100 * (S.1 367 95)) + (S.1 426 (w32 (S.1 367 95))))) (b8 (S.1 368 (w32 (x1 + x3))))), 0, 0)) rfl ?_
      refine mv_gfI rfl rfl (sh_367) (by decide) rfl ?_
      refine ev_bk 1 (S' := (60, [some (.ref 367), some (vI x1), some (vI x2), some (vI x3)], [vI ((wI S 425 (w32 ((100 * (S.1 367 95)) + (S.1 426 (w32 (S.1 367 95))))) (b8 (S.1 368 (w32 (x1 + x3))))).1 367 95), .ref 426, vI ((wI S 425 (w32 ((100 * (S.1 367 95)) + (S.1 426 (w32 (S.1 367 95))))) (b8 (S.1 368 (w32 (x1 + x3))))).1 367 95), .ref 426], hp (wI S 425 (w32 ((100 * (S.1 367 95)) + (S.1 426 (w32 (S.1 367 95))))) (b8 (S.1 368 (w32 (x1 + x3))))), 0, 0)) rfl ?_
      obtain ⟨b6, F⟩ := F
      refine mv_ial rfl (sh_426) b6 ?_
      refine ev_bk 1 (S' := (62, [some (.ref 367), some (vI x1), some (vI x2), some (vI x3)], [vI 1, vI ((wI S 425 (w32 ((100 * (S.1 367 95)) + (S.1 426 (w32 (S.1 367 95))))) (b8 (S.1 368 (w32 (x1 + x3))))).1 426 (w32 ((wI S 425 (w32 ((100 * (S.1 367 95)) + (S.1 426 (w32 (S.1 367 95))))) (b8 (S.1 368 (w32 (x1 + x3))))).1 367 95))), vI ((wI S 425 (w32 ((100 * (S.1 367 95)) + (S.1 426 (w32 (S.1 367 95))))) (b8 (S.1 368 (w32 (x1 + x3))))).1 367 95), .ref 426], hp (wI S 425 (w32 ((100 * (S.1 367 95)) + (S.1 426 (w32 (S.1 367 95))))) (b8 (S.1 368 (w32 (x1 + x3))))), 0, 0)) rfl ?_
      refine mv_iadd rfl ?_
      obtain ⟨b7, F⟩ := F
      refine mv_ias rfl (sh_426) b7 ?_
      have F := F _ rfl
      refine mv_inc (lv' := [some (.ref 367), some (vI x1), some (vI x2), some (vI (x3 + 1))]) 3 1 rfl rfl rfl rfl ?_
      refine mv_goto 2 rfl rfl ?_
      exact F
theorem vc_MD_entryOf {q : Nat × (Nat → Int32)} {S S' : ms} {r : Option Value} (x1 x2 x4 x5 : Int) (a3 na3 : Nat) (ha3 : SH a3 = (1, na3, []))
    (F : (0 ≤ w32 (S.1 367 95) ∧ w32 (S.1 367 95) < (16 : Nat)) ∧ ∀ S2 : ms, S2 = wI S 427 (w32 (S.1 367 95)) x1 → (0 ≤ w32 (S2.1 367 95) ∧ w32 (S2.1 367 95) < (16 : Nat)) ∧ ∀ S4 : ms, S4 = wI S2 428 (w32 (S2.1 367 95)) x2 → (0 ≤ w32 (S4.1 367 95) ∧ w32 (S4.1 367 95) < (16 : Nat)) ∧ ∀ S6 : ms, S6 = wI S4 430 (w32 (S4.1 367 95)) x5 → EV q 397 34 [some (.ref 367), some (vI x1), some (vI x2), some (.ref a3), some (vI x4), some (vI x5), some (vI 0)] [] S6 r S') : EV q 397 0 [some (.ref 367), some (vI x1), some (vI x2), some (.ref a3), some (vI x4), some (vI x5), none] [] S r S' := by
  unfold EV
  refine ev_bk 1 (S' := (1, [some (.ref 367), some (vI x1), some (vI x2), some (.ref a3), some (vI x4), some (vI x5), none], [.ref 367], hp S, 0, 0)) rfl ?_
  refine mv_gfR rfl rfl (sh_367) (by decide) rfl ?_
  refine ev_bk 1 (S' := (5, [some (.ref 367), some (vI x1), some (vI x2), some (.ref a3), some (vI x4), some (vI x5), none], [.ref 367, .ref 427], hp S, 0, 0)) rfl ?_
  refine mv_gfI rfl rfl (sh_367) (by decide) rfl ?_
  refine ev_bk 1 (S' := (9, [some (.ref 367), some (vI x1), some (vI x2), some (.ref a3), some (vI x4), some (vI x5), none], [vI x1, vI (S.1 367 95), .ref 427], hp S, 0, 0)) rfl ?_
  obtain ⟨b1, F⟩ := F
  refine mv_ias rfl (sh_427) b1 ?_
  have F := F _ rfl
  refine ev_bk 1 (S' := (11, [some (.ref 367), some (vI x1), some (vI x2), some (.ref a3), some (vI x4), some (vI x5), none], [.ref 367], hp (wI S 427 (w32 (S.1 367 95)) x1), 0, 0)) rfl ?_
  refine mv_gfR rfl rfl (sh_367) (by decide) rfl ?_
  refine ev_bk 1 (S' := (15, [some (.ref 367), some (vI x1), some (vI x2), some (.ref a3), some (vI x4), some (vI x5), none], [.ref 367, .ref 428], hp (wI S 427 (w32 (S.1 367 95)) x1), 0, 0)) rfl ?_
  refine mv_gfI rfl rfl (sh_367) (by decide) rfl ?_
  refine ev_bk 1 (S' := (19, [some (.ref 367), some (vI x1), some (vI x2), some (.ref a3), some (vI x4), some (vI x5), none], [vI x2, vI ((wI S 427 (w32 (S.1 367 95)) x1).1 367 95), .ref 428], hp (wI S 427 (w32 (S.1 367 95)) x1), 0, 0)) rfl ?_
  obtain ⟨b3, F⟩ := F
  refine mv_ias rfl (sh_428) b3 ?_
  have F := F _ rfl
  refine ev_bk 1 (S' := (21, [some (.ref 367), some (vI x1), some (vI x2), some (.ref a3), some (vI x4), some (vI x5), none], [.ref 367], hp (wI (wI S 427 (w32 (S.1 367 95)) x1) 428 (w32 ((wI S 427 (w32 (S.1 367 95)) x1).1 367 95)) x2), 0, 0)) rfl ?_
  refine mv_gfR rfl rfl (sh_367) (by decide) rfl ?_
  refine ev_bk 1 (S' := (25, [some (.ref 367), some (vI x1), some (vI x2), some (.ref a3), some (vI x4), some (vI x5), none], [.ref 367, .ref 430], hp (wI (wI S 427 (w32 (S.1 367 95)) x1) 428 (w32 ((wI S 427 (w32 (S.1 367 95)) x1).1 367 95)) x2), 0, 0)) rfl ?_
  refine mv_gfI rfl rfl (sh_367) (by decide) rfl ?_
  refine ev_bk 1 (S' := (30, [some (.ref 367), some (vI x1), some (vI x2), some (.ref a3), some (vI x4), some (vI x5), none], [vI x5, vI ((wI (wI S 427 (w32 (S.1 367 95)) x1) 428 (w32 ((wI S 427 (w32 (S.1 367 95)) x1).1 367 95)) x2).1 367 95), .ref 430], hp (wI (wI S 427 (w32 (S.1 367 95)) x1) 428 (w32 ((wI S 427 (w32 (S.1 367 95)) x1).1 367 95)) x2), 0, 0)) rfl ?_
  obtain ⟨b5, F⟩ := F
  refine mv_ias rfl (sh_430) b5 ?_
  have F := F _ rfl
  refine ev_bk 2 (S' := (34, [some (.ref 367), some (vI x1), some (vI x2), some (.ref a3), some (vI x4), some (vI x5), some (vI 0)], [], hp (wI (wI (wI S 427 (w32 (S.1 367 95)) x1) 428 (w32 ((wI S 427 (w32 (S.1 367 95)) x1).1 367 95)) x2) 430 (w32 ((wI (wI S 427 (w32 (S.1 367 95)) x1) 428 (w32 ((wI S 427 (w32 (S.1 367 95)) x1).1 367 95)) x2).1 367 95)) x5), 0, 0)) rfl ?_
  exact F
theorem vc_MD_entryOf_34 {q : Nat × (Nat → Int32)} {S S' : ms} {r : Option Value} (x1 x2 x4 x5 x6 : Int) (a3 na3 : Nat) (ha3 : SH a3 = (1, na3, []))
    (F : ((w32 x5 ≤ w32 x6) → ∀ S1 : ms, S1 = wI S 367 95 (S.1 367 95 + 1) → r = none ∧ S' = S1) ∧ ((¬ w32 x5 ≤ w32 x6) → (0 ≤ w32 (x4 + x6) ∧ w32 (x4 + x6) < (na3 : Nat)) ∧ (0 ≤ w32 ((6000 * (S.1 367 95)) + x6) ∧ w32 ((6000 * (S.1 367 95)) + x6) < (96000 : Nat)) ∧ ∀ S4 : ms, S4 = wI S 429 (w32 ((6000 * (S.1 367 95)) + x6)) (b8 (S.1 a3 (w32 (x4 + x6)))) → EV q 397 34 [some (.ref 367), some (vI x1), some (vI x2), some (.ref a3), some (vI x4), some (vI x5), some (vI (x6 + 1))] [] S4 r S')) : EV q 397 34 [some (.ref 367), some (vI x1), some (vI x2), some (.ref a3), some (vI x4), some (vI x5), some (vI x6)] [] S r S' := by
  unfold EV
  refine ev_bk 2 (S' := (38, [some (.ref 367), some (vI x1), some (vI x2), some (.ref a3), some (vI x4), some (vI x5), some (vI x6)], [vI x5, vI x6], hp S, 0, 0)) rfl ?_
  refine mv_icmp 70 rfl rfl (fun c => ?_) (fun c => ?_)
  · have F := F.1 c
    refine ev_bk 2 (S' := (72, [some (.ref 367), some (vI x1), some (vI x2), some (.ref a3), some (vI x4), some (vI x5), some (vI x6)], [.ref 367, .ref 367], hp S, 0, 0)) rfl ?_
    refine mv_gfI rfl rfl (sh_367) (by decide) rfl ?_
    refine ev_bk 1 (S' := (76, [some (.ref 367), some (vI x1), some (vI x2), some (.ref a3), some (vI x4), some (vI x5), some (vI x6)], [vI 1, vI (S.1 367 95), .ref 367], hp S, 0, 0)) rfl ?_
    refine mv_iadd rfl ?_
    refine mv_pfI rfl rfl (sh_367) (by decide) rfl rfl ?_
    have F := F _ rfl
    obtain ⟨rfl, rfl⟩ := F
    exact ev_ret rfl rfl
  · have F := F.2 c
    refine ev_bk 1 (S' := (42, [some (.ref 367), some (vI x1), some (vI x2), some (.ref a3), some (vI x4), some (vI x5), some (vI x6)], [.ref 367], hp S, 0, 0)) rfl ?_
    refine mv_gfR rfl rfl (sh_367) (by decide) rfl ?_
    refine ev_bk 2 (S' := (49, [some (.ref 367), some (vI x1), some (vI x2), some (.ref a3), some (vI x4), some (vI x5), some (vI x6)], [.ref 367, vI 6000, .ref 429], hp S, 0, 0)) rfl ?_
    refine mv_gfI rfl rfl (sh_367) (by decide) rfl ?_
    refine mv_imul rfl ?_
    refine ev_bk 1 (S' := (55, [some (.ref 367), some (vI x1), some (vI x2), some (.ref a3), some (vI x4), some (vI x5), some (vI x6)], [vI x6, vI (6000 * (S.1 367 95)), .ref 429], hp S, 0, 0)) rfl ?_
    refine mv_iadd rfl ?_
    refine ev_bk 3 (S' := (61, [some (.ref 367), some (vI x1), some (vI x2), some (.ref a3), some (vI x4), some (vI x5), some (vI x6)], [vI x6, vI x4, .ref a3, vI ((6000 * (S.1 367 95)) + x6), .ref 429], hp S, 0, 0)) rfl ?_
    refine mv_iadd rfl ?_
    obtain ⟨b2, F⟩ := F
    refine mv_bal rfl (ha3) b2 ?_
    obtain ⟨b3, F⟩ := F
    refine mv_bas rfl (sh_429) b3 ?_
    have F := F _ rfl
    refine mv_inc (lv' := [some (.ref 367), some (vI x1), some (vI x2), some (.ref a3), some (vI x4), some (vI x5), some (vI (x6 + 1))]) 6 1 rfl rfl rfl rfl ?_
    refine mv_goto 34 rfl rfl ?_
    exact F
theorem vc_MD_readBench {q : Nat × (Nat → Int32)} {S S' : ms} {r : Option Value}
    (F : ((8 ≤ w32 (S.1 367 2)) → EV q 398 21 [some (.ref 367), some (vI 0), none, none, none, none, none, none, none, none, none, none] [] S r S') ∧ ((¬ 8 ≤ w32 (S.1 367 2)) → ∃ (S1 : ms), EV q 335 0 [some (.ref 367), some (vI 1), some (vI (S.1 367 2))] [] S none S1 ∧ r = none ∧ S' = S1)) : EV q 398 0 [some (.ref 367), none, none, none, none, none, none, none, none, none, none, none] [] S r S' := by
  unfold EV
  refine ev_bk 1 (S' := (1, [some (.ref 367), none, none, none, none, none, none, none, none, none, none, none], [.ref 367], hp S, 0, 0)) rfl ?_
  refine mv_gfI rfl rfl (sh_367) (by decide) rfl ?_
  refine ev_bk 1 (S' := (6, [some (.ref 367), none, none, none, none, none, none, none, none, none, none, none], [vI 8, vI (S.1 367 2)], hp S, 0, 0)) rfl ?_
  refine mv_icmp 19 rfl rfl (fun c => ?_) (fun c => ?_)
  · have F := F.1 c
    refine ev_bk 2 (S' := (21, [some (.ref 367), some (vI 0), none, none, none, none, none, none, none, none, none, none], [], hp S, 0, 0)) rfl ?_
    exact F
  · have F := F.2 c
    refine ev_bk 3 (S' := (12, [some (.ref 367), none, none, none, none, none, none, none, none, none, none, none], [.ref 367, vI 1, .ref 367], hp S, 0, 0)) rfl ?_
    refine mv_gfI rfl rfl (sh_367) (by decide) rfl ?_
    obtain ⟨S1, e2, F⟩ := F
    refine mv_calv (as := [vI 1, vI (S.1 367 2)]) (rest := []) e2 (sh_367) rfl rfl rfl ⟨rfl, rfl⟩ rfl rfl rfl rfl rfl ?_
    obtain ⟨rfl, rfl⟩ := F
    exact ev_ret rfl rfl
theorem vc_MD_readBench_21 {q : Nat × (Nat → Int32)} {S S' : ms} {r : Option Value} (x1 : Int)
    (F : ((8 ≤ w32 x1) → EV q 398 58 [some (.ref 367), some (vI 8), none, none, none, none, none, none, none, none, none, none] [] S r S') ∧ ((¬ 8 ≤ w32 x1) → (0 ≤ w32 x1 ∧ w32 x1 < (6000 : Nat)) ∧ (0 ≤ w32 x1 ∧ w32 x1 < (8 : Nat)) ∧ ((w32 (S.1 368 (w32 x1)) = w32 (sS 10 (w32 x1))) → EV q 398 21 [some (.ref 367), some (vI (x1 + 1)), none, none, none, none, none, none, none, none, none, none] [] S r S') ∧ ((¬ w32 (S.1 368 (w32 x1)) = w32 (sS 10 (w32 x1))) → ∃ (S3 : ms), EV q 335 0 [some (.ref 367), some (vI 110), some (vI 0)] [] S none S3 ∧ r = none ∧ S' = S3))) : EV q 398 21 [some (.ref 367), some (vI x1), none, none, none, none, none, none, none, none, none, none] [] S r S' := by
  unfold EV
  refine ev_bk 2 (S' := (24, [some (.ref 367), some (vI x1), none, none, none, none, none, none, none, none, none, none], [vI 8, vI x1], hp S, 0, 0)) rfl ?_
  refine mv_icmp 55 rfl rfl (fun c => ?_) (fun c => ?_)
  · have F := F.1 c
    refine ev_bk 2 (S' := (58, [some (.ref 367), some (vI 8), none, none, none, none, none, none, none, none, none, none], [], hp S, 0, 0)) rfl ?_
    exact F
  · have F := F.2 c
    refine ev_bk 1 (S' := (28, [some (.ref 367), some (vI x1), none, none, none, none, none, none, none, none, none, none], [.ref 367], hp S, 0, 0)) rfl ?_
    refine mv_gfR rfl rfl (sh_367) (by decide) rfl ?_
    refine ev_bk 1 (S' := (32, [some (.ref 367), some (vI x1), none, none, none, none, none, none, none, none, none, none], [vI x1, .ref 368], hp S, 0, 0)) rfl ?_
    obtain ⟨b1, F⟩ := F
    refine mv_bal rfl (sh_368) b1 ?_
    refine mv_gs (k := 10) rfl rfl ?_
    refine ev_bk 1 (S' := (37, [some (.ref 367), some (vI x1), none, none, none, none, none, none, none, none, none, none], [vI x1, .ref (en_b + 10), vI (S.1 368 (w32 x1))], hp S, 0, 0)) rfl ?_
    obtain ⟨b2, F⟩ := F
    refine mv_sal (k := 10) rfl rfl (by decide) b2 ?_
    refine mv_icmp 49 rfl rfl (fun c => ?_) (fun c => ?_)
    · have F := F.1 c
      refine mv_inc (lv' := [some (.ref 367), some (vI (x1 + 1)), none, none, none, none, none, none, none, none, none, none]) 1 1 rfl rfl rfl rfl ?_
      refine mv_goto 21 rfl rfl ?_
      exact F
    · have F := F.2 c
      refine ev_bk 3 (S' := (45, [some (.ref 367), some (vI x1), none, none, none, none, none, none, none, none, none, none], [vI 0, vI 110, .ref 367], hp S, 0, 0)) rfl ?_
      obtain ⟨S3, e4, F⟩ := F
      refine mv_calv (as := [vI 110, vI 0]) (rest := []) e4 (sh_367) rfl rfl rfl ⟨rfl, rfl⟩ rfl rfl rfl rfl rfl ?_
      obtain ⟨rfl, rfl⟩ := F
      exact ev_ret rfl rfl
theorem vc_MD_readBench_58 {q : Nat × (Nat → Int32)} {S S' : ms} {r : Option Value} (x1 : Int)
    (F : ∃ (z3 : Int) (S1 : ms), EV q 333 0 [some (.ref 367)] [] S (some (vI z3)) S1 ∧ ((w32 z3 = 0) → r = none ∧ S' = S1) ∧ ((¬ w32 z3 = 0) → ((w32 (S1.1 367 2) ≤ w32 x1) → r = none ∧ S' = S1) ∧ ((¬ w32 (S1.1 367 2) ≤ w32 x1) → ((60 ≤ w32 ((S1.1 367 2) - x1)) → ∃ (z6 : Int) (S4 : ms), EV q 399 0 [some (.ref 367), some (vI (x1 + 16)), some (vI 12), some (vI 10), none, none, none, none, none] [] S1 (some (vL z6)) S4 ∧ ∃ (z9 : Int) (S7 : ms), EV q 399 0 [some (.ref 367), some (vI (x1 + 40)), some (vI 8), some (vI 8), none, none, none, none, none] [] S4 (some (vL z9)) S7 ∧ ∃ (z12 : Int) (S10 : ms), EV q 399 0 [some (.ref 367), some (vI (x1 + 48)), some (vI 10), some (vI 10), none, none, none, none, none] [] S7 (some (vL z12)) S10 ∧ EV q 398 138 [some (.ref 367), some (vI x1), some (vL z6), none, some (vL z9), none, some (vL z12), none, some (vI 0), none, none, none] [] S10 r S') ∧ ((¬ 60 ≤ w32 ((S1.1 367 2) - x1)) → ∃ (S13 : ms), EV q 335 0 [some (.ref 367), some (vI 1), some (vI (S1.1 367 2))] [] S1 none S13 ∧ r = none ∧ S' = S13)))) : EV q 398 58 [some (.ref 367), some (vI x1), none, none, none, none, none, none, none, none, none, none] [] S r S' := by
  unfold EV
  refine ev_bk 1 (S' := (59, [some (.ref 367), some (vI x1), none, none, none, none, none, none, none, none, none, none], [.ref 367], hp S, 0, 0)) rfl ?_
  obtain ⟨z3, S1, e2, F⟩ := F
  refine mv_calv (as := []) (rest := []) e2 (sh_367) rfl rfl rfl ⟨rfl, rfl⟩ rfl rfl rfl rfl rfl ?_
  refine mv_if 398 rfl rfl (fun c => ?_) (fun c => ?_)
  · have F := F.1 c
    obtain ⟨rfl, rfl⟩ := F
    exact ev_ret rfl rfl
  · have F := F.2 c
    refine ev_bk 2 (S' := (67, [some (.ref 367), some (vI x1), none, none, none, none, none, none, none, none, none, none], [.ref 367, vI x1], hp S1, 0, 0)) rfl ?_
    refine mv_gfI rfl rfl (sh_367) (by decide) rfl ?_
    refine mv_icmp 398 rfl rfl (fun c => ?_) (fun c => ?_)
    · have F := F.1 c
      obtain ⟨rfl, rfl⟩ := F
      exact ev_ret rfl rfl
    · have F := F.2 c
      refine ev_bk 1 (S' := (74, [some (.ref 367), some (vI x1), none, none, none, none, none, none, none, none, none, none], [.ref 367], hp S1, 0, 0)) rfl ?_
      refine mv_gfI rfl rfl (sh_367) (by decide) rfl ?_
      refine ev_bk 1 (S' := (78, [some (.ref 367), some (vI x1), none, none, none, none, none, none, none, none, none, none], [vI x1, vI (S1.1 367 2)], hp S1, 0, 0)) rfl ?_
      refine mv_isub rfl ?_
      refine ev_bk 1 (S' := (81, [some (.ref 367), some (vI x1), none, none, none, none, none, none, none, none, none, none], [vI 60, vI ((S1.1 367 2) - x1)], hp S1, 0, 0)) rfl ?_
      refine mv_icmp 94 rfl rfl (fun c => ?_) (fun c => ?_)
      · have F := F.1 c
        refine ev_bk 3 (S' := (98, [some (.ref 367), some (vI x1), none, none, none, none, none, none, none, none, none, none], [vI 16, vI x1, .ref 367], hp S1, 0, 0)) rfl ?_
        refine mv_iadd rfl ?_
        refine ev_bk 2 (S' := (103, [some (.ref 367), some (vI x1), none, none, none, none, none, none, none, none, none, none], [vI 10, vI 12, vI (x1 + 16), .ref 367], hp S1, 0, 0)) rfl ?_
        obtain ⟨z6, S4, e5, F⟩ := F
        refine mv_calv (as := [vI (x1 + 16), vI 12, vI 10]) (rest := []) e5 (sh_367) rfl rfl rfl ⟨rfl, rfl⟩ rfl rfl rfl rfl rfl ?_
        refine ev_bk 4 (S' := (111, [some (.ref 367), some (vI x1), some (vL z6), none, none, none, none, none, none, none, none, none], [vI 40, vI x1, .ref 367], hp S4, 0, 0)) rfl ?_
        refine mv_iadd rfl ?_
        refine ev_bk 2 (S' := (116, [some (.ref 367), some (vI x1), some (vL z6), none, none, none, none, none, none, none, none, none], [vI 8, vI 8, vI (x1 + 40), .ref 367], hp S4, 0, 0)) rfl ?_
        obtain ⟨z9, S7, e8, F⟩ := F
        refine mv_calv (as := [vI (x1 + 40), vI 8, vI 8]) (rest := []) e8 (sh_367) rfl rfl rfl ⟨rfl, rfl⟩ rfl rfl rfl rfl rfl ?_
        refine ev_bk 4 (S' := (125, [some (.ref 367), some (vI x1), some (vL z6), none, some (vL z9), none, none, none, none, none, none, none], [vI 48, vI x1, .ref 367], hp S7, 0, 0)) rfl ?_
        refine mv_iadd rfl ?_
        refine ev_bk 2 (S' := (130, [some (.ref 367), some (vI x1), some (vL z6), none, some (vL z9), none, none, none, none, none, none, none], [vI 10, vI 10, vI (x1 + 48), .ref 367], hp S7, 0, 0)) rfl ?_
        obtain ⟨z12, S10, e11, F⟩ := F
        refine mv_calv (as := [vI (x1 + 48), vI 10, vI 10]) (rest := []) e11 (sh_367) rfl rfl rfl ⟨rfl, rfl⟩ rfl rfl rfl rfl rfl ?_
        refine ev_bk 3 (S' := (138, [some (.ref 367), some (vI x1), some (vL z6), none, some (vL z9), none, some (vL z12), none, some (vI 0), none, none, none], [], hp S10, 0, 0)) rfl ?_
        exact F
      · have F := F.2 c
        refine ev_bk 3 (S' := (87, [some (.ref 367), some (vI x1), none, none, none, none, none, none, none, none, none, none], [.ref 367, vI 1, .ref 367], hp S1, 0, 0)) rfl ?_
        refine mv_gfI rfl rfl (sh_367) (by decide) rfl ?_
        obtain ⟨S13, e14, F⟩ := F
        refine mv_calv (as := [vI 1, vI (S1.1 367 2)]) (rest := []) e14 (sh_367) rfl rfl rfl ⟨rfl, rfl⟩ rfl rfl rfl rfl rfl ?_
        obtain ⟨rfl, rfl⟩ := F
        exact ev_ret rfl rfl
theorem vc_MD_readBench_138 {q : Nat × (Nat → Int32)} {S S' : ms} {r : Option Value} (x1 x2 x4 x6 x8 : Int)
    (F : ((16 ≤ w32 x8) → EV q 398 165 [some (.ref 367), some (vI x1), some (vL x2), none, some (vL x4), none, some (vL x6), none, some (vI x8), none, none, none] [] S r S') ∧ ((¬ 16 ≤ w32 x8) → (0 ≤ w32 (x1 + x8) ∧ w32 (x1 + x8) < (6000 : Nat)) ∧ ((w32 (S.1 368 (w32 (x1 + x8))) = 47) → EV q 398 165 [some (.ref 367), some (vI x1), some (vL x2), none, some (vL x4), none, some (vL x6), none, some (vI x8), none, none, none] [] S r S') ∧ ((¬ w32 (S.1 368 (w32 (x1 + x8))) = 47) → EV q 398 138 [some (.ref 367), some (vI x1), some (vL x2), none, some (vL x4), none, some (vL x6), none, some (vI (x8 + 1)), none, none, none] [] S r S'))) : EV q 398 138 [some (.ref 367), some (vI x1), some (vL x2), none, some (vL x4), none, some (vL x6), none, some (vI x8), none, none, none] [] S r S' := by
  unfold EV
  refine ev_bk 2 (S' := (142, [some (.ref 367), some (vI x1), some (vL x2), none, some (vL x4), none, some (vL x6), none, some (vI x8), none, none, none], [vI 16, vI x8], hp S, 0, 0)) rfl ?_
  refine mv_icmp 165 rfl rfl (fun c => ?_) (fun c => ?_)
  · have F := F.1 c
    exact F
  · have F := F.2 c
    refine ev_bk 1 (S' := (146, [some (.ref 367), some (vI x1), some (vL x2), none, some (vL x4), none, some (vL x6), none, some (vI x8), none, none, none], [.ref 367], hp S, 0, 0)) rfl ?_
    refine mv_gfR rfl rfl (sh_367) (by decide) rfl ?_
    refine ev_bk 2 (S' := (152, [some (.ref 367), some (vI x1), some (vL x2), none, some (vL x4), none, some (vL x6), none, some (vI x8), none, none, none], [vI x8, vI x1, .ref 368], hp S, 0, 0)) rfl ?_
    refine mv_iadd rfl ?_
    obtain ⟨b1, F⟩ := F
    refine mv_bal rfl (sh_368) b1 ?_
    refine ev_bk 1 (S' := (156, [some (.ref 367), some (vI x1), some (vL x2), none, some (vL x4), none, some (vL x6), none, some (vI x8), none, none, none], [vI 47, vI (S.1 368 (w32 (x1 + x8)))], hp S, 0, 0)) rfl ?_
    refine mv_icmp 165 rfl rfl (fun c => ?_) (fun c => ?_)
    · have F := F.1 c
      exact F
    · have F := F.2 c
      refine mv_inc (lv' := [some (.ref 367), some (vI x1), some (vL x2), none, some (vL x4), none, some (vL x6), none, some (vI (x8 + 1)), none, none, none]) 8 1 rfl rfl rfl rfl ?_
      refine mv_goto 138 rfl rfl ?_
      exact F
theorem vc_MD_readBench_165 {q : Nat × (Nat → Int32)} {S S' : ms} {r : Option Value} (x1 x2 x4 x6 x8 : Int)
    (F : ∃ (z3 : Int) (S1 : ms), EV q 395 0 [some (.ref 367), some (vI x1), some (vI x8), none] [] S (some (vI z3)) S1 ∧ ((w32 x8 ≤ w32 z3) → EV q 398 182 [some (.ref 367), some (vI x1), some (vL x2), none, some (vL x4), none, some (vL x6), none, some (vI x8), none, none, none] [vI 0] S1 r S') ∧ ((¬ w32 x8 ≤ w32 z3) → EV q 398 182 [some (.ref 367), some (vI x1), some (vL x2), none, some (vL x4), none, some (vL x6), none, some (vI x8), none, none, none] [vI 1] S1 r S')) : EV q 398 165 [some (.ref 367), some (vI x1), some (vL x2), none, some (vL x4), none, some (vL x6), none, some (vI x8), none, none, none] [] S r S' := by
  unfold EV
  refine ev_bk 3 (S' := (169, [some (.ref 367), some (vI x1), some (vL x2), none, some (vL x4), none, some (vL x6), none, some (vI x8), none, none, none], [vI x8, vI x1, .ref 367], hp S, 0, 0)) rfl ?_
  obtain ⟨z3, S1, e2, F⟩ := F
  refine mv_calv (as := [vI x1, vI x8]) (rest := []) e2 (sh_367) rfl rfl rfl ⟨rfl, rfl⟩ rfl rfl rfl rfl rfl ?_
  refine ev_bk 1 (S' := (174, [some (.ref 367), some (vI x1), some (vL x2), none, some (vL x4), none, some (vL x6), none, some (vI x8), none, none, none], [vI x8, vI z3], hp S1, 0, 0)) rfl ?_
  refine mv_icmp 181 rfl rfl (fun c => ?_) (fun c => ?_)
  · have F := F.1 c
    refine ev_bk 1 (S' := (182, [some (.ref 367), some (vI x1), some (vL x2), none, some (vL x4), none, some (vL x6), none, some (vI x8), none, none, none], [vI 0], hp S1, 0, 0)) rfl ?_
    exact F
  · have F := F.2 c
    refine ev_bk 1 (S' := (178, [some (.ref 367), some (vI x1), some (vL x2), none, some (vL x4), none, some (vL x6), none, some (vI x8), none, none, none], [vI 1], hp S1, 0, 0)) rfl ?_
    refine mv_goto 182 rfl rfl ?_
    exact F
theorem vc_MD_readBench_182 {q : Nat × (Nat → Int32)} {S S' : ms} {r : Option Value} (x1 x2 x4 x6 x8 y0 : Int)
    (F : (0 ≤ w32 (x1 + 58) ∧ w32 (x1 + 58) < (6000 : Nat)) ∧ ((¬ w32 (S.1 368 (w32 (x1 + 58))) = 96) → EV q 398 212 [some (.ref 367), some (vI x1), some (vL x2), none, some (vL x4), none, some (vL x6), none, some (vI x8), some (vI y0), none, none] [] S r S') ∧ ((¬ (¬ w32 (S.1 368 (w32 (x1 + 58))) = 96)) → (0 ≤ w32 (x1 + 59) ∧ w32 (x1 + 59) < (6000 : Nat)) ∧ ((w32 (S.1 368 (w32 (x1 + 59))) = 10) → ((w64 x2 < w64 0) → EV q 398 245 [some (.ref 367), some (vI x1), some (vL x2), none, some (vL x4), none, some (vL x6), none, some (vI x8), some (vI y0), none, none] [] S r S') ∧ ((¬ w64 x2 < w64 0) → ((w64 x4 < w64 0) → EV q 398 245 [some (.ref 367), some (vI x1), some (vL x2), none, some (vL x4), none, some (vL x6), none, some (vI x8), some (vI y0), none, none] [] S r S') ∧ ((¬ w64 x4 < w64 0) → ((w64 x6 < w64 0) → EV q 398 245 [some (.ref 367), some (vI x1), some (vL x2), none, some (vL x4), none, some (vL x6), none, some (vI x8), some (vI y0), none, none] [] S r S') ∧ ((¬ w64 x6 < w64 0) → ((w64 x2 ≤ w64 2147483647) → ((w32 x8 = 0) → EV q 398 267 [some (.ref 367), some (vI x1), some (vL x2), none, some (vL x4), none, some (vL x6), none, some (vI x8), some (vI y0), none, none] [] S r S') ∧ ((¬ w32 x8 = 0) → ((w32 x8 = 16) → EV q 398 267 [some (.ref 367), some (vI x1), some (vL x2), none, some (vL x4), none, some (vL x6), none, some (vI x8), some (vI y0), none, none] [] S r S') ∧ ((¬ w32 x8 = 16) → ((w32 y0 = 0) → ((w32 (S.1 367 95) = 16) → EV q 398 290 [some (.ref 367), some (vI x1), some (vL x2), none, some (vL x4), none, some (vL x6), none, some (vI x8), some (vI y0), none, none] [] S r S') ∧ ((¬ w32 (S.1 367 95) = 16) → ((w64 x6 ≤ w64 6000) → EV q 398 296 [some (.ref 367), some (vI x1), some (vL x2), none, some (vL x4), none, some (vL x6), none, some (vI x8), some (vI y0), none, none] [vI 0] S r S') ∧ ((¬ w64 x6 ≤ w64 6000) → EV q 398 290 [some (.ref 367), some (vI x1), some (vL x2), none, some (vL x4), none, some (vL x6), none, some (vI x8), some (vI y0), none, none] [] S r S'))) ∧ ((¬ w32 y0 = 0) → EV q 398 267 [some (.ref 367), some (vI x1), some (vL x2), none, some (vL x4), none, some (vL x6), none, some (vI x8), some (vI y0), none, none] [] S r S')))) ∧ ((¬ w64 x2 ≤ w64 2147483647) → EV q 398 245 [some (.ref 367), some (vI x1), some (vL x2), none, some (vL x4), none, some (vL x6), none, some (vI x8), some (vI y0), none, none] [] S r S'))))) ∧ ((¬ w32 (S.1 368 (w32 (x1 + 59))) = 10) → EV q 398 212 [some (.ref 367), some (vI x1), some (vL x2), none, some (vL x4), none, some (vL x6), none, some (vI x8), some (vI y0), none, none] [] S r S'))) : EV q 398 182 [some (.ref 367), some (vI x1), some (vL x2), none, some (vL x4), none, some (vL x6), none, some (vI x8), none, none, none] [vI y0] S r S' := by
  unfold EV
  refine ev_bk 2 (S' := (185, [some (.ref 367), some (vI x1), some (vL x2), none, some (vL x4), none, some (vL x6), none, some (vI x8), some (vI y0), none, none], [.ref 367], hp S, 0, 0)) rfl ?_
  refine mv_gfR rfl rfl (sh_367) (by decide) rfl ?_
  refine ev_bk 2 (S' := (191, [some (.ref 367), some (vI x1), some (vL x2), none, some (vL x4), none, some (vL x6), none, some (vI x8), some (vI y0), none, none], [vI 58, vI x1, .ref 368], hp S, 0, 0)) rfl ?_
  refine mv_iadd rfl ?_
  obtain ⟨b1, F⟩ := F
  refine mv_bal rfl (sh_368) b1 ?_
  refine ev_bk 1 (S' := (195, [some (.ref 367), some (vI x1), some (vL x2), none, some (vL x4), none, some (vL x6), none, some (vI x8), some (vI y0), none, none], [vI 96, vI (S.1 368 (w32 (x1 + 58)))], hp S, 0, 0)) rfl ?_
  refine mv_icmp 212 rfl rfl (fun c => ?_) (fun c => ?_)
  · have F := F.1 c
    exact F
  · have F := F.2 c
    refine ev_bk 1 (S' := (199, [some (.ref 367), some (vI x1), some (vL x2), none, some (vL x4), none, some (vL x6), none, some (vI x8), some (vI y0), none, none], [.ref 367], hp S, 0, 0)) rfl ?_
    refine mv_gfR rfl rfl (sh_367) (by decide) rfl ?_
    refine ev_bk 2 (S' := (205, [some (.ref 367), some (vI x1), some (vL x2), none, some (vL x4), none, some (vL x6), none, some (vI x8), some (vI y0), none, none], [vI 59, vI x1, .ref 368], hp S, 0, 0)) rfl ?_
    refine mv_iadd rfl ?_
    obtain ⟨b2, F⟩ := F
    refine mv_bal rfl (sh_368) b2 ?_
    refine ev_bk 1 (S' := (209, [some (.ref 367), some (vI x1), some (vL x2), none, some (vL x4), none, some (vL x6), none, some (vI x8), some (vI y0), none, none], [vI 10, vI (S.1 368 (w32 (x1 + 59)))], hp S, 0, 0)) rfl ?_
    refine mv_icmp 217 rfl rfl (fun c => ?_) (fun c => ?_)
    · have F := F.1 c
      refine ev_bk 2 (S' := (219, [some (.ref 367), some (vI x1), some (vL x2), none, some (vL x4), none, some (vL x6), none, some (vI x8), some (vI y0), none, none], [vL 0, vL x2], hp S, 0, 0)) rfl ?_
      refine mv_lif 245 rfl rfl rfl (fun c => ?_) (fun c => ?_)
      · have F := F.1 c
        exact F
      · have F := F.2 c
        refine ev_bk 2 (S' := (226, [some (.ref 367), some (vI x1), some (vL x2), none, some (vL x4), none, some (vL x6), none, some (vI x8), some (vI y0), none, none], [vL 0, vL x4], hp S, 0, 0)) rfl ?_
        refine mv_lif 245 rfl rfl rfl (fun c => ?_) (fun c => ?_)
        · have F := F.1 c
          exact F
        · have F := F.2 c
          refine ev_bk 2 (S' := (233, [some (.ref 367), some (vI x1), some (vL x2), none, some (vL x4), none, some (vL x6), none, some (vI x8), some (vI y0), none, none], [vL 0, vL x6], hp S, 0, 0)) rfl ?_
          refine mv_lif 245 rfl rfl rfl (fun c => ?_) (fun c => ?_)
          · have F := F.1 c
            exact F
          · have F := F.2 c
            refine ev_bk 2 (S' := (241, [some (.ref 367), some (vI x1), some (vL x2), none, some (vL x4), none, some (vL x6), none, some (vI x8), some (vI y0), none, none], [vL 2147483647, vL x2], hp S, 0, 0)) rfl ?_
            refine mv_lif 250 rfl rfl rfl (fun c => ?_) (fun c => ?_)
            · have F := F.1 c
              refine ev_bk 1 (S' := (252, [some (.ref 367), some (vI x1), some (vL x2), none, some (vL x4), none, some (vL x6), none, some (vI x8), some (vI y0), none, none], [vI x8], hp S, 0, 0)) rfl ?_
              refine mv_if 267 rfl rfl (fun c => ?_) (fun c => ?_)
              · have F := F.1 c
                exact F
              · have F := F.2 c
                refine ev_bk 2 (S' := (259, [some (.ref 367), some (vI x1), some (vL x2), none, some (vL x4), none, some (vL x6), none, some (vI x8), some (vI y0), none, none], [vI 16, vI x8], hp S, 0, 0)) rfl ?_
                refine mv_icmp 267 rfl rfl (fun c => ?_) (fun c => ?_)
                · have F := F.1 c
                  exact F
                · have F := F.2 c
                  refine ev_bk 1 (S' := (264, [some (.ref 367), some (vI x1), some (vL x2), none, some (vL x4), none, some (vL x6), none, some (vI x8), some (vI y0), none, none], [vI y0], hp S, 0, 0)) rfl ?_
                  refine mv_if 272 rfl rfl (fun c => ?_) (fun c => ?_)
                  · have F := F.1 c
                    refine ev_bk 1 (S' := (273, [some (.ref 367), some (vI x1), some (vL x2), none, some (vL x4), none, some (vL x6), none, some (vI x8), some (vI y0), none, none], [.ref 367], hp S, 0, 0)) rfl ?_
                    refine mv_gfI rfl rfl (sh_367) (by decide) rfl ?_
                    refine ev_bk 1 (S' := (278, [some (.ref 367), some (vI x1), some (vL x2), none, some (vL x4), none, some (vL x6), none, some (vI x8), some (vI y0), none, none], [vI 16, vI (S.1 367 95)], hp S, 0, 0)) rfl ?_
                    refine mv_icmp 290 rfl rfl (fun c => ?_) (fun c => ?_)
                    · have F := F.1 c
                      exact F
                    · have F := F.2 c
                      refine ev_bk 2 (S' := (286, [some (.ref 367), some (vI x1), some (vL x2), none, some (vL x4), none, some (vL x6), none, some (vI x8), some (vI y0), none, none], [vL 6000, vL x6], hp S, 0, 0)) rfl ?_
                      refine mv_lif 295 rfl rfl rfl (fun c => ?_) (fun c => ?_)
                      · have F := F.1 c
                        refine ev_bk 1 (S' := (296, [some (.ref 367), some (vI x1), some (vL x2), none, some (vL x4), none, some (vL x6), none, some (vI x8), some (vI y0), none, none], [vI 0], hp S, 0, 0)) rfl ?_
                        exact F
                      · have F := F.2 c
                        exact F
                  · have F := F.2 c
                    exact F
            · have F := F.2 c
              exact F
    · have F := F.2 c
      exact F
theorem vc_MD_readBench_212 {q : Nat × (Nat → Int32)} {S S' : ms} {r : Option Value} (x1 x2 x4 x6 x8 x9 : Int)
    (F : EV q 398 296 [some (.ref 367), some (vI x1), some (vL x2), none, some (vL x4), none, some (vL x6), none, some (vI x8), some (vI x9), none, none] [vI 111] S r S') : EV q 398 212 [some (.ref 367), some (vI x1), some (vL x2), none, some (vL x4), none, some (vL x6), none, some (vI x8), some (vI x9), none, none] [] S r S' := by
  unfold EV
  refine ev_bk 1 (S' := (214, [some (.ref 367), some (vI x1), some (vL x2), none, some (vL x4), none, some (vL x6), none, some (vI x8), some (vI x9), none, none], [vI 111], hp S, 0, 0)) rfl ?_
  refine mv_goto 296 rfl rfl ?_
  exact F
theorem vc_MD_readBench_245 {q : Nat × (Nat → Int32)} {S S' : ms} {r : Option Value} (x1 x2 x4 x6 x8 x9 : Int)
    (F : EV q 398 296 [some (.ref 367), some (vI x1), some (vL x2), none, some (vL x4), none, some (vL x6), none, some (vI x8), some (vI x9), none, none] [vI 112] S r S') : EV q 398 245 [some (.ref 367), some (vI x1), some (vL x2), none, some (vL x4), none, some (vL x6), none, some (vI x8), some (vI x9), none, none] [] S r S' := by
  unfold EV
  refine ev_bk 1 (S' := (247, [some (.ref 367), some (vI x1), some (vL x2), none, some (vL x4), none, some (vL x6), none, some (vI x8), some (vI x9), none, none], [vI 112], hp S, 0, 0)) rfl ?_
  refine mv_goto 296 rfl rfl ?_
  exact F
theorem vc_MD_readBench_267 {q : Nat × (Nat → Int32)} {S S' : ms} {r : Option Value} (x1 x2 x4 x6 x8 x9 : Int)
    (F : EV q 398 296 [some (.ref 367), some (vI x1), some (vL x2), none, some (vL x4), none, some (vL x6), none, some (vI x8), some (vI x9), none, none] [vI 103] S r S') : EV q 398 267 [some (.ref 367), some (vI x1), some (vL x2), none, some (vL x4), none, some (vL x6), none, some (vI x8), some (vI x9), none, none] [] S r S' := by
  unfold EV
  refine ev_bk 1 (S' := (269, [some (.ref 367), some (vI x1), some (vL x2), none, some (vL x4), none, some (vL x6), none, some (vI x8), some (vI x9), none, none], [vI 103], hp S, 0, 0)) rfl ?_
  refine mv_goto 296 rfl rfl ?_
  exact F
theorem vc_MD_readBench_290 {q : Nat × (Nat → Int32)} {S S' : ms} {r : Option Value} (x1 x2 x4 x6 x8 x9 : Int)
    (F : EV q 398 296 [some (.ref 367), some (vI x1), some (vL x2), none, some (vL x4), none, some (vL x6), none, some (vI x8), some (vI x9), none, none] [vI 104] S r S') : EV q 398 290 [some (.ref 367), some (vI x1), some (vL x2), none, some (vL x4), none, some (vL x6), none, some (vI x8), some (vI x9), none, none] [] S r S' := by
  unfold EV
  refine ev_bk 1 (S' := (292, [some (.ref 367), some (vI x1), some (vL x2), none, some (vL x4), none, some (vL x6), none, some (vI x8), some (vI x9), none, none], [vI 104], hp S, 0, 0)) rfl ?_
  refine mv_goto 296 rfl rfl ?_
  exact F
theorem vc_MD_readBench_296 {q : Nat × (Nat → Int32)} {S S' : ms} {r : Option Value} (x1 x2 x4 x6 x8 x9 y0 : Int)
    (F : ((w32 y0 ≤ 0) → ((w64 x6 ≤ w64 (w32 (((S.1 367 2) - x1) - 60))) → (0 ≤ w32 (S.1 367 95) ∧ w32 (S.1 367 95) < (16 : Nat)) ∧ ∀ S2 : ms, S2 = wI S 426 (w32 (S.1 367 95)) 0 → ∃ (z5 : Int) (S3 : ms), EV q 396 0 [some (.ref 367), some (vI x1), some (vI x8), none] [] S2 (some (vI z5)) S3 ∧ ∃ (S6 : ms), EV q 397 0 [some (.ref 367), some (vI (x4 % 512)), some (vI x2), some (.ref 368), some (vI (x1 + 60)), some (vI x6), none] [] S3 none S6 ∧ EV q 398 58 [some (.ref 367), some (vI (x1 + (60 + x6 + (Int.tmod (w32 x6) (w32 2))))), none, none, none, none, none, none, none, none, none, none] [] S6 r S') ∧ ((¬ w64 x6 ≤ w64 (w32 (((S.1 367 2) - x1) - 60))) → ∃ (S8 : ms), EV q 335 0 [some (.ref 367), some (vI 1), some (vI (S.1 367 2))] [] S none S8 ∧ r = none ∧ S' = S8)) ∧ ((¬ w32 y0 ≤ 0) → ∃ (S10 : ms), EV q 335 0 [some (.ref 367), some (vI y0), some (vI x1)] [] S none S10 ∧ r = none ∧ S' = S10)) : EV q 398 296 [some (.ref 367), some (vI x1), some (vL x2), none, some (vL x4), none, some (vL x6), none, some (vI x8), some (vI x9), none, none] [vI y0] S r S' := by
  unfold EV
  refine ev_bk 2 (S' := (300, [some (.ref 367), some (vI x1), some (vL x2), none, some (vL x4), none, some (vL x6), none, some (vI x8), some (vI x9), some (vI y0), none], [vI y0], hp S, 0, 0)) rfl ?_
  refine mv_if 311 rfl rfl (fun c => ?_) (fun c => ?_)
  · have F := F.1 c
    refine ev_bk 2 (S' := (314, [some (.ref 367), some (vI x1), some (vL x2), none, some (vL x4), none, some (vL x6), none, some (vI x8), some (vI x9), some (vI y0), none], [.ref 367, vL x6], hp S, 0, 0)) rfl ?_
    refine mv_gfI rfl rfl (sh_367) (by decide) rfl ?_
    refine ev_bk 1 (S' := (318, [some (.ref 367), some (vI x1), some (vL x2), none, some (vL x4), none, some (vL x6), none, some (vI x8), some (vI x9), some (vI y0), none], [vI x1, vI (S.1 367 2), vL x6], hp S, 0, 0)) rfl ?_
    refine mv_isub rfl ?_
    refine ev_bk 1 (S' := (321, [some (.ref 367), some (vI x1), some (vL x2), none, some (vL x4), none, some (vL x6), none, some (vI x8), some (vI x9), some (vI y0), none], [vI 60, vI ((S.1 367 2) - x1), vL x6], hp S, 0, 0)) rfl ?_
    refine mv_isub rfl ?_
    refine mv_i2l rfl ?_
    refine mv_lif 337 rfl rfl rfl (fun c => ?_) (fun c => ?_)
    · have F := F.1 c
      refine ev_bk 1 (S' := (338, [some (.ref 367), some (vI x1), some (vL x2), none, some (vL x4), none, some (vL x6), none, some (vI x8), some (vI x9), some (vI y0), none], [.ref 367], hp S, 0, 0)) rfl ?_
      refine mv_gfR rfl rfl (sh_367) (by decide) rfl ?_
      refine ev_bk 1 (S' := (342, [some (.ref 367), some (vI x1), some (vL x2), none, some (vL x4), none, some (vL x6), none, some (vI x8), some (vI x9), some (vI y0), none], [.ref 367, .ref 426], hp S, 0, 0)) rfl ?_
      refine mv_gfI rfl rfl (sh_367) (by decide) rfl ?_
      refine ev_bk 1 (S' := (346, [some (.ref 367), some (vI x1), some (vL x2), none, some (vL x4), none, some (vL x6), none, some (vI x8), some (vI x9), some (vI y0), none], [vI 0, vI (S.1 367 95), .ref 426], hp S, 0, 0)) rfl ?_
      obtain ⟨b1, F⟩ := F
      refine mv_ias rfl (sh_426) b1 ?_
      have F := F _ rfl
      refine ev_bk 3 (S' := (351, [some (.ref 367), some (vI x1), some (vL x2), none, some (vL x4), none, some (vL x6), none, some (vI x8), some (vI x9), some (vI y0), none], [vI x8, vI x1, .ref 367], hp (wI S 426 (w32 (S.1 367 95)) 0), 0, 0)) rfl ?_
      obtain ⟨z5, S3, e4, F⟩ := F
      refine mv_calv (as := [vI x1, vI x8]) (rest := []) e4 (sh_367) rfl rfl rfl ⟨rfl, rfl⟩ rfl rfl rfl rfl rfl ?_
      refine ev_bk 4 (S' := (362, [some (.ref 367), some (vI x1), some (vL x2), none, some (vL x4), none, some (vL x6), none, some (vI x8), some (vI x9), some (vI y0), some (vI z5)], [vL 511, vL x4, .ref 367], hp S3, 0, 0)) rfl ?_
      refine mv_landm 512 9 (by decide) rfl rfl rfl ?_
      refine mv_l2i rfl ?_
      refine ev_bk 1 (S' := (365, [some (.ref 367), some (vI x1), some (vL x2), none, some (vL x4), none, some (vL x6), none, some (vI x8), some (vI x9), some (vI y0), some (vI z5)], [vL x2, vI (x4 % 512), .ref 367], hp S3, 0, 0)) rfl ?_
      refine mv_l2i rfl ?_
      refine ev_bk 1 (S' := (367, [some (.ref 367), some (vI x1), some (vL x2), none, some (vL x4), none, some (vL x6), none, some (vI x8), some (vI x9), some (vI y0), some (vI z5)], [.ref 367, vI x2, vI (x4 % 512), .ref 367], hp S3, 0, 0)) rfl ?_
      refine mv_gfR rfl rfl (sh_367) (by decide) rfl ?_
      refine ev_bk 2 (S' := (373, [some (.ref 367), some (vI x1), some (vL x2), none, some (vL x4), none, some (vL x6), none, some (vI x8), some (vI x9), some (vI y0), some (vI z5)], [vI 60, vI x1, .ref 368, vI x2, vI (x4 % 512), .ref 367], hp S3, 0, 0)) rfl ?_
      refine mv_iadd rfl ?_
      refine ev_bk 1 (S' := (376, [some (.ref 367), some (vI x1), some (vL x2), none, some (vL x4), none, some (vL x6), none, some (vI x8), some (vI x9), some (vI y0), some (vI z5)], [vL x6, vI (x1 + 60), .ref 368, vI x2, vI (x4 % 512), .ref 367], hp S3, 0, 0)) rfl ?_
      refine mv_l2i rfl ?_
      obtain ⟨S6, e7, F⟩ := F
      refine mv_calv (as := [vI (x4 % 512), vI x2, .ref 368, vI (x1 + 60), vI x6]) (rest := []) e7 (sh_367) rfl rfl rfl ⟨rfl, rfl⟩ rfl rfl rfl rfl rfl ?_
      refine ev_bk 3 (S' := (385, [some (.ref 367), some (vI x1), some (vL x2), none, some (vL x4), none, some (vL x6), none, some (vI x8), some (vI x9), some (vI y0), some (vI z5)], [vL x6, vI 60, vI x1], hp S6, 0, 0)) rfl ?_
      refine mv_l2i rfl ?_
      refine mv_iadd rfl ?_
      refine ev_bk 1 (S' := (389, [some (.ref 367), some (vI x1), some (vL x2), none, some (vL x4), none, some (vL x6), none, some (vI x8), some (vI x9), some (vI y0), some (vI z5)], [vL x6, vI (60 + x6), vI x1], hp S6, 0, 0)) rfl ?_
      refine mv_l2i rfl ?_
      refine ev_bk 1 (S' := (391, [some (.ref 367), some (vI x1), some (vL x2), none, some (vL x4), none, some (vL x6), none, some (vI x8), some (vI x9), some (vI y0), some (vI z5)], [vI 2, vI x6, vI (60 + x6), vI x1], hp S6, 0, 0)) rfl ?_
      refine mv_irem (by decide) rfl ?_
      refine mv_iadd rfl ?_
      refine mv_iadd rfl ?_
      refine ev_bk 1 (S' := (395, [some (.ref 367), some (vI (x1 + (60 + x6 + (Int.tmod (w32 x6) (w32 2))))), some (vL x2), none, some (vL x4), none, some (vL x6), none, some (vI x8), some (vI x9), some (vI y0), some (vI z5)], [], hp S6, 0, 0)) rfl ?_
      refine mv_goto 58 rfl rfl ?_
      exact ev_wk (le_s (le_s (le_n (le_s (le_n (le_s (le_n (le_s (le_n (le_n (le_n (le_n le_0)))))))))))) F
    · have F := F.2 c
      refine ev_bk 3 (S' := (330, [some (.ref 367), some (vI x1), some (vL x2), none, some (vL x4), none, some (vL x6), none, some (vI x8), some (vI x9), some (vI y0), none], [.ref 367, vI 1, .ref 367], hp S, 0, 0)) rfl ?_
      refine mv_gfI rfl rfl (sh_367) (by decide) rfl ?_
      obtain ⟨S8, e9, F⟩ := F
      refine mv_calv (as := [vI 1, vI (S.1 367 2)]) (rest := []) e9 (sh_367) rfl rfl rfl ⟨rfl, rfl⟩ rfl rfl rfl rfl rfl ?_
      obtain ⟨rfl, rfl⟩ := F
      exact ev_ret rfl rfl
  · have F := F.2 c
    refine ev_bk 3 (S' := (307, [some (.ref 367), some (vI x1), some (vL x2), none, some (vL x4), none, some (vL x6), none, some (vI x8), some (vI x9), some (vI y0), none], [vI x1, vI y0, .ref 367], hp S, 0, 0)) rfl ?_
    obtain ⟨S10, e11, F⟩ := F
    refine mv_calv (as := [vI y0, vI x1]) (rest := []) e11 (sh_367) rfl rfl rfl ⟨rfl, rfl⟩ rfl rfl rfl rfl rfl ?_
    obtain ⟨rfl, rfl⟩ := F
    exact ev_ret rfl rfl
theorem vc_MD_spaced {q : Nat × (Nat → Int32)} {S S' : ms} {r : Option Value} (x1 x2 x3 : Int)
    (F : EV q 399 6 [some (.ref 367), some (vI x1), some (vI x2), some (vI x3), some (vI 0), some (vL 0), none, none, none] [] S r S') : EV q 399 0 [some (.ref 367), some (vI x1), some (vI x2), some (vI x3), none, none, none, none, none] [] S r S' := by
  unfold EV
  refine ev_bk 4 (S' := (6, [some (.ref 367), some (vI x1), some (vI x2), some (vI x3), some (vI 0), some (vL 0), none, none, none], [], hp S, 0, 0)) rfl ?_
  exact F
theorem vc_MD_spaced_6 {q : Nat × (Nat → Int32)} {S S' : ms} {r : Option Value} (x1 x2 x3 x4 x5 : Int)
    (F : ((w32 x2 ≤ w32 x4) → EV q 399 63 [some (.ref 367), some (vI x1), some (vI x2), some (vI x3), some (vI x4), some (vL x5), none, none, none] [] S r S') ∧ ((¬ w32 x2 ≤ w32 x4) → (0 ≤ w32 (x1 + x4) ∧ w32 (x1 + x4) < (6000 : Nat)) ∧ ∃ (z4 : Int) (S2 : ms), EV q 257 0 [some (vI (S.1 368 (w32 (x1 + x4)))), some (vI 48), some (vI ((48 + x3) - 1))] [] S (some (vI z4)) S2 ∧ ((w32 z4 = 0) → EV q 399 63 [some (.ref 367), some (vI x1), some (vI x2), some (vI x3), some (vI x4), some (vL x5), none, none, none] [] S2 r S') ∧ ((¬ w32 z4 = 0) → (0 ≤ w32 (x1 + x4) ∧ w32 (x1 + x4) < (6000 : Nat)) ∧ EV q 399 6 [some (.ref 367), some (vI x1), some (vI x2), some (vI x3), some (vI (x4 + 1)), some (vL ((((w32 x3) * x5) + (w32 (S2.1 368 (w32 (x1 + x4))))) - 48)), none, none, none] [] S2 r S'))) : EV q 399 6 [some (.ref 367), some (vI x1), some (vI x2), some (vI x3), some (vI x4), some (vL x5), none, none, none] [] S r S' := by
  unfold EV
  refine ev_bk 2 (S' := (9, [some (.ref 367), some (vI x1), some (vI x2), some (vI x3), some (vI x4), some (vL x5), none, none, none], [vI x2, vI x4], hp S, 0, 0)) rfl ?_
  refine mv_icmp 63 rfl rfl (fun c => ?_) (fun c => ?_)
  · have F := F.1 c
    exact F
  · have F := F.2 c
    refine ev_bk 1 (S' := (13, [some (.ref 367), some (vI x1), some (vI x2), some (vI x3), some (vI x4), some (vL x5), none, none, none], [.ref 367], hp S, 0, 0)) rfl ?_
    refine mv_gfR rfl rfl (sh_367) (by decide) rfl ?_
    refine ev_bk 2 (S' := (19, [some (.ref 367), some (vI x1), some (vI x2), some (vI x3), some (vI x4), some (vL x5), none, none, none], [vI x4, vI x1, .ref 368], hp S, 0, 0)) rfl ?_
    refine mv_iadd rfl ?_
    obtain ⟨b1, F⟩ := F
    refine mv_bal rfl (sh_368) b1 ?_
    refine ev_bk 3 (S' := (26, [some (.ref 367), some (vI x1), some (vI x2), some (vI x3), some (vI x4), some (vL x5), none, none, none], [vI x3, vI 48, vI 48, vI (S.1 368 (w32 (x1 + x4)))], hp S, 0, 0)) rfl ?_
    refine mv_iadd rfl ?_
    refine ev_bk 1 (S' := (28, [some (.ref 367), some (vI x1), some (vI x2), some (vI x3), some (vI x4), some (vL x5), none, none, none], [vI 1, vI (48 + x3), vI 48, vI (S.1 368 (w32 (x1 + x4)))], hp S, 0, 0)) rfl ?_
    refine mv_isub rfl ?_
    obtain ⟨z4, S2, e3, F⟩ := F
    refine mv_cals (as := [vI (S.1 368 (w32 (x1 + x4))), vI 48, vI ((48 + x3) - 1)]) (rest := []) e3 rfl rfl rfl ⟨rfl, rfl, rfl⟩ rfl rfl rfl rfl ?_
    refine mv_if 63 rfl rfl (fun c => ?_) (fun c => ?_)
    · have F := F.1 c
      exact F
    · have F := F.2 c
      refine ev_bk 1 (S' := (36, [some (.ref 367), some (vI x1), some (vI x2), some (vI x3), some (vI x4), some (vL x5), none, none, none], [vI x3], hp S2, 0, 0)) rfl ?_
      refine mv_i2l rfl ?_
      refine ev_bk 1 (S' := (39, [some (.ref 367), some (vI x1), some (vI x2), some (vI x3), some (vI x4), some (vL x5), none, none, none], [vL x5, vL (w32 x3)], hp S2, 0, 0)) rfl ?_
      refine mv_lmul rfl ?_
      refine ev_bk 1 (S' := (41, [some (.ref 367), some (vI x1), some (vI x2), some (vI x3), some (vI x4), some (vL x5), none, none, none], [.ref 367, vL ((w32 x3) * x5)], hp S2, 0, 0)) rfl ?_
      refine mv_gfR rfl rfl (sh_367) (by decide) rfl ?_
      refine ev_bk 2 (S' := (47, [some (.ref 367), some (vI x1), some (vI x2), some (vI x3), some (vI x4), some (vL x5), none, none, none], [vI x4, vI x1, .ref 368, vL ((w32 x3) * x5)], hp S2, 0, 0)) rfl ?_
      refine mv_iadd rfl ?_
      obtain ⟨b5, F⟩ := F
      refine mv_bal rfl (sh_368) b5 ?_
      refine mv_i2l rfl ?_
      refine mv_ladd rfl ?_
      refine ev_bk 1 (S' := (54, [some (.ref 367), some (vI x1), some (vI x2), some (vI x3), some (vI x4), some (vL x5), none, none, none], [vL 48, vL (((w32 x3) * x5) + (w32 (S2.1 368 (w32 (x1 + x4)))))], hp S2, 0, 0)) rfl ?_
      refine mv_lsub rfl ?_
      refine ev_bk 1 (S' := (57, [some (.ref 367), some (vI x1), some (vI x2), some (vI x3), some (vI x4), some (vL ((((w32 x3) * x5) + (w32 (S2.1 368 (w32 (x1 + x4))))) - 48)), none, none, none], [], hp S2, 0, 0)) rfl ?_
      refine mv_inc (lv' := [some (.ref 367), some (vI x1), some (vI x2), some (vI x3), some (vI (x4 + 1)), some (vL ((((w32 x3) * x5) + (w32 (S2.1 368 (w32 (x1 + x4))))) - 48)), none, none, none]) 4 1 rfl rfl rfl rfl ?_
      refine mv_goto 6 rfl rfl ?_
      exact F
theorem vc_MD_spaced_63 {q : Nat × (Nat → Int32)} {S S' : ms} {r : Option Value} (x1 x2 x3 x4 x5 : Int)
    (F : ((w32 x4 ≤ 0) → EV q 399 73 [some (.ref 367), some (vI x1), some (vI x2), some (vI x3), some (vI x4), some (vL x5), none, none, none] [vI 0] S r S') ∧ ((¬ w32 x4 ≤ 0) → EV q 399 73 [some (.ref 367), some (vI x1), some (vI x2), some (vI x3), some (vI x4), some (vL x5), none, none, none] [vI 1] S r S')) : EV q 399 63 [some (.ref 367), some (vI x1), some (vI x2), some (vI x3), some (vI x4), some (vL x5), none, none, none] [] S r S' := by
  unfold EV
  refine ev_bk 1 (S' := (65, [some (.ref 367), some (vI x1), some (vI x2), some (vI x3), some (vI x4), some (vL x5), none, none, none], [vI x4], hp S, 0, 0)) rfl ?_
  refine mv_if 72 rfl rfl (fun c => ?_) (fun c => ?_)
  · have F := F.1 c
    refine ev_bk 1 (S' := (73, [some (.ref 367), some (vI x1), some (vI x2), some (vI x3), some (vI x4), some (vL x5), none, none, none], [vI 0], hp S, 0, 0)) rfl ?_
    exact F
  · have F := F.2 c
    refine ev_bk 1 (S' := (69, [some (.ref 367), some (vI x1), some (vI x2), some (vI x3), some (vI x4), some (vL x5), none, none, none], [vI 1], hp S, 0, 0)) rfl ?_
    refine mv_goto 73 rfl rfl ?_
    exact F
theorem vc_MD_spaced_73 {q : Nat × (Nat → Int32)} {S S' : ms} {r : Option Value} (x1 x2 x3 x4 x5 y0 : Int)
    (F : EV q 399 79 [some (.ref 367), some (vI x1), some (vI x2), some (vI x3), some (vI x4), some (vL x5), none, some (vI y0), some (vI x4)] [] S r S') : EV q 399 73 [some (.ref 367), some (vI x1), some (vI x2), some (vI x3), some (vI x4), some (vL x5), none, none, none] [vI y0] S r S' := by
  unfold EV
  refine ev_bk 3 (S' := (79, [some (.ref 367), some (vI x1), some (vI x2), some (vI x3), some (vI x4), some (vL x5), none, some (vI y0), some (vI x4)], [], hp S, 0, 0)) rfl ?_
  exact F
theorem vc_MD_spaced_79 {q : Nat × (Nat → Int32)} {S S' : ms} {r : Option Value} (x1 x2 x3 x4 x5 x7 x8 : Int)
    (F : ((w32 x2 ≤ w32 x8) → ((w32 x7 = 0) → r = some (vL ((-1))) ∧ S' = S) ∧ ((¬ w32 x7 = 0) → r = some (vL x5) ∧ S' = S)) ∧ ((¬ w32 x2 ≤ w32 x8) → ((w32 x7 = 0) → EV q 399 108 [some (.ref 367), some (vI x1), some (vI x2), some (vI x3), some (vI x4), some (vL x5), none, some (vI x7), some (vI x8)] [] S r S') ∧ ((¬ w32 x7 = 0) → (0 ≤ w32 (x1 + x8) ∧ w32 (x1 + x8) < (6000 : Nat)) ∧ ((¬ w32 (S.1 368 (w32 (x1 + x8))) = 32) → EV q 399 108 [some (.ref 367), some (vI x1), some (vI x2), some (vI x3), some (vI x4), some (vL x5), none, some (vI x7), some (vI x8)] [] S r S') ∧ ((¬ (¬ w32 (S.1 368 (w32 (x1 + x8))) = 32)) → EV q 399 109 [some (.ref 367), some (vI x1), some (vI x2), some (vI x3), some (vI x4), some (vL x5), none, some (vI x7), some (vI x8)] [vI 1] S r S')))) : EV q 399 79 [some (.ref 367), some (vI x1), some (vI x2), some (vI x3), some (vI x4), some (vL x5), none, some (vI x7), some (vI x8)] [] S r S' := by
  unfold EV
  refine ev_bk 2 (S' := (82, [some (.ref 367), some (vI x1), some (vI x2), some (vI x3), some (vI x4), some (vL x5), none, some (vI x7), some (vI x8)], [vI x2, vI x8], hp S, 0, 0)) rfl ?_
  refine mv_icmp 117 rfl rfl (fun c => ?_) (fun c => ?_)
  · have F := F.1 c
    refine ev_bk 1 (S' := (119, [some (.ref 367), some (vI x1), some (vI x2), some (vI x3), some (vI x4), some (vL x5), none, some (vI x7), some (vI x8)], [vI x7], hp S, 0, 0)) rfl ?_
    refine mv_if 127 rfl rfl (fun c => ?_) (fun c => ?_)
    · have F := F.1 c
      refine ev_bk 1 (S' := (130, [some (.ref 367), some (vI x1), some (vI x2), some (vI x3), some (vI x4), some (vL x5), none, some (vI x7), some (vI x8)], [vL ((-1))], hp S, 0, 0)) rfl ?_
      obtain ⟨rfl, rfl⟩ := F
      exact ev_ret rfl rfl
    · have F := F.2 c
      refine ev_bk 1 (S' := (124, [some (.ref 367), some (vI x1), some (vI x2), some (vI x3), some (vI x4), some (vL x5), none, some (vI x7), some (vI x8)], [vL x5], hp S, 0, 0)) rfl ?_
      refine mv_goto 130 rfl rfl ?_
      obtain ⟨rfl, rfl⟩ := F
      exact ev_ret rfl rfl
  · have F := F.2 c
    refine ev_bk 1 (S' := (87, [some (.ref 367), some (vI x1), some (vI x2), some (vI x3), some (vI x4), some (vL x5), none, some (vI x7), some (vI x8)], [vI x7], hp S, 0, 0)) rfl ?_
    refine mv_if 108 rfl rfl (fun c => ?_) (fun c => ?_)
    · have F := F.1 c
      exact F
    · have F := F.2 c
      refine ev_bk 1 (S' := (91, [some (.ref 367), some (vI x1), some (vI x2), some (vI x3), some (vI x4), some (vL x5), none, some (vI x7), some (vI x8)], [.ref 367], hp S, 0, 0)) rfl ?_
      refine mv_gfR rfl rfl (sh_367) (by decide) rfl ?_
      refine ev_bk 2 (S' := (97, [some (.ref 367), some (vI x1), some (vI x2), some (vI x3), some (vI x4), some (vL x5), none, some (vI x7), some (vI x8)], [vI x8, vI x1, .ref 368], hp S, 0, 0)) rfl ?_
      refine mv_iadd rfl ?_
      obtain ⟨b1, F⟩ := F
      refine mv_bal rfl (sh_368) b1 ?_
      refine ev_bk 1 (S' := (101, [some (.ref 367), some (vI x1), some (vI x2), some (vI x3), some (vI x4), some (vL x5), none, some (vI x7), some (vI x8)], [vI 32, vI (S.1 368 (w32 (x1 + x8)))], hp S, 0, 0)) rfl ?_
      refine mv_icmp 108 rfl rfl (fun c => ?_) (fun c => ?_)
      · have F := F.1 c
        exact F
      · have F := F.2 c
        refine ev_bk 1 (S' := (105, [some (.ref 367), some (vI x1), some (vI x2), some (vI x3), some (vI x4), some (vL x5), none, some (vI x7), some (vI x8)], [vI 1], hp S, 0, 0)) rfl ?_
        refine mv_goto 109 rfl rfl ?_
        exact F
theorem vc_MD_spaced_108 {q : Nat × (Nat → Int32)} {S S' : ms} {r : Option Value} (x1 x2 x3 x4 x5 x7 x8 : Int)
    (F : EV q 399 109 [some (.ref 367), some (vI x1), some (vI x2), some (vI x3), some (vI x4), some (vL x5), none, some (vI x7), some (vI x8)] [vI 0] S r S') : EV q 399 108 [some (.ref 367), some (vI x1), some (vI x2), some (vI x3), some (vI x4), some (vL x5), none, some (vI x7), some (vI x8)] [] S r S' := by
  unfold EV
  refine ev_bk 1 (S' := (109, [some (.ref 367), some (vI x1), some (vI x2), some (vI x3), some (vI x4), some (vL x5), none, some (vI x7), some (vI x8)], [vI 0], hp S, 0, 0)) rfl ?_
  exact F
theorem vc_MD_spaced_109 {q : Nat × (Nat → Int32)} {S S' : ms} {r : Option Value} (x1 x2 x3 x4 x5 x7 x8 y0 : Int)
    (F : EV q 399 79 [some (.ref 367), some (vI x1), some (vI x2), some (vI x3), some (vI x4), some (vL x5), none, some (vI y0), some (vI (x8 + 1))] [] S r S') : EV q 399 109 [some (.ref 367), some (vI x1), some (vI x2), some (vI x3), some (vI x4), some (vL x5), none, some (vI x7), some (vI x8)] [vI y0] S r S' := by
  unfold EV
  refine ev_bk 1 (S' := (111, [some (.ref 367), some (vI x1), some (vI x2), some (vI x3), some (vI x4), some (vL x5), none, some (vI y0), some (vI x8)], [], hp S, 0, 0)) rfl ?_
  refine mv_inc (lv' := [some (.ref 367), some (vI x1), some (vI x2), some (vI x3), some (vI x4), some (vL x5), none, some (vI y0), some (vI (x8 + 1))]) 8 1 rfl rfl rfl rfl ?_
  refine mv_goto 79 rfl rfl ?_
  exact F
theorem vc_MD_readBox {q : Nat × (Nat → Int32)} {S S' : ms} {r : Option Value}
    (F : ((w32 ((S.1 367 2) - 22) < 0) → EV q 400 74 [some (.ref 367), some (vI ((S.1 367 2) - 22)), none, none, none, none, none, none, none, none, none, none, none, none] [] S r S') ∧ ((¬ w32 ((S.1 367 2) - 22) < 0) → ∃ (z3 : Int) (S1 : ms), EV q 401 0 [some (.ref 367), some (vI ((S.1 367 2) - 22)), some (vI 4), none, none, none] [] S (some (vL z3)) S1 ∧ ((¬ w64 z3 = w64 101010256) → EV q 400 74 [some (.ref 367), some (vI ((S.1 367 2) - 22)), none, none, none, none, none, none, none, none, none, none, none, none] [] S1 r S') ∧ ((¬ (¬ w64 z3 = w64 101010256)) → ∃ (z6 : Int) (S4 : ms), EV q 401 0 [some (.ref 367), some (vI (((S.1 367 2) - 22) + 4)), some (vI 4), none, none, none] [] S1 (some (vL z6)) S4 ∧ ((¬ w64 z6 = w64 0) → EV q 400 74 [some (.ref 367), some (vI ((S.1 367 2) - 22)), none, none, none, none, none, none, none, none, none, none, none, none] [] S4 r S') ∧ ((¬ (¬ w64 z6 = w64 0)) → ∃ (z9 : Int) (S7 : ms), EV q 401 0 [some (.ref 367), some (vI (((S.1 367 2) - 22) + 20)), some (vI 2), none, none, none] [] S4 (some (vL z9)) S7 ∧ ((¬ w64 z9 = w64 0) → EV q 400 74 [some (.ref 367), some (vI ((S.1 367 2) - 22)), none, none, none, none, none, none, none, none, none, none, none, none] [] S7 r S') ∧ ((¬ (¬ w64 z9 = w64 0)) → ∃ (z12 : Int) (S10 : ms), EV q 401 0 [some (.ref 367), some (vI (((S.1 367 2) - 22) + 8)), some (vI 2), none, none, none] [] S7 (some (vL z12)) S10 ∧ ∃ (z15 : Int) (S13 : ms), EV q 401 0 [some (.ref 367), some (vI (((S.1 367 2) - 22) + 10)), some (vI 2), none, none, none] [] S10 (some (vL z15)) S13 ∧ ((w64 z12 = w64 z15) → ∃ (z18 : Int) (S16 : ms), EV q 401 0 [some (.ref 367), some (vI (((S.1 367 2) - 22) + 8)), some (vI 2), none, none, none] [] S13 (some (vL z18)) S16 ∧ ((w64 z18 ≤ w64 16) → ∃ (z21 : Int) (S19 : ms), EV q 401 0 [some (.ref 367), some (vI (((S.1 367 2) - 22) + 16)), some (vI 4), none, none, none] [] S16 (some (vL z21)) S19 ∧ ∃ (z24 : Int) (S22 : ms), EV q 401 0 [some (.ref 367), some (vI (((S.1 367 2) - 22) + 12)), some (vI 4), none, none, none] [] S19 (some (vL z24)) S22 ∧ ((w64 (z21 + z24) = w64 (w32 ((S.1 367 2) - 22))) → EV q 400 161 [some (.ref 367), some (vI ((S.1 367 2) - 22)), some (vL z18), none, some (vL z21), none, some (vI z21), some (vL 0), none, none, none, none, none, none] [] S22 r S') ∧ ((¬ w64 (z21 + z24) = w64 (w32 ((S.1 367 2) - 22))) → ∃ (S25 : ms), EV q 335 0 [some (.ref 367), some (vI 121), some (vI ((S.1 367 2) - 22))] [] S22 none S25 ∧ r = none ∧ S' = S25)) ∧ ((¬ w64 z18 ≤ w64 16) → ∃ (S27 : ms), EV q 335 0 [some (.ref 367), some (vI 104), some (vI ((S.1 367 2) - 22))] [] S16 none S27 ∧ r = none ∧ S' = S27)) ∧ ((¬ w64 z12 = w64 z15) → EV q 400 74 [some (.ref 367), some (vI ((S.1 367 2) - 22)), none, none, none, none, none, none, none, none, none, none, none, none] [] S13 r S')))))) : EV q 400 0 [some (.ref 367), none, none, none, none, none, none, none, none, none, none, none, none, none] [] S r S' := by
  unfold EV
  refine ev_bk 1 (S' := (1, [some (.ref 367), none, none, none, none, none, none, none, none, none, none, none, none, none], [.ref 367], hp S, 0, 0)) rfl ?_
  refine mv_gfI rfl rfl (sh_367) (by decide) rfl ?_
  refine ev_bk 1 (S' := (6, [some (.ref 367), none, none, none, none, none, none, none, none, none, none, none, none, none], [vI 22, vI (S.1 367 2)], hp S, 0, 0)) rfl ?_
  refine mv_isub rfl ?_
  refine ev_bk 2 (S' := (9, [some (.ref 367), some (vI ((S.1 367 2) - 22)), none, none, none, none, none, none, none, none, none, none, none, none], [vI ((S.1 367 2) - 22)], hp S, 0, 0)) rfl ?_
  refine mv_if 74 rfl rfl (fun c => ?_) (fun c => ?_)
  · have F := F.1 c
    exact F
  · have F := F.2 c
    refine ev_bk 3 (S' := (15, [some (.ref 367), some (vI ((S.1 367 2) - 22)), none, none, none, none, none, none, none, none, none, none, none, none], [vI 4, vI ((S.1 367 2) - 22), .ref 367], hp S, 0, 0)) rfl ?_
    obtain ⟨z3, S1, e2, F⟩ := F
    refine mv_calv (as := [vI ((S.1 367 2) - 22), vI 4]) (rest := []) e2 (sh_367) rfl rfl rfl ⟨rfl, rfl⟩ rfl rfl rfl rfl rfl ?_
    refine ev_bk 1 (S' := (21, [some (.ref 367), some (vI ((S.1 367 2) - 22)), none, none, none, none, none, none, none, none, none, none, none, none], [vL 101010256, vL z3], hp S1, 0, 0)) rfl ?_
    refine mv_lif 74 rfl rfl rfl (fun c => ?_) (fun c => ?_)
    · have F := F.1 c
      exact F
    · have F := F.2 c
      refine ev_bk 3 (S' := (28, [some (.ref 367), some (vI ((S.1 367 2) - 22)), none, none, none, none, none, none, none, none, none, none, none, none], [vI 4, vI ((S.1 367 2) - 22), .ref 367], hp S1, 0, 0)) rfl ?_
      refine mv_iadd rfl ?_
      refine ev_bk 1 (S' := (30, [some (.ref 367), some (vI ((S.1 367 2) - 22)), none, none, none, none, none, none, none, none, none, none, none, none], [vI 4, vI (((S.1 367 2) - 22) + 4), .ref 367], hp S1, 0, 0)) rfl ?_
      obtain ⟨z6, S4, e5, F⟩ := F
      refine mv_calv (as := [vI (((S.1 367 2) - 22) + 4), vI 4]) (rest := []) e5 (sh_367) rfl rfl rfl ⟨rfl, rfl⟩ rfl rfl rfl rfl rfl ?_
      refine ev_bk 1 (S' := (34, [some (.ref 367), some (vI ((S.1 367 2) - 22)), none, none, none, none, none, none, none, none, none, none, none, none], [vL 0, vL z6], hp S4, 0, 0)) rfl ?_
      refine mv_lif 74 rfl rfl rfl (fun c => ?_) (fun c => ?_)
      · have F := F.1 c
        exact F
      · have F := F.2 c
        refine ev_bk 3 (S' := (42, [some (.ref 367), some (vI ((S.1 367 2) - 22)), none, none, none, none, none, none, none, none, none, none, none, none], [vI 20, vI ((S.1 367 2) - 22), .ref 367], hp S4, 0, 0)) rfl ?_
        refine mv_iadd rfl ?_
        refine ev_bk 1 (S' := (44, [some (.ref 367), some (vI ((S.1 367 2) - 22)), none, none, none, none, none, none, none, none, none, none, none, none], [vI 2, vI (((S.1 367 2) - 22) + 20), .ref 367], hp S4, 0, 0)) rfl ?_
        obtain ⟨z9, S7, e8, F⟩ := F
        refine mv_calv (as := [vI (((S.1 367 2) - 22) + 20), vI 2]) (rest := []) e8 (sh_367) rfl rfl rfl ⟨rfl, rfl⟩ rfl rfl rfl rfl rfl ?_
        refine ev_bk 1 (S' := (48, [some (.ref 367), some (vI ((S.1 367 2) - 22)), none, none, none, none, none, none, none, none, none, none, none, none], [vL 0, vL z9], hp S7, 0, 0)) rfl ?_
        refine mv_lif 74 rfl rfl rfl (fun c => ?_) (fun c => ?_)
        · have F := F.1 c
          exact F
        · have F := F.2 c
          refine ev_bk 3 (S' := (56, [some (.ref 367), some (vI ((S.1 367 2) - 22)), none, none, none, none, none, none, none, none, none, none, none, none], [vI 8, vI ((S.1 367 2) - 22), .ref 367], hp S7, 0, 0)) rfl ?_
          refine mv_iadd rfl ?_
          refine ev_bk 1 (S' := (58, [some (.ref 367), some (vI ((S.1 367 2) - 22)), none, none, none, none, none, none, none, none, none, none, none, none], [vI 2, vI (((S.1 367 2) - 22) + 8), .ref 367], hp S7, 0, 0)) rfl ?_
          obtain ⟨z12, S10, e11, F⟩ := F
          refine mv_calv (as := [vI (((S.1 367 2) - 22) + 8), vI 2]) (rest := []) e11 (sh_367) rfl rfl rfl ⟨rfl, rfl⟩ rfl rfl rfl rfl rfl ?_
          refine ev_bk 3 (S' := (65, [some (.ref 367), some (vI ((S.1 367 2) - 22)), none, none, none, none, none, none, none, none, none, none, none, none], [vI 10, vI ((S.1 367 2) - 22), .ref 367, vL z12], hp S10, 0, 0)) rfl ?_
          refine mv_iadd rfl ?_
          refine ev_bk 1 (S' := (67, [some (.ref 367), some (vI ((S.1 367 2) - 22)), none, none, none, none, none, none, none, none, none, none, none, none], [vI 2, vI (((S.1 367 2) - 22) + 10), .ref 367, vL z12], hp S10, 0, 0)) rfl ?_
          obtain ⟨z15, S13, e14, F⟩ := F
          refine mv_calv (as := [vI (((S.1 367 2) - 22) + 10), vI 2]) (rest := [vL z12]) e14 (sh_367) rfl rfl rfl ⟨rfl, rfl⟩ rfl rfl rfl rfl rfl ?_
          refine mv_lif 90 rfl rfl rfl (fun c => ?_) (fun c => ?_)
          · have F := F.1 c
            refine ev_bk 3 (S' := (94, [some (.ref 367), some (vI ((S.1 367 2) - 22)), none, none, none, none, none, none, none, none, none, none, none, none], [vI 8, vI ((S.1 367 2) - 22), .ref 367], hp S13, 0, 0)) rfl ?_
            refine mv_iadd rfl ?_
            refine ev_bk 1 (S' := (96, [some (.ref 367), some (vI ((S.1 367 2) - 22)), none, none, none, none, none, none, none, none, none, none, none, none], [vI 2, vI (((S.1 367 2) - 22) + 8), .ref 367], hp S13, 0, 0)) rfl ?_
            obtain ⟨z18, S16, e17, F⟩ := F
            refine mv_calv (as := [vI (((S.1 367 2) - 22) + 8), vI 2]) (rest := []) e17 (sh_367) rfl rfl rfl ⟨rfl, rfl⟩ rfl rfl rfl rfl rfl ?_
            refine ev_bk 3 (S' := (104, [some (.ref 367), some (vI ((S.1 367 2) - 22)), some (vL z18), none, none, none, none, none, none, none, none, none, none, none], [vL 16, vL z18], hp S16, 0, 0)) rfl ?_
            refine mv_lif 116 rfl rfl rfl (fun c => ?_) (fun c => ?_)
            · have F := F.1 c
              refine ev_bk 3 (S' := (120, [some (.ref 367), some (vI ((S.1 367 2) - 22)), some (vL z18), none, none, none, none, none, none, none, none, none, none, none], [vI 16, vI ((S.1 367 2) - 22), .ref 367], hp S16, 0, 0)) rfl ?_
              refine mv_iadd rfl ?_
              refine ev_bk 1 (S' := (122, [some (.ref 367), some (vI ((S.1 367 2) - 22)), some (vL z18), none, none, none, none, none, none, none, none, none, none, none], [vI 4, vI (((S.1 367 2) - 22) + 16), .ref 367], hp S16, 0, 0)) rfl ?_
              obtain ⟨z21, S19, e20, F⟩ := F
              refine mv_calv (as := [vI (((S.1 367 2) - 22) + 16), vI 4]) (rest := []) e20 (sh_367) rfl rfl rfl ⟨rfl, rfl⟩ rfl rfl rfl rfl rfl ?_
              refine ev_bk 5 (S' := (133, [some (.ref 367), some (vI ((S.1 367 2) - 22)), some (vL z18), none, some (vL z21), none, none, none, none, none, none, none, none, none], [vI 12, vI ((S.1 367 2) - 22), .ref 367, vL z21], hp S19, 0, 0)) rfl ?_
              refine mv_iadd rfl ?_
              refine ev_bk 1 (S' := (135, [some (.ref 367), some (vI ((S.1 367 2) - 22)), some (vL z18), none, some (vL z21), none, none, none, none, none, none, none, none, none], [vI 4, vI (((S.1 367 2) - 22) + 12), .ref 367, vL z21], hp S19, 0, 0)) rfl ?_
              obtain ⟨z24, S22, e23, F⟩ := F
              refine mv_calv (as := [vI (((S.1 367 2) - 22) + 12), vI 4]) (rest := [vL z21]) e23 (sh_367) rfl rfl rfl ⟨rfl, rfl⟩ rfl rfl rfl rfl rfl ?_
              refine mv_ladd rfl ?_
              refine ev_bk 1 (S' := (140, [some (.ref 367), some (vI ((S.1 367 2) - 22)), some (vL z18), none, some (vL z21), none, none, none, none, none, none, none, none, none], [vI ((S.1 367 2) - 22), vL (z21 + z24)], hp S22, 0, 0)) rfl ?_
              refine mv_i2l rfl ?_
              refine mv_lif 153 rfl rfl rfl (fun c => ?_) (fun c => ?_)
              · have F := F.1 c
                refine ev_bk 1 (S' := (155, [some (.ref 367), some (vI ((S.1 367 2) - 22)), some (vL z18), none, some (vL z21), none, none, none, none, none, none, none, none, none], [vL z21], hp S22, 0, 0)) rfl ?_
                refine mv_l2i rfl ?_
                refine ev_bk 3 (S' := (161, [some (.ref 367), some (vI ((S.1 367 2) - 22)), some (vL z18), none, some (vL z21), none, some (vI z21), some (vL 0), none, none, none, none, none, none], [], hp S22, 0, 0)) rfl ?_
                exact F
              · have F := F.2 c
                refine ev_bk 3 (S' := (149, [some (.ref 367), some (vI ((S.1 367 2) - 22)), some (vL z18), none, some (vL z21), none, none, none, none, none, none, none, none, none], [vI ((S.1 367 2) - 22), vI 121, .ref 367], hp S22, 0, 0)) rfl ?_
                obtain ⟨S25, e26, F⟩ := F
                refine mv_calv (as := [vI 121, vI ((S.1 367 2) - 22)]) (rest := []) e26 (sh_367) rfl rfl rfl ⟨rfl, rfl⟩ rfl rfl rfl rfl rfl ?_
                obtain ⟨rfl, rfl⟩ := F
                exact ev_ret rfl rfl
            · have F := F.2 c
              refine ev_bk 3 (S' := (112, [some (.ref 367), some (vI ((S.1 367 2) - 22)), some (vL z18), none, none, none, none, none, none, none, none, none, none, none], [vI ((S.1 367 2) - 22), vI 104, .ref 367], hp S16, 0, 0)) rfl ?_
              obtain ⟨S27, e28, F⟩ := F
              refine mv_calv (as := [vI 104, vI ((S.1 367 2) - 22)]) (rest := []) e28 (sh_367) rfl rfl rfl ⟨rfl, rfl⟩ rfl rfl rfl rfl rfl ?_
              obtain ⟨rfl, rfl⟩ := F
              exact ev_ret rfl rfl
          · have F := F.2 c
            exact F
theorem vc_MD_readBox_74 {q : Nat × (Nat → Int32)} {S S' : ms} {r : Option Value} (x1 : Int)
    (F : ((0 ≤ w32 x1) → EV q 400 86 [some (.ref 367), some (vI x1), none, none, none, none, none, none, none, none, none, none, none, none] [vI x1, vI 120, .ref 367] S r S') ∧ ((¬ 0 ≤ w32 x1) → EV q 400 86 [some (.ref 367), some (vI x1), none, none, none, none, none, none, none, none, none, none, none, none] [vI 0, vI 120, .ref 367] S r S')) : EV q 400 74 [some (.ref 367), some (vI x1), none, none, none, none, none, none, none, none, none, none, none, none] [] S r S' := by
  unfold EV
  refine ev_bk 3 (S' := (78, [some (.ref 367), some (vI x1), none, none, none, none, none, none, none, none, none, none, none, none], [vI x1, vI 120, .ref 367], hp S, 0, 0)) rfl ?_
  refine mv_if 85 rfl rfl (fun c => ?_) (fun c => ?_)
  · have F := F.1 c
    refine ev_bk 1 (S' := (86, [some (.ref 367), some (vI x1), none, none, none, none, none, none, none, none, none, none, none, none], [vI x1, vI 120, .ref 367], hp S, 0, 0)) rfl ?_
    exact F
  · have F := F.2 c
    refine ev_bk 1 (S' := (82, [some (.ref 367), some (vI x1), none, none, none, none, none, none, none, none, none, none, none, none], [vI 0, vI 120, .ref 367], hp S, 0, 0)) rfl ?_
    refine mv_goto 86 rfl rfl ?_
    exact F
theorem vc_MD_readBox_86 {q : Nat × (Nat → Int32)} {S S' : ms} {r : Option Value} (x1 y0 y1 : Int)
    (F : ∃ (S1 : ms), EV q 335 0 [some (.ref 367), some (vI y1), some (vI y0)] [] S none S1 ∧ r = none ∧ S' = S1) : EV q 400 86 [some (.ref 367), some (vI x1), none, none, none, none, none, none, none, none, none, none, none, none] [vI y0, vI y1, .ref 367] S r S' := by
  unfold EV
  obtain ⟨S1, e2, F⟩ := F
  refine mv_calv (as := [vI y1, vI y0]) (rest := []) e2 (sh_367) rfl rfl rfl ⟨rfl, rfl⟩ rfl rfl rfl rfl rfl ?_
  obtain ⟨rfl, rfl⟩ := F
  exact ev_ret rfl rfl
theorem vc_MD_readBox_161 {q : Nat × (Nat → Int32)} {S S' : ms} {r : Option Value} (x1 x2 x4 x6 x7 : Int)
    (F : ((w64 x2 ≤ w64 x7) → EV q 400 472 [some (.ref 367), some (vI x1), some (vL x2), none, some (vL x4), none, some (vI x6), some (vL x7), none, none, none, none, none, none] [] S r S') ∧ ((¬ w64 x2 ≤ w64 x7) → ∃ (z3 : Int) (S1 : ms), EV q 333 0 [some (.ref 367)] [] S (some (vI z3)) S1 ∧ ((w32 z3 = 0) → EV q 400 472 [some (.ref 367), some (vI x1), some (vL x2), none, some (vL x4), none, some (vI x6), some (vL x7), none, none, none, none, none, none] [] S1 r S') ∧ ((¬ w32 z3 = 0) → ((46 ≤ w32 (x1 - x6)) → ∃ (z6 : Int) (S4 : ms), EV q 401 0 [some (.ref 367), some (vI (x6 + 28)), some (vI 2), none, none, none] [] S1 (some (vL z6)) S4 ∧ EV q 400 199 [some (.ref 367), some (vI x1), some (vL x2), none, some (vL x4), none, some (vI x6), some (vL x7), none, none, none, none, none, none] [vI z6] S4 r S') ∧ ((¬ 46 ≤ w32 (x1 - x6)) → EV q 400 199 [some (.ref 367), some (vI x1), some (vL x2), none, some (vL x4), none, some (vI x6), some (vL x7), none, none, none, none, none, none] [vI 0] S1 r S')))) : EV q 400 161 [some (.ref 367), some (vI x1), some (vL x2), none, some (vL x4), none, some (vI x6), some (vL x7), none, none, none, none, none, none] [] S r S' := by
  unfold EV
  refine ev_bk 2 (S' := (164, [some (.ref 367), some (vI x1), some (vL x2), none, some (vL x4), none, some (vI x6), some (vL x7), none, none, none, none, none, none], [vL x2, vL x7], hp S, 0, 0)) rfl ?_
  refine mv_lif 472 rfl rfl rfl (fun c => ?_) (fun c => ?_)
  · have F := F.1 c
    exact F
  · have F := F.2 c
    refine ev_bk 1 (S' := (169, [some (.ref 367), some (vI x1), some (vL x2), none, some (vL x4), none, some (vI x6), some (vL x7), none, none, none, none, none, none], [.ref 367], hp S, 0, 0)) rfl ?_
    obtain ⟨z3, S1, e2, F⟩ := F
    refine mv_calv (as := []) (rest := []) e2 (sh_367) rfl rfl rfl ⟨rfl, rfl⟩ rfl rfl rfl rfl rfl ?_
    refine mv_if 472 rfl rfl (fun c => ?_) (fun c => ?_)
    · have F := F.1 c
      exact F
    · have F := F.2 c
      refine ev_bk 2 (S' := (178, [some (.ref 367), some (vI x1), some (vL x2), none, some (vL x4), none, some (vI x6), some (vL x7), none, none, none, none, none, none], [vI x6, vI x1], hp S1, 0, 0)) rfl ?_
      refine mv_isub rfl ?_
      refine ev_bk 1 (S' := (181, [some (.ref 367), some (vI x1), some (vL x2), none, some (vL x4), none, some (vI x6), some (vL x7), none, none, none, none, none, none], [vI 46, vI (x1 - x6)], hp S1, 0, 0)) rfl ?_
      refine mv_icmp 188 rfl rfl (fun c => ?_) (fun c => ?_)
      · have F := F.1 c
        refine ev_bk 3 (S' := (193, [some (.ref 367), some (vI x1), some (vL x2), none, some (vL x4), none, some (vI x6), some (vL x7), none, none, none, none, none, none], [vI 28, vI x6, .ref 367], hp S1, 0, 0)) rfl ?_
        refine mv_iadd rfl ?_
        refine ev_bk 1 (S' := (195, [some (.ref 367), some (vI x1), some (vL x2), none, some (vL x4), none, some (vI x6), some (vL x7), none, none, none, none, none, none], [vI 2, vI (x6 + 28), .ref 367], hp S1, 0, 0)) rfl ?_
        obtain ⟨z6, S4, e5, F⟩ := F
        refine mv_calv (as := [vI (x6 + 28), vI 2]) (rest := []) e5 (sh_367) rfl rfl rfl ⟨rfl, rfl⟩ rfl rfl rfl rfl rfl ?_
        refine mv_l2i rfl ?_
        exact F
      · have F := F.2 c
        refine ev_bk 1 (S' := (185, [some (.ref 367), some (vI x1), some (vL x2), none, some (vL x4), none, some (vI x6), some (vL x7), none, none, none, none, none, none], [vI 0], hp S1, 0, 0)) rfl ?_
        refine mv_goto 199 rfl rfl ?_
        exact F
theorem vc_MD_readBox_199 {q : Nat × (Nat → Int32)} {S S' : ms} {r : Option Value} (x1 x2 x4 x6 x7 y0 : Int)
    (F : ((w32 (x1 - x6) < 46) → EV q 400 236 [some (.ref 367), some (vI x1), some (vL x2), none, some (vL x4), none, some (vI x6), some (vL x7), none, some (vI y0), none, none, none, none] [] S r S') ∧ ((¬ w32 (x1 - x6) < 46) → ∃ (z3 : Int) (S1 : ms), EV q 401 0 [some (.ref 367), some (vI x6), some (vI 4), none, none, none] [] S (some (vL z3)) S1 ∧ ((¬ w64 z3 = w64 33639248) → EV q 400 236 [some (.ref 367), some (vI x1), some (vL x2), none, some (vL x4), none, some (vI x6), some (vL x7), none, some (vI y0), none, none, none, none] [] S1 r S') ∧ ((¬ (¬ w64 z3 = w64 33639248)) → ((w32 y0 ≤ w32 ((x1 - x6) - 46)) → ∃ (z6 : Int) (S4 : ms), EV q 401 0 [some (.ref 367), some (vI (x6 + 10)), some (vI 2), none, none, none] [] S1 (some (vL z6)) S4 ∧ ∃ (z9 : Int) (S7 : ms), EV q 401 0 [some (.ref 367), some (vI (x6 + 8)), some (vI 2), none, none, none] [] S4 (some (vL z9)) S7 ∧ ((¬ w64 z9 = w64 0) → EV q 400 337 [some (.ref 367), some (vI x1), some (vL x2), none, some (vL x4), none, some (vI x6), some (vL x7), none, some (vI y0), some (vL z6), none, none, none] [] S7 r S') ∧ ((¬ (¬ w64 z9 = w64 0)) → ∃ (z12 : Int) (S10 : ms), EV q 401 0 [some (.ref 367), some (vI (x6 + 30)), some (vI 8), none, none, none] [] S7 (some (vL z12)) S10 ∧ ((¬ w64 z12 = w64 0) → EV q 400 337 [some (.ref 367), some (vI x1), some (vL x2), none, some (vL x4), none, some (vI x6), some (vL x7), none, some (vI y0), some (vL z6), none, none, none] [] S10 r S') ∧ ((¬ (¬ w64 z12 = w64 0)) → ∃ (z15 : Int) (S13 : ms), EV q 401 0 [some (.ref 367), some (vI (x6 + 38)), some (vI 2), none, none, none] [] S10 (some (vL z15)) S13 ∧ ((¬ w64 z15 = w64 0) → EV q 400 337 [some (.ref 367), some (vI x1), some (vL x2), none, some (vL x4), none, some (vI x6), some (vL x7), none, some (vI y0), some (vL z6), none, none, none] [] S13 r S') ∧ ((¬ (¬ w64 z15 = w64 0)) → ∃ (z18 : Int) (S16 : ms), EV q 401 0 [some (.ref 367), some (vI (x6 + 40)), some (vI 2), none, none, none] [] S13 (some (vL z18)) S16 ∧ ((w64 511 < w64 z18) → EV q 400 337 [some (.ref 367), some (vI x1), some (vL x2), none, some (vL x4), none, some (vI x6), some (vL x7), none, some (vI y0), some (vL z6), none, none, none] [] S16 r S') ∧ ((¬ w64 511 < w64 z18) → ∃ (z21 : Int) (S19 : ms), EV q 401 0 [some (.ref 367), some (vI (x6 + 12)), some (vI 4), none, none, none] [] S16 (some (vL z21)) S19 ∧ ((w64 z21 ≤ w64 2147483647) → EV q 400 342 [some (.ref 367), some (vI x1), some (vL x2), none, some (vL x4), none, some (vI x6), some (vL x7), none, some (vI y0), some (vL z6), none, none, none] [vI 0] S19 r S') ∧ ((¬ w64 z21 ≤ w64 2147483647) → EV q 400 337 [some (.ref 367), some (vI x1), some (vL x2), none, some (vL x4), none, some (vI x6), some (vL x7), none, some (vI y0), some (vL z6), none, none, none] [] S19 r S')))))) ∧ ((¬ w32 y0 ≤ w32 ((x1 - x6) - 46)) → EV q 400 236 [some (.ref 367), some (vI x1), some (vL x2), none, some (vL x4), none, some (vI x6), some (vL x7), none, some (vI y0), none, none, none, none] [] S1 r S')))) : EV q 400 199 [some (.ref 367), some (vI x1), some (vL x2), none, some (vL x4), none, some (vI x6), some (vL x7), none, none, none, none, none, none] [vI y0] S r S' := by
  unfold EV
  refine ev_bk 3 (S' := (204, [some (.ref 367), some (vI x1), some (vL x2), none, some (vL x4), none, some (vI x6), some (vL x7), none, some (vI y0), none, none, none, none], [vI x6, vI x1], hp S, 0, 0)) rfl ?_
  refine mv_isub rfl ?_
  refine ev_bk 1 (S' := (207, [some (.ref 367), some (vI x1), some (vL x2), none, some (vL x4), none, some (vI x6), some (vL x7), none, some (vI y0), none, none, none, none], [vI 46, vI (x1 - x6)], hp S, 0, 0)) rfl ?_
  refine mv_icmp 236 rfl rfl (fun c => ?_) (fun c => ?_)
  · have F := F.1 c
    exact F
  · have F := F.2 c
    refine ev_bk 3 (S' := (214, [some (.ref 367), some (vI x1), some (vL x2), none, some (vL x4), none, some (vI x6), some (vL x7), none, some (vI y0), none, none, none, none], [vI 4, vI x6, .ref 367], hp S, 0, 0)) rfl ?_
    obtain ⟨z3, S1, e2, F⟩ := F
    refine mv_calv (as := [vI x6, vI 4]) (rest := []) e2 (sh_367) rfl rfl rfl ⟨rfl, rfl⟩ rfl rfl rfl rfl rfl ?_
    refine ev_bk 1 (S' := (220, [some (.ref 367), some (vI x1), some (vL x2), none, some (vL x4), none, some (vI x6), some (vL x7), none, some (vI y0), none, none, none, none], [vL 33639248, vL z3], hp S1, 0, 0)) rfl ?_
    refine mv_lif 236 rfl rfl rfl (fun c => ?_) (fun c => ?_)
    · have F := F.1 c
      exact F
    · have F := F.2 c
      refine ev_bk 3 (S' := (229, [some (.ref 367), some (vI x1), some (vL x2), none, some (vL x4), none, some (vI x6), some (vL x7), none, some (vI y0), none, none, none, none], [vI x6, vI x1, vI y0], hp S1, 0, 0)) rfl ?_
      refine mv_isub rfl ?_
      refine ev_bk 1 (S' := (232, [some (.ref 367), some (vI x1), some (vL x2), none, some (vL x4), none, some (vI x6), some (vL x7), none, some (vI y0), none, none, none, none], [vI 46, vI (x1 - x6), vI y0], hp S1, 0, 0)) rfl ?_
      refine mv_isub rfl ?_
      refine mv_icmp 245 rfl rfl (fun c => ?_) (fun c => ?_)
      · have F := F.1 c
        refine ev_bk 3 (S' := (250, [some (.ref 367), some (vI x1), some (vL x2), none, some (vL x4), none, some (vI x6), some (vL x7), none, some (vI y0), none, none, none, none], [vI 10, vI x6, .ref 367], hp S1, 0, 0)) rfl ?_
        refine mv_iadd rfl ?_
        refine ev_bk 1 (S' := (252, [some (.ref 367), some (vI x1), some (vL x2), none, some (vL x4), none, some (vI x6), some (vL x7), none, some (vI y0), none, none, none, none], [vI 2, vI (x6 + 10), .ref 367], hp S1, 0, 0)) rfl ?_
        obtain ⟨z6, S4, e5, F⟩ := F
        refine mv_calv (as := [vI (x6 + 10), vI 2]) (rest := []) e5 (sh_367) rfl rfl rfl ⟨rfl, rfl⟩ rfl rfl rfl rfl rfl ?_
        refine ev_bk 4 (S' := (262, [some (.ref 367), some (vI x1), some (vL x2), none, some (vL x4), none, some (vI x6), some (vL x7), none, some (vI y0), some (vL z6), none, none, none], [vI 8, vI x6, .ref 367], hp S4, 0, 0)) rfl ?_
        refine mv_iadd rfl ?_
        refine ev_bk 1 (S' := (264, [some (.ref 367), some (vI x1), some (vL x2), none, some (vL x4), none, some (vI x6), some (vL x7), none, some (vI y0), some (vL z6), none, none, none], [vI 2, vI (x6 + 8), .ref 367], hp S4, 0, 0)) rfl ?_
        obtain ⟨z9, S7, e8, F⟩ := F
        refine mv_calv (as := [vI (x6 + 8), vI 2]) (rest := []) e8 (sh_367) rfl rfl rfl ⟨rfl, rfl⟩ rfl rfl rfl rfl rfl ?_
        refine ev_bk 1 (S' := (268, [some (.ref 367), some (vI x1), some (vL x2), none, some (vL x4), none, some (vI x6), some (vL x7), none, some (vI y0), some (vL z6), none, none, none], [vL 0, vL z9], hp S7, 0, 0)) rfl ?_
        refine mv_lif 337 rfl rfl rfl (fun c => ?_) (fun c => ?_)
        · have F := F.1 c
          exact F
        · have F := F.2 c
          refine ev_bk 3 (S' := (277, [some (.ref 367), some (vI x1), some (vL x2), none, some (vL x4), none, some (vI x6), some (vL x7), none, some (vI y0), some (vL z6), none, none, none], [vI 30, vI x6, .ref 367], hp S7, 0, 0)) rfl ?_
          refine mv_iadd rfl ?_
          refine ev_bk 1 (S' := (280, [some (.ref 367), some (vI x1), some (vL x2), none, some (vL x4), none, some (vI x6), some (vL x7), none, some (vI y0), some (vL z6), none, none, none], [vI 8, vI (x6 + 30), .ref 367], hp S7, 0, 0)) rfl ?_
          obtain ⟨z12, S10, e11, F⟩ := F
          refine mv_calv (as := [vI (x6 + 30), vI 8]) (rest := []) e11 (sh_367) rfl rfl rfl ⟨rfl, rfl⟩ rfl rfl rfl rfl rfl ?_
          refine ev_bk 1 (S' := (284, [some (.ref 367), some (vI x1), some (vL x2), none, some (vL x4), none, some (vI x6), some (vL x7), none, some (vI y0), some (vL z6), none, none, none], [vL 0, vL z12], hp S10, 0, 0)) rfl ?_
          refine mv_lif 337 rfl rfl rfl (fun c => ?_) (fun c => ?_)
          · have F := F.1 c
            exact F
          · have F := F.2 c
            refine ev_bk 3 (S' := (293, [some (.ref 367), some (vI x1), some (vL x2), none, some (vL x4), none, some (vI x6), some (vL x7), none, some (vI y0), some (vL z6), none, none, none], [vI 38, vI x6, .ref 367], hp S10, 0, 0)) rfl ?_
            refine mv_iadd rfl ?_
            refine ev_bk 1 (S' := (295, [some (.ref 367), some (vI x1), some (vL x2), none, some (vL x4), none, some (vI x6), some (vL x7), none, some (vI y0), some (vL z6), none, none, none], [vI 2, vI (x6 + 38), .ref 367], hp S10, 0, 0)) rfl ?_
            obtain ⟨z15, S13, e14, F⟩ := F
            refine mv_calv (as := [vI (x6 + 38), vI 2]) (rest := []) e14 (sh_367) rfl rfl rfl ⟨rfl, rfl⟩ rfl rfl rfl rfl rfl ?_
            refine ev_bk 1 (S' := (299, [some (.ref 367), some (vI x1), some (vL x2), none, some (vL x4), none, some (vI x6), some (vL x7), none, some (vI y0), some (vL z6), none, none, none], [vL 0, vL z15], hp S13, 0, 0)) rfl ?_
            refine mv_lif 337 rfl rfl rfl (fun c => ?_) (fun c => ?_)
            · have F := F.1 c
              exact F
            · have F := F.2 c
              refine ev_bk 3 (S' := (308, [some (.ref 367), some (vI x1), some (vL x2), none, some (vL x4), none, some (vI x6), some (vL x7), none, some (vI y0), some (vL z6), none, none, none], [vI 40, vI x6, .ref 367], hp S13, 0, 0)) rfl ?_
              refine mv_iadd rfl ?_
              refine ev_bk 1 (S' := (310, [some (.ref 367), some (vI x1), some (vL x2), none, some (vL x4), none, some (vI x6), some (vL x7), none, some (vI y0), some (vL z6), none, none, none], [vI 2, vI (x6 + 40), .ref 367], hp S13, 0, 0)) rfl ?_
              obtain ⟨z18, S16, e17, F⟩ := F
              refine mv_calv (as := [vI (x6 + 40), vI 2]) (rest := []) e17 (sh_367) rfl rfl rfl ⟨rfl, rfl⟩ rfl rfl rfl rfl rfl ?_
              refine ev_bk 1 (S' := (316, [some (.ref 367), some (vI x1), some (vL x2), none, some (vL x4), none, some (vI x6), some (vL x7), none, some (vI y0), some (vL z6), none, none, none], [vL 511, vL z18], hp S16, 0, 0)) rfl ?_
              refine mv_lif 337 rfl rfl rfl (fun c => ?_) (fun c => ?_)
              · have F := F.1 c
                exact F
              · have F := F.2 c
                refine ev_bk 3 (S' := (325, [some (.ref 367), some (vI x1), some (vL x2), none, some (vL x4), none, some (vI x6), some (vL x7), none, some (vI y0), some (vL z6), none, none, none], [vI 12, vI x6, .ref 367], hp S16, 0, 0)) rfl ?_
                refine mv_iadd rfl ?_
                refine ev_bk 1 (S' := (327, [some (.ref 367), some (vI x1), some (vL x2), none, some (vL x4), none, some (vI x6), some (vL x7), none, some (vI y0), some (vL z6), none, none, none], [vI 4, vI (x6 + 12), .ref 367], hp S16, 0, 0)) rfl ?_
                obtain ⟨z21, S19, e20, F⟩ := F
                refine mv_calv (as := [vI (x6 + 12), vI 4]) (rest := []) e20 (sh_367) rfl rfl rfl ⟨rfl, rfl⟩ rfl rfl rfl rfl rfl ?_
                refine ev_bk 1 (S' := (333, [some (.ref 367), some (vI x1), some (vL x2), none, some (vL x4), none, some (vI x6), some (vL x7), none, some (vI y0), some (vL z6), none, none, none], [vL 2147483647, vL z21], hp S19, 0, 0)) rfl ?_
                refine mv_lif 341 rfl rfl rfl (fun c => ?_) (fun c => ?_)
                · have F := F.1 c
                  refine ev_bk 1 (S' := (342, [some (.ref 367), some (vI x1), some (vL x2), none, some (vL x4), none, some (vI x6), some (vL x7), none, some (vI y0), some (vL z6), none, none, none], [vI 0], hp S19, 0, 0)) rfl ?_
                  exact F
                · have F := F.2 c
                  exact F
      · have F := F.2 c
        exact F
theorem vc_MD_readBox_236 {q : Nat × (Nat → Int32)} {S S' : ms} {r : Option Value} (x1 x2 x4 x6 x7 x9 : Int)
    (F : ∃ (S1 : ms), EV q 335 0 [some (.ref 367), some (vI 122), some (vI x6)] [] S none S1 ∧ r = none ∧ S' = S1) : EV q 400 236 [some (.ref 367), some (vI x1), some (vL x2), none, some (vL x4), none, some (vI x6), some (vL x7), none, some (vI x9), none, none, none, none] [] S r S' := by
  unfold EV
  refine ev_bk 3 (S' := (241, [some (.ref 367), some (vI x1), some (vL x2), none, some (vL x4), none, some (vI x6), some (vL x7), none, some (vI x9), none, none, none, none], [vI x6, vI 122, .ref 367], hp S, 0, 0)) rfl ?_
  obtain ⟨S1, e2, F⟩ := F
  refine mv_calv (as := [vI 122, vI x6]) (rest := []) e2 (sh_367) rfl rfl rfl ⟨rfl, rfl⟩ rfl rfl rfl rfl rfl ?_
  obtain ⟨rfl, rfl⟩ := F
  exact ev_ret rfl rfl
theorem vc_MD_readBox_337 {q : Nat × (Nat → Int32)} {S S' : ms} {r : Option Value} (x1 x2 x4 x6 x7 x9 x10 : Int)
    (F : EV q 400 342 [some (.ref 367), some (vI x1), some (vL x2), none, some (vL x4), none, some (vI x6), some (vL x7), none, some (vI x9), some (vL x10), none, none, none] [vI 1] S r S') : EV q 400 337 [some (.ref 367), some (vI x1), some (vL x2), none, some (vL x4), none, some (vI x6), some (vL x7), none, some (vI x9), some (vL x10), none, none, none] [] S r S' := by
  unfold EV
  refine ev_bk 1 (S' := (338, [some (.ref 367), some (vI x1), some (vL x2), none, some (vL x4), none, some (vI x6), some (vL x7), none, some (vI x9), some (vL x10), none, none, none], [vI 1], hp S, 0, 0)) rfl ?_
  refine mv_goto 342 rfl rfl ?_
  exact F
theorem vc_MD_readBox_342 {q : Nat × (Nat → Int32)} {S S' : ms} {r : Option Value} (x1 x2 x4 x6 x7 x9 x10 y0 : Int)
    (F : ((w64 x10 = w64 0) → EV q 400 360 [some (.ref 367), some (vI x1), some (vL x2), none, some (vL x4), none, some (vI x6), some (vL x7), none, some (vI x9), some (vL x10), none, some (vI y0), none] [] S r S') ∧ ((¬ w64 x10 = w64 0) → ((¬ w64 x10 = w64 8) → EV q 400 365 [some (.ref 367), some (vI x1), some (vL x2), none, some (vL x4), none, some (vI x6), some (vL x7), none, some (vI x9), some (vL x10), none, some (vI y0), none] [] S r S') ∧ ((¬ (¬ w64 x10 = w64 8)) → EV q 400 360 [some (.ref 367), some (vI x1), some (vL x2), none, some (vL x4), none, some (vI x6), some (vL x7), none, some (vI x9), some (vL x10), none, some (vI y0), none] [] S r S'))) : EV q 400 342 [some (.ref 367), some (vI x1), some (vL x2), none, some (vL x4), none, some (vI x6), some (vL x7), none, some (vI x9), some (vL x10), none, none, none] [vI y0] S r S' := by
  unfold EV
  refine ev_bk 3 (S' := (347, [some (.ref 367), some (vI x1), some (vL x2), none, some (vL x4), none, some (vI x6), some (vL x7), none, some (vI x9), some (vL x10), none, some (vI y0), none], [vL 0, vL x10], hp S, 0, 0)) rfl ?_
  refine mv_lif 360 rfl rfl rfl (fun c => ?_) (fun c => ?_)
  · have F := F.1 c
    exact F
  · have F := F.2 c
    refine ev_bk 2 (S' := (356, [some (.ref 367), some (vI x1), some (vL x2), none, some (vL x4), none, some (vI x6), some (vL x7), none, some (vI x9), some (vL x10), none, some (vI y0), none], [vL 8, vL x10], hp S, 0, 0)) rfl ?_
    refine mv_lif 365 rfl rfl rfl (fun c => ?_) (fun c => ?_)
    · have F := F.1 c
      exact F
    · have F := F.2 c
      exact F
theorem vc_MD_readBox_360 {q : Nat × (Nat → Int32)} {S S' : ms} {r : Option Value} (x1 x2 x4 x6 x7 x9 x10 x12 : Int)
    (F : ((w32 x12 = 0) → ((w32 x9 = 0) → EV q 400 398 [some (.ref 367), some (vI x1), some (vL x2), none, some (vL x4), none, some (vI x6), some (vL x7), none, some (vI x9), some (vL x10), none, some (vI x12), none] [] S r S') ∧ ((¬ w32 x9 = 0) → ((100 < w32 x9) → EV q 400 398 [some (.ref 367), some (vI x1), some (vL x2), none, some (vL x4), none, some (vI x6), some (vL x7), none, some (vI x9), some (vL x10), none, some (vI x12), none] [] S r S') ∧ ((¬ 100 < w32 x9) → ∃ (z3 : Int) (S1 : ms), EV q 395 0 [some (.ref 367), some (vI (x6 + 46)), some (vI x9), none] [] S (some (vI z3)) S1 ∧ ((w32 x9 ≤ w32 z3) → ∃ (z6 : Int) (S4 : ms), EV q 401 0 [some (.ref 367), some (vI (x6 + 24)), some (vI 4), none, none, none] [] S1 (some (vL z6)) S4 ∧ ((w64 z6 ≤ w64 6000) → EV q 400 426 [some (.ref 367), some (vI x1), some (vL x2), none, some (vL x4), none, some (vI x6), some (vL x7), none, some (vI x9), some (vL x10), none, some (vI x12), none] [vI 0] S4 r S') ∧ ((¬ w64 z6 ≤ w64 6000) → EV q 400 426 [some (.ref 367), some (vI x1), some (vL x2), none, some (vL x4), none, some (vI x6), some (vL x7), none, some (vI x9), some (vL x10), none, some (vI x12), none] [vI 104] S4 r S')) ∧ ((¬ w32 x9 ≤ w32 z3) → EV q 400 398 [some (.ref 367), some (vI x1), some (vL x2), none, some (vL x4), none, some (vI x6), some (vL x7), none, some (vI x9), some (vL x10), none, some (vI x12), none] [] S1 r S')))) ∧ ((¬ w32 x12 = 0) → EV q 400 365 [some (.ref 367), some (vI x1), some (vL x2), none, some (vL x4), none, some (vI x6), some (vL x7), none, some (vI x9), some (vL x10), none, some (vI x12), none] [] S r S')) : EV q 400 360 [some (.ref 367), some (vI x1), some (vL x2), none, some (vL x4), none, some (vI x6), some (vL x7), none, some (vI x9), some (vL x10), none, some (vI x12), none] [] S r S' := by
  unfold EV
  refine ev_bk 1 (S' := (362, [some (.ref 367), some (vI x1), some (vL x2), none, some (vL x4), none, some (vI x6), some (vL x7), none, some (vI x9), some (vL x10), none, some (vI x12), none], [vI x12], hp S, 0, 0)) rfl ?_
  refine mv_if 370 rfl rfl (fun c => ?_) (fun c => ?_)
  · have F := F.1 c
    refine ev_bk 1 (S' := (372, [some (.ref 367), some (vI x1), some (vL x2), none, some (vL x4), none, some (vI x6), some (vL x7), none, some (vI x9), some (vL x10), none, some (vI x12), none], [vI x9], hp S, 0, 0)) rfl ?_
    refine mv_if 398 rfl rfl (fun c => ?_) (fun c => ?_)
    · have F := F.1 c
      exact F
    · have F := F.2 c
      refine ev_bk 2 (S' := (379, [some (.ref 367), some (vI x1), some (vL x2), none, some (vL x4), none, some (vI x6), some (vL x7), none, some (vI x9), some (vL x10), none, some (vI x12), none], [vI 100, vI x9], hp S, 0, 0)) rfl ?_
      refine mv_icmp 398 rfl rfl (fun c => ?_) (fun c => ?_)
      · have F := F.1 c
        exact F
      · have F := F.2 c
        refine ev_bk 3 (S' := (387, [some (.ref 367), some (vI x1), some (vL x2), none, some (vL x4), none, some (vI x6), some (vL x7), none, some (vI x9), some (vL x10), none, some (vI x12), none], [vI 46, vI x6, .ref 367], hp S, 0, 0)) rfl ?_
        refine mv_iadd rfl ?_
        refine ev_bk 1 (S' := (390, [some (.ref 367), some (vI x1), some (vL x2), none, some (vL x4), none, some (vI x6), some (vL x7), none, some (vI x9), some (vL x10), none, some (vI x12), none], [vI x9, vI (x6 + 46), .ref 367], hp S, 0, 0)) rfl ?_
        obtain ⟨z3, S1, e2, F⟩ := F
        refine mv_calv (as := [vI (x6 + 46), vI x9]) (rest := []) e2 (sh_367) rfl rfl rfl ⟨rfl, rfl⟩ rfl rfl rfl rfl rfl ?_
        refine ev_bk 1 (S' := (395, [some (.ref 367), some (vI x1), some (vL x2), none, some (vL x4), none, some (vI x6), some (vL x7), none, some (vI x9), some (vL x10), none, some (vI x12), none], [vI x9, vI z3], hp S1, 0, 0)) rfl ?_
        refine mv_icmp 403 rfl rfl (fun c => ?_) (fun c => ?_)
        · have F := F.1 c
          refine ev_bk 3 (S' := (408, [some (.ref 367), some (vI x1), some (vL x2), none, some (vL x4), none, some (vI x6), some (vL x7), none, some (vI x9), some (vL x10), none, some (vI x12), none], [vI 24, vI x6, .ref 367], hp S1, 0, 0)) rfl ?_
          refine mv_iadd rfl ?_
          refine ev_bk 1 (S' := (410, [some (.ref 367), some (vI x1), some (vL x2), none, some (vL x4), none, some (vI x6), some (vL x7), none, some (vI x9), some (vL x10), none, some (vI x12), none], [vI 4, vI (x6 + 24), .ref 367], hp S1, 0, 0)) rfl ?_
          obtain ⟨z6, S4, e5, F⟩ := F
          refine mv_calv (as := [vI (x6 + 24), vI 4]) (rest := []) e5 (sh_367) rfl rfl rfl ⟨rfl, rfl⟩ rfl rfl rfl rfl rfl ?_
          refine ev_bk 1 (S' := (416, [some (.ref 367), some (vI x1), some (vL x2), none, some (vL x4), none, some (vI x6), some (vL x7), none, some (vI x9), some (vL x10), none, some (vI x12), none], [vL 6000, vL z6], hp S4, 0, 0)) rfl ?_
          refine mv_lif 425 rfl rfl rfl (fun c => ?_) (fun c => ?_)
          · have F := F.1 c
            refine ev_bk 1 (S' := (426, [some (.ref 367), some (vI x1), some (vL x2), none, some (vL x4), none, some (vI x6), some (vL x7), none, some (vI x9), some (vL x10), none, some (vI x12), none], [vI 0], hp S4, 0, 0)) rfl ?_
            exact F
          · have F := F.2 c
            refine ev_bk 1 (S' := (422, [some (.ref 367), some (vI x1), some (vL x2), none, some (vL x4), none, some (vI x6), some (vL x7), none, some (vI x9), some (vL x10), none, some (vI x12), none], [vI 104], hp S4, 0, 0)) rfl ?_
            refine mv_goto 426 rfl rfl ?_
            exact F
        · have F := F.2 c
          exact F
  · have F := F.2 c
    exact F
theorem vc_MD_readBox_365 {q : Nat × (Nat → Int32)} {S S' : ms} {r : Option Value} (x1 x2 x4 x6 x7 x9 x10 x12 : Int)
    (F : EV q 400 426 [some (.ref 367), some (vI x1), some (vL x2), none, some (vL x4), none, some (vI x6), some (vL x7), none, some (vI x9), some (vL x10), none, some (vI x12), none] [vI 123] S r S') : EV q 400 365 [some (.ref 367), some (vI x1), some (vL x2), none, some (vL x4), none, some (vI x6), some (vL x7), none, some (vI x9), some (vL x10), none, some (vI x12), none] [] S r S' := by
  unfold EV
  refine ev_bk 1 (S' := (367, [some (.ref 367), some (vI x1), some (vL x2), none, some (vL x4), none, some (vI x6), some (vL x7), none, some (vI x9), some (vL x10), none, some (vI x12), none], [vI 123], hp S, 0, 0)) rfl ?_
  refine mv_goto 426 rfl rfl ?_
  exact F
theorem vc_MD_readBox_398 {q : Nat × (Nat → Int32)} {S S' : ms} {r : Option Value} (x1 x2 x4 x6 x7 x9 x10 x12 : Int)
    (F : EV q 400 426 [some (.ref 367), some (vI x1), some (vL x2), none, some (vL x4), none, some (vI x6), some (vL x7), none, some (vI x9), some (vL x10), none, some (vI x12), none] [vI 103] S r S') : EV q 400 398 [some (.ref 367), some (vI x1), some (vL x2), none, some (vL x4), none, some (vI x6), some (vL x7), none, some (vI x9), some (vL x10), none, some (vI x12), none] [] S r S' := by
  unfold EV
  refine ev_bk 1 (S' := (400, [some (.ref 367), some (vI x1), some (vL x2), none, some (vL x4), none, some (vI x6), some (vL x7), none, some (vI x9), some (vL x10), none, some (vI x12), none], [vI 103], hp S, 0, 0)) rfl ?_
  refine mv_goto 426 rfl rfl ?_
  exact F
theorem vc_MD_readBox_426 {q : Nat × (Nat → Int32)} {S S' : ms} {r : Option Value} (x1 x2 x4 x6 x7 x9 x10 x12 y0 : Int)
    (F : ((w32 y0 ≤ 0) → ∃ (S1 : ms), EV q 402 0 [some (.ref 367), some (vI x6), some (vI x4), some (vI x9), none, none, none, none, none, none, none, none, none, none, none, none, none] [] S none S1 ∧ EV q 400 161 [some (.ref 367), some (vI x1), some (vL x2), none, some (vL x4), none, some (vI (x6 + (46 + x9))), some (vL (x7 + 1)), none, none, none, none, none, none] [] S1 r S') ∧ ((¬ w32 y0 ≤ 0) → ∃ (S3 : ms), EV q 335 0 [some (.ref 367), some (vI y0), some (vI x6)] [] S none S3 ∧ r = none ∧ S' = S3)) : EV q 400 426 [some (.ref 367), some (vI x1), some (vL x2), none, some (vL x4), none, some (vI x6), some (vL x7), none, some (vI x9), some (vL x10), none, some (vI x12), none] [vI y0] S r S' := by
  unfold EV
  refine ev_bk 2 (S' := (430, [some (.ref 367), some (vI x1), some (vL x2), none, some (vL x4), none, some (vI x6), some (vL x7), none, some (vI x9), some (vL x10), none, some (vI x12), some (vI y0)], [vI y0], hp S, 0, 0)) rfl ?_
  refine mv_if 442 rfl rfl (fun c => ?_) (fun c => ?_)
  · have F := F.1 c
    refine ev_bk 3 (S' := (447, [some (.ref 367), some (vI x1), some (vL x2), none, some (vL x4), none, some (vI x6), some (vL x7), none, some (vI x9), some (vL x10), none, some (vI x12), some (vI y0)], [vL x4, vI x6, .ref 367], hp S, 0, 0)) rfl ?_
    refine mv_l2i rfl ?_
    refine ev_bk 1 (S' := (450, [some (.ref 367), some (vI x1), some (vL x2), none, some (vL x4), none, some (vI x6), some (vL x7), none, some (vI x9), some (vL x10), none, some (vI x12), some (vI y0)], [vI x9, vI x4, vI x6, .ref 367], hp S, 0, 0)) rfl ?_
    obtain ⟨S1, e2, F⟩ := F
    refine mv_calv (as := [vI x6, vI x4, vI x9]) (rest := []) e2 (sh_367) rfl rfl rfl ⟨rfl, rfl⟩ rfl rfl rfl rfl rfl ?_
    refine ev_bk 3 (S' := (459, [some (.ref 367), some (vI x1), some (vL x2), none, some (vL x4), none, some (vI x6), some (vL x7), none, some (vI x9), some (vL x10), none, some (vI x12), some (vI y0)], [vI x9, vI 46, vI x6], hp S1, 0, 0)) rfl ?_
    refine mv_iadd rfl ?_
    refine mv_iadd rfl ?_
    refine ev_bk 3 (S' := (466, [some (.ref 367), some (vI x1), some (vL x2), none, some (vL x4), none, some (vI (x6 + (46 + x9))), some (vL x7), none, some (vI x9), some (vL x10), none, some (vI x12), some (vI y0)], [vL 1, vL x7], hp S1, 0, 0)) rfl ?_
    refine mv_ladd rfl ?_
    refine ev_bk 1 (S' := (469, [some (.ref 367), some (vI x1), some (vL x2), none, some (vL x4), none, some (vI (x6 + (46 + x9))), some (vL (x7 + 1)), none, some (vI x9), some (vL x10), none, some (vI x12), some (vI y0)], [], hp S1, 0, 0)) rfl ?_
    refine mv_goto 161 rfl rfl ?_
    exact ev_wk (le_s (le_s (le_s (le_s (le_s (le_s (le_s (le_s (le_s (le_n (le_n (le_s (le_n (le_n le_0)))))))))))))) F
  · have F := F.2 c
    refine ev_bk 3 (S' := (438, [some (.ref 367), some (vI x1), some (vL x2), none, some (vL x4), none, some (vI x6), some (vL x7), none, some (vI x9), some (vL x10), none, some (vI x12), some (vI y0)], [vI x6, vI y0, .ref 367], hp S, 0, 0)) rfl ?_
    obtain ⟨S3, e4, F⟩ := F
    refine mv_calv (as := [vI y0, vI x6]) (rest := []) e4 (sh_367) rfl rfl rfl ⟨rfl, rfl⟩ rfl rfl rfl rfl rfl ?_
    obtain ⟨rfl, rfl⟩ := F
    exact ev_ret rfl rfl
theorem vc_MD_readBox_472 {q : Nat × (Nat → Int32)} {S S' : ms} {r : Option Value} (x1 x2 x4 x6 x7 : Int)
    (F : ∃ (z3 : Int) (S1 : ms), EV q 333 0 [some (.ref 367)] [] S (some (vI z3)) S1 ∧ ((w32 z3 = 0) → r = none ∧ S' = S1) ∧ ((¬ w32 z3 = 0) → ((w32 x6 = w32 x1) → r = none ∧ S' = S1) ∧ ((¬ w32 x6 = w32 x1) → ∃ (S4 : ms), EV q 335 0 [some (.ref 367), some (vI 122), some (vI x6)] [] S1 none S4 ∧ r = none ∧ S' = S4))) : EV q 400 472 [some (.ref 367), some (vI x1), some (vL x2), none, some (vL x4), none, some (vI x6), some (vL x7), none, none, none, none, none, none] [] S r S' := by
  unfold EV
  refine ev_bk 1 (S' := (473, [some (.ref 367), some (vI x1), some (vL x2), none, some (vL x4), none, some (vI x6), some (vL x7), none, none, none, none, none, none], [.ref 367], hp S, 0, 0)) rfl ?_
  obtain ⟨z3, S1, e2, F⟩ := F
  refine mv_calv (as := []) (rest := []) e2 (sh_367) rfl rfl rfl ⟨rfl, rfl⟩ rfl rfl rfl rfl rfl ?_
  refine mv_if 493 rfl rfl (fun c => ?_) (fun c => ?_)
  · have F := F.1 c
    obtain ⟨rfl, rfl⟩ := F
    exact ev_ret rfl rfl
  · have F := F.2 c
    refine ev_bk 2 (S' := (482, [some (.ref 367), some (vI x1), some (vL x2), none, some (vL x4), none, some (vI x6), some (vL x7), none, none, none, none, none, none], [vI x1, vI x6], hp S1, 0, 0)) rfl ?_
    refine mv_icmp 493 rfl rfl (fun c => ?_) (fun c => ?_)
    · have F := F.1 c
      obtain ⟨rfl, rfl⟩ := F
      exact ev_ret rfl rfl
    · have F := F.2 c
      refine ev_bk 3 (S' := (490, [some (.ref 367), some (vI x1), some (vL x2), none, some (vL x4), none, some (vI x6), some (vL x7), none, none, none, none, none, none], [vI x6, vI 122, .ref 367], hp S1, 0, 0)) rfl ?_
      obtain ⟨S4, e5, F⟩ := F
      refine mv_calv (as := [vI 122, vI x6]) (rest := []) e5 (sh_367) rfl rfl rfl ⟨rfl, rfl⟩ rfl rfl rfl rfl rfl ?_
      obtain ⟨rfl, rfl⟩ := F
      exact ev_ret rfl rfl
theorem vc_MD_num {q : Nat × (Nat → Int32)} {S S' : ms} {r : Option Value} (x1 x2 : Int)
    (F : EV q 401 5 [some (.ref 367), some (vI x1), some (vI x2), some (vL 0), none, some (vI 0)] [] S r S') : EV q 401 0 [some (.ref 367), some (vI x1), some (vI x2), none, none, none] [] S r S' := by
  unfold EV
  refine ev_bk 4 (S' := (5, [some (.ref 367), some (vI x1), some (vI x2), some (vL 0), none, some (vI 0)], [], hp S, 0, 0)) rfl ?_
  exact F
theorem vc_MD_num_5 {q : Nat × (Nat → Int32)} {S S' : ms} {r : Option Value} (x1 x2 x3 x5 : Int)
    (F : ((w32 x2 ≤ w32 x5) → r = some (vL x3) ∧ S' = S) ∧ ((¬ w32 x2 ≤ w32 x5) → (0 ≤ w32 (x1 + x5) ∧ w32 (x1 + x5) < (6000 : Nat)) ∧ EV q 401 5 [some (.ref 367), some (vI x1), some (vI x2), some (vL (lO x3 (((w32 (S.1 368 (w32 (x1 + x5)))) % 256) * ((2 : Int) ^ ((8 * x5) % 64).toNat)))), none, some (vI (x5 + 1))] [] S r S')) : EV q 401 5 [some (.ref 367), some (vI x1), some (vI x2), some (vL x3), none, some (vI x5)] [] S r S' := by
  unfold EV
  refine ev_bk 2 (S' := (8, [some (.ref 367), some (vI x1), some (vI x2), some (vL x3), none, some (vI x5)], [vI x2, vI x5], hp S, 0, 0)) rfl ?_
  refine mv_icmp 40 rfl rfl (fun c => ?_) (fun c => ?_)
  · have F := F.1 c
    refine ev_bk 1 (S' := (41, [some (.ref 367), some (vI x1), some (vI x2), some (vL x3), none, some (vI x5)], [vL x3], hp S, 0, 0)) rfl ?_
    obtain ⟨rfl, rfl⟩ := F
    exact ev_ret rfl rfl
  · have F := F.2 c
    refine ev_bk 2 (S' := (13, [some (.ref 367), some (vI x1), some (vI x2), some (vL x3), none, some (vI x5)], [.ref 367, vL x3], hp S, 0, 0)) rfl ?_
    refine mv_gfR rfl rfl (sh_367) (by decide) rfl ?_
    refine ev_bk 2 (S' := (19, [some (.ref 367), some (vI x1), some (vI x2), some (vL x3), none, some (vI x5)], [vI x5, vI x1, .ref 368, vL x3], hp S, 0, 0)) rfl ?_
    refine mv_iadd rfl ?_
    obtain ⟨b1, F⟩ := F
    refine mv_bal rfl (sh_368) b1 ?_
    refine mv_i2l rfl ?_
    refine ev_bk 1 (S' := (25, [some (.ref 367), some (vI x1), some (vI x2), some (vL x3), none, some (vI x5)], [vL 255, vL (w32 (S.1 368 (w32 (x1 + x5)))), vL x3], hp S, 0, 0)) rfl ?_
    refine mv_landm 256 8 (by decide) rfl rfl rfl ?_
    refine ev_bk 2 (S' := (30, [some (.ref 367), some (vI x1), some (vI x2), some (vL x3), none, some (vI x5)], [vI x5, vI 8, vL ((w32 (S.1 368 (w32 (x1 + x5)))) % 256), vL x3], hp S, 0, 0)) rfl ?_
    refine mv_imul rfl ?_
    refine mv_lshl ((2 : Int) ^ ((8 * x5) % 64).toNat) rfl rfl ?_
    refine mv_lor rfl ?_
    refine ev_bk 1 (S' := (34, [some (.ref 367), some (vI x1), some (vI x2), some (vL (lO x3 (((w32 (S.1 368 (w32 (x1 + x5)))) % 256) * ((2 : Int) ^ ((8 * x5) % 64).toNat)))), none, some (vI x5)], [], hp S, 0, 0)) rfl ?_
    refine mv_inc (lv' := [some (.ref 367), some (vI x1), some (vI x2), some (vL (lO x3 (((w32 (S.1 368 (w32 (x1 + x5)))) % 256) * ((2 : Int) ^ ((8 * x5) % 64).toNat)))), none, some (vI (x5 + 1))]) 5 1 rfl rfl rfl rfl ?_
    refine mv_goto 5 rfl rfl ?_
    exact F
theorem vc_MD_boxHead {q : Nat × (Nat → Int32)} {S S' : ms} {r : Option Value} (x1 x2 x3 : Int)
    (F : ∃ (z3 : Int) (S1 : ms), EV q 401 0 [some (.ref 367), some (vI (x1 + 42)), some (vI 4), none, none, none] [] S (some (vL z3)) S1 ∧ ∃ (z6 : Int) (S4 : ms), EV q 401 0 [some (.ref 367), some (vI (x1 + 20)), some (vI 4), none, none, none] [] S1 (some (vL z6)) S4 ∧ ∃ (z9 : Int) (S7 : ms), EV q 401 0 [some (.ref 367), some (vI (x1 + 24)), some (vI 4), none, none, none] [] S4 (some (vL z9)) S7 ∧ ((w64 (w32 x2) < w64 ((z3 + 30 + (w32 x3)) + z6)) → EV q 402 56 [some (.ref 367), some (vI x1), some (vI x2), some (vI x3), some (vL z3), none, some (vL z6), none, some (vL z9), none, none, none, none, none, none, none, none] [vI 0] S7 r S') ∧ ((¬ w64 (w32 x2) < w64 ((z3 + 30 + (w32 x3)) + z6)) → EV q 402 56 [some (.ref 367), some (vI x1), some (vI x2), some (vI x3), some (vL z3), none, some (vL z6), none, some (vL z9), none, none, none, none, none, none, none, none] [vI 1] S7 r S')) : EV q 402 0 [some (.ref 367), some (vI x1), some (vI x2), some (vI x3), none, none, none, none, none, none, none, none, none, none, none, none, none] [] S r S' := by
  unfold EV
  refine ev_bk 3 (S' := (4, [some (.ref 367), some (vI x1), some (vI x2), some (vI x3), none, none, none, none, none, none, none, none, none, none, none, none, none], [vI 42, vI x1, .ref 367], hp S, 0, 0)) rfl ?_
  refine mv_iadd rfl ?_
  refine ev_bk 1 (S' := (6, [some (.ref 367), some (vI x1), some (vI x2), some (vI x3), none, none, none, none, none, none, none, none, none, none, none, none, none], [vI 4, vI (x1 + 42), .ref 367], hp S, 0, 0)) rfl ?_
  obtain ⟨z3, S1, e2, F⟩ := F
  refine mv_calv (as := [vI (x1 + 42), vI 4]) (rest := []) e2 (sh_367) rfl rfl rfl ⟨rfl, rfl⟩ rfl rfl rfl rfl rfl ?_
  refine ev_bk 4 (S' := (15, [some (.ref 367), some (vI x1), some (vI x2), some (vI x3), some (vL z3), none, none, none, none, none, none, none, none, none, none, none, none], [vI 20, vI x1, .ref 367], hp S1, 0, 0)) rfl ?_
  refine mv_iadd rfl ?_
  refine ev_bk 1 (S' := (17, [some (.ref 367), some (vI x1), some (vI x2), some (vI x3), some (vL z3), none, none, none, none, none, none, none, none, none, none, none, none], [vI 4, vI (x1 + 20), .ref 367], hp S1, 0, 0)) rfl ?_
  obtain ⟨z6, S4, e5, F⟩ := F
  refine mv_calv (as := [vI (x1 + 20), vI 4]) (rest := []) e5 (sh_367) rfl rfl rfl ⟨rfl, rfl⟩ rfl rfl rfl rfl rfl ?_
  refine ev_bk 4 (S' := (26, [some (.ref 367), some (vI x1), some (vI x2), some (vI x3), some (vL z3), none, some (vL z6), none, none, none, none, none, none, none, none, none, none], [vI 24, vI x1, .ref 367], hp S4, 0, 0)) rfl ?_
  refine mv_iadd rfl ?_
  refine ev_bk 1 (S' := (28, [some (.ref 367), some (vI x1), some (vI x2), some (vI x3), some (vL z3), none, some (vL z6), none, none, none, none, none, none, none, none, none, none], [vI 4, vI (x1 + 24), .ref 367], hp S4, 0, 0)) rfl ?_
  obtain ⟨z9, S7, e8, F⟩ := F
  refine mv_calv (as := [vI (x1 + 24), vI 4]) (rest := []) e8 (sh_367) rfl rfl rfl ⟨rfl, rfl⟩ rfl rfl rfl rfl rfl ?_
  refine ev_bk 3 (S' := (38, [some (.ref 367), some (vI x1), some (vI x2), some (vI x3), some (vL z3), none, some (vL z6), none, some (vL z9), none, none, none, none, none, none, none, none], [vL 30, vL z3], hp S7, 0, 0)) rfl ?_
  refine mv_ladd rfl ?_
  refine ev_bk 1 (S' := (40, [some (.ref 367), some (vI x1), some (vI x2), some (vI x3), some (vL z3), none, some (vL z6), none, some (vL z9), none, none, none, none, none, none, none, none], [vI x3, vL (z3 + 30)], hp S7, 0, 0)) rfl ?_
  refine mv_i2l rfl ?_
  refine mv_ladd rfl ?_
  refine ev_bk 1 (S' := (44, [some (.ref 367), some (vI x1), some (vI x2), some (vI x3), some (vL z3), none, some (vL z6), none, some (vL z9), none, none, none, none, none, none, none, none], [vL z6, vL (z3 + 30 + (w32 x3))], hp S7, 0, 0)) rfl ?_
  refine mv_ladd rfl ?_
  refine ev_bk 1 (S' := (46, [some (.ref 367), some (vI x1), some (vI x2), some (vI x3), some (vL z3), none, some (vL z6), none, some (vL z9), none, none, none, none, none, none, none, none], [vI x2, vL ((z3 + 30 + (w32 x3)) + z6)], hp S7, 0, 0)) rfl ?_
  refine mv_i2l rfl ?_
  refine mv_lif 55 rfl rfl rfl (fun c => ?_) (fun c => ?_)
  · have F := F.1 c
    refine ev_bk 1 (S' := (56, [some (.ref 367), some (vI x1), some (vI x2), some (vI x3), some (vL z3), none, some (vL z6), none, some (vL z9), none, none, none, none, none, none, none, none], [vI 0], hp S7, 0, 0)) rfl ?_
    exact F
  · have F := F.2 c
    refine ev_bk 1 (S' := (52, [some (.ref 367), some (vI x1), some (vI x2), some (vI x3), some (vL z3), none, some (vL z6), none, some (vL z9), none, none, none, none, none, none, none, none], [vI 1], hp S7, 0, 0)) rfl ?_
    refine mv_goto 56 rfl rfl ?_
    exact F
theorem vc_MD_boxHead_56 {q : Nat × (Nat → Int32)} {S S' : ms} {r : Option Value} (x1 x2 x3 x4 x6 x8 y0 : Int)
    (F : ((w32 y0 = 0) → EV q 402 70 [some (.ref 367), some (vI x1), some (vI x2), some (vI x3), some (vL x4), none, some (vL x6), none, some (vL x8), none, some (vI y0), none, none, none, none, none, none] [vI 0] S r S') ∧ ((¬ w32 y0 = 0) → EV q 402 70 [some (.ref 367), some (vI x1), some (vI x2), some (vI x3), some (vL x4), none, some (vL x6), none, some (vL x8), none, some (vI y0), none, none, none, none, none, none] [vI x4] S r S')) : EV q 402 56 [some (.ref 367), some (vI x1), some (vI x2), some (vI x3), some (vL x4), none, some (vL x6), none, some (vL x8), none, none, none, none, none, none, none, none] [vI y0] S r S' := by
  unfold EV
  refine ev_bk 2 (S' := (60, [some (.ref 367), some (vI x1), some (vI x2), some (vI x3), some (vL x4), none, some (vL x6), none, some (vL x8), none, some (vI y0), none, none, none, none, none, none], [vI y0], hp S, 0, 0)) rfl ?_
  refine mv_if 69 rfl rfl (fun c => ?_) (fun c => ?_)
  · have F := F.1 c
    refine ev_bk 1 (S' := (70, [some (.ref 367), some (vI x1), some (vI x2), some (vI x3), some (vL x4), none, some (vL x6), none, some (vL x8), none, some (vI y0), none, none, none, none, none, none], [vI 0], hp S, 0, 0)) rfl ?_
    exact F
  · have F := F.2 c
    refine ev_bk 1 (S' := (65, [some (.ref 367), some (vI x1), some (vI x2), some (vI x3), some (vL x4), none, some (vL x6), none, some (vL x8), none, some (vI y0), none, none, none, none, none, none], [vL x4], hp S, 0, 0)) rfl ?_
    refine mv_l2i rfl ?_
    refine mv_goto 70 rfl rfl ?_
    exact F
theorem vc_MD_boxHead_70 {q : Nat × (Nat → Int32)} {S S' : ms} {r : Option Value} (x1 x2 x3 x4 x6 x8 x10 y0 : Int)
    (F : ((w32 x10 = 0) → EV q 402 180 [some (.ref 367), some (vI x1), some (vI x2), some (vI x3), some (vL x4), none, some (vL x6), none, some (vL x8), none, some (vI x10), some (vI y0), none, none, none, none, none] [] S r S') ∧ ((¬ w32 x10 = 0) → ∃ (z3 : Int) (S1 : ms), EV q 401 0 [some (.ref 367), some (vI y0), some (vI 4), none, none, none] [] S (some (vL z3)) S1 ∧ ((¬ w64 z3 = w64 67324752) → EV q 402 180 [some (.ref 367), some (vI x1), some (vI x2), some (vI x3), some (vL x4), none, some (vL x6), none, some (vL x8), none, some (vI x10), some (vI y0), none, none, none, none, none] [] S1 r S') ∧ ((¬ (¬ w64 z3 = w64 67324752)) → ∃ (z6 : Int) (S4 : ms), EV q 401 0 [some (.ref 367), some (vI (y0 + 4)), some (vI 2), none, none, none] [] S1 (some (vL z6)) S4 ∧ ((¬ w64 z6 = w64 20) → EV q 402 180 [some (.ref 367), some (vI x1), some (vI x2), some (vI x3), some (vL x4), none, some (vL x6), none, some (vL x8), none, some (vI x10), some (vI y0), none, none, none, none, none] [] S4 r S') ∧ ((¬ (¬ w64 z6 = w64 20)) → ∃ (z9 : Int) (S7 : ms), EV q 401 0 [some (.ref 367), some (vI (y0 + 6)), some (vI 2), none, none, none] [] S4 (some (vL z9)) S7 ∧ ((¬ w64 z9 = w64 0) → EV q 402 180 [some (.ref 367), some (vI x1), some (vI x2), some (vI x3), some (vL x4), none, some (vL x6), none, some (vL x8), none, some (vI x10), some (vI y0), none, none, none, none, none] [] S7 r S') ∧ ((¬ (¬ w64 z9 = w64 0)) → ∃ (z12 : Int) (S10 : ms), EV q 401 0 [some (.ref 367), some (vI (y0 + 28)), some (vI 2), none, none, none] [] S7 (some (vL z12)) S10 ∧ ((¬ w64 z12 = w64 0) → EV q 402 180 [some (.ref 367), some (vI x1), some (vI x2), some (vI x3), some (vL x4), none, some (vL x6), none, some (vL x8), none, some (vI x10), some (vI y0), none, none, none, none, none] [] S10 r S') ∧ ((¬ (¬ w64 z12 = w64 0)) → ∃ (z15 : Int) (S13 : ms), EV q 401 0 [some (.ref 367), some (vI (y0 + 8)), some (vI 2), none, none, none] [] S10 (some (vL z15)) S13 ∧ ∃ (z18 : Int) (S16 : ms), EV q 401 0 [some (.ref 367), some (vI (x1 + 10)), some (vI 2), none, none, none] [] S13 (some (vL z18)) S16 ∧ ((¬ w64 z15 = w64 z18) → EV q 402 180 [some (.ref 367), some (vI x1), some (vI x2), some (vI x3), some (vL x4), none, some (vL x6), none, some (vL x8), none, some (vI x10), some (vI y0), none, none, none, none, none] [] S16 r S') ∧ ((¬ (¬ w64 z15 = w64 z18)) → ∃ (z21 : Int) (S19 : ms), EV q 401 0 [some (.ref 367), some (vI (y0 + 26)), some (vI 2), none, none, none] [] S16 (some (vL z21)) S19 ∧ ((¬ w64 z21 = w64 (w32 x3)) → EV q 402 180 [some (.ref 367), some (vI x1), some (vI x2), some (vI x3), some (vL x4), none, some (vL x6), none, some (vL x8), none, some (vI x10), some (vI y0), none, none, none, none, none] [] S19 r S') ∧ ((¬ (¬ w64 z21 = w64 (w32 x3))) → EV q 402 181 [some (.ref 367), some (vI x1), some (vI x2), some (vI x3), some (vL x4), none, some (vL x6), none, some (vL x8), none, some (vI x10), some (vI y0), none, none, none, none, none] [vI 1] S19 r S')))))))) : EV q 402 70 [some (.ref 367), some (vI x1), some (vI x2), some (vI x3), some (vL x4), none, some (vL x6), none, some (vL x8), none, some (vI x10), none, none, none, none, none, none] [vI y0] S r S' := by
  unfold EV
  refine ev_bk 2 (S' := (74, [some (.ref 367), some (vI x1), some (vI x2), some (vI x3), some (vL x4), none, some (vL x6), none, some (vL x8), none, some (vI x10), some (vI y0), none, none, none, none, none], [vI x10], hp S, 0, 0)) rfl ?_
  refine mv_if 180 rfl rfl (fun c => ?_) (fun c => ?_)
  · have F := F.1 c
    exact F
  · have F := F.2 c
    refine ev_bk 3 (S' := (81, [some (.ref 367), some (vI x1), some (vI x2), some (vI x3), some (vL x4), none, some (vL x6), none, some (vL x8), none, some (vI x10), some (vI y0), none, none, none, none, none], [vI 4, vI y0, .ref 367], hp S, 0, 0)) rfl ?_
    obtain ⟨z3, S1, e2, F⟩ := F
    refine mv_calv (as := [vI y0, vI 4]) (rest := []) e2 (sh_367) rfl rfl rfl ⟨rfl, rfl⟩ rfl rfl rfl rfl rfl ?_
    refine ev_bk 1 (S' := (87, [some (.ref 367), some (vI x1), some (vI x2), some (vI x3), some (vL x4), none, some (vL x6), none, some (vL x8), none, some (vI x10), some (vI y0), none, none, none, none, none], [vL 67324752, vL z3], hp S1, 0, 0)) rfl ?_
    refine mv_lif 180 rfl rfl rfl (fun c => ?_) (fun c => ?_)
    · have F := F.1 c
      exact F
    · have F := F.2 c
      refine ev_bk 3 (S' := (95, [some (.ref 367), some (vI x1), some (vI x2), some (vI x3), some (vL x4), none, some (vL x6), none, some (vL x8), none, some (vI x10), some (vI y0), none, none, none, none, none], [vI 4, vI y0, .ref 367], hp S1, 0, 0)) rfl ?_
      refine mv_iadd rfl ?_
      refine ev_bk 1 (S' := (97, [some (.ref 367), some (vI x1), some (vI x2), some (vI x3), some (vL x4), none, some (vL x6), none, some (vL x8), none, some (vI x10), some (vI y0), none, none, none, none, none], [vI 2, vI (y0 + 4), .ref 367], hp S1, 0, 0)) rfl ?_
      obtain ⟨z6, S4, e5, F⟩ := F
      refine mv_calv (as := [vI (y0 + 4), vI 2]) (rest := []) e5 (sh_367) rfl rfl rfl ⟨rfl, rfl⟩ rfl rfl rfl rfl rfl ?_
      refine ev_bk 1 (S' := (103, [some (.ref 367), some (vI x1), some (vI x2), some (vI x3), some (vL x4), none, some (vL x6), none, some (vL x8), none, some (vI x10), some (vI y0), none, none, none, none, none], [vL 20, vL z6], hp S4, 0, 0)) rfl ?_
      refine mv_lif 180 rfl rfl rfl (fun c => ?_) (fun c => ?_)
      · have F := F.1 c
        exact F
      · have F := F.2 c
        refine ev_bk 3 (S' := (112, [some (.ref 367), some (vI x1), some (vI x2), some (vI x3), some (vL x4), none, some (vL x6), none, some (vL x8), none, some (vI x10), some (vI y0), none, none, none, none, none], [vI 6, vI y0, .ref 367], hp S4, 0, 0)) rfl ?_
        refine mv_iadd rfl ?_
        refine ev_bk 1 (S' := (114, [some (.ref 367), some (vI x1), some (vI x2), some (vI x3), some (vL x4), none, some (vL x6), none, some (vL x8), none, some (vI x10), some (vI y0), none, none, none, none, none], [vI 2, vI (y0 + 6), .ref 367], hp S4, 0, 0)) rfl ?_
        obtain ⟨z9, S7, e8, F⟩ := F
        refine mv_calv (as := [vI (y0 + 6), vI 2]) (rest := []) e8 (sh_367) rfl rfl rfl ⟨rfl, rfl⟩ rfl rfl rfl rfl rfl ?_
        refine ev_bk 1 (S' := (118, [some (.ref 367), some (vI x1), some (vI x2), some (vI x3), some (vL x4), none, some (vL x6), none, some (vL x8), none, some (vI x10), some (vI y0), none, none, none, none, none], [vL 0, vL z9], hp S7, 0, 0)) rfl ?_
        refine mv_lif 180 rfl rfl rfl (fun c => ?_) (fun c => ?_)
        · have F := F.1 c
          exact F
        · have F := F.2 c
          refine ev_bk 3 (S' := (127, [some (.ref 367), some (vI x1), some (vI x2), some (vI x3), some (vL x4), none, some (vL x6), none, some (vL x8), none, some (vI x10), some (vI y0), none, none, none, none, none], [vI 28, vI y0, .ref 367], hp S7, 0, 0)) rfl ?_
          refine mv_iadd rfl ?_
          refine ev_bk 1 (S' := (129, [some (.ref 367), some (vI x1), some (vI x2), some (vI x3), some (vL x4), none, some (vL x6), none, some (vL x8), none, some (vI x10), some (vI y0), none, none, none, none, none], [vI 2, vI (y0 + 28), .ref 367], hp S7, 0, 0)) rfl ?_
          obtain ⟨z12, S10, e11, F⟩ := F
          refine mv_calv (as := [vI (y0 + 28), vI 2]) (rest := []) e11 (sh_367) rfl rfl rfl ⟨rfl, rfl⟩ rfl rfl rfl rfl rfl ?_
          refine ev_bk 1 (S' := (133, [some (.ref 367), some (vI x1), some (vI x2), some (vI x3), some (vL x4), none, some (vL x6), none, some (vL x8), none, some (vI x10), some (vI y0), none, none, none, none, none], [vL 0, vL z12], hp S10, 0, 0)) rfl ?_
          refine mv_lif 180 rfl rfl rfl (fun c => ?_) (fun c => ?_)
          · have F := F.1 c
            exact F
          · have F := F.2 c
            refine ev_bk 3 (S' := (142, [some (.ref 367), some (vI x1), some (vI x2), some (vI x3), some (vL x4), none, some (vL x6), none, some (vL x8), none, some (vI x10), some (vI y0), none, none, none, none, none], [vI 8, vI y0, .ref 367], hp S10, 0, 0)) rfl ?_
            refine mv_iadd rfl ?_
            refine ev_bk 1 (S' := (144, [some (.ref 367), some (vI x1), some (vI x2), some (vI x3), some (vL x4), none, some (vL x6), none, some (vL x8), none, some (vI x10), some (vI y0), none, none, none, none, none], [vI 2, vI (y0 + 8), .ref 367], hp S10, 0, 0)) rfl ?_
            obtain ⟨z15, S13, e14, F⟩ := F
            refine mv_calv (as := [vI (y0 + 8), vI 2]) (rest := []) e14 (sh_367) rfl rfl rfl ⟨rfl, rfl⟩ rfl rfl rfl rfl rfl ?_
            refine ev_bk 3 (S' := (151, [some (.ref 367), some (vI x1), some (vI x2), some (vI x3), some (vL x4), none, some (vL x6), none, some (vL x8), none, some (vI x10), some (vI y0), none, none, none, none, none], [vI 10, vI x1, .ref 367, vL z15], hp S13, 0, 0)) rfl ?_
            refine mv_iadd rfl ?_
            refine ev_bk 1 (S' := (153, [some (.ref 367), some (vI x1), some (vI x2), some (vI x3), some (vL x4), none, some (vL x6), none, some (vL x8), none, some (vI x10), some (vI y0), none, none, none, none, none], [vI 2, vI (x1 + 10), .ref 367, vL z15], hp S13, 0, 0)) rfl ?_
            obtain ⟨z18, S16, e17, F⟩ := F
            refine mv_calv (as := [vI (x1 + 10), vI 2]) (rest := [vL z15]) e17 (sh_367) rfl rfl rfl ⟨rfl, rfl⟩ rfl rfl rfl rfl rfl ?_
            refine mv_lif 180 rfl rfl rfl (fun c => ?_) (fun c => ?_)
            · have F := F.1 c
              exact F
            · have F := F.2 c
              refine ev_bk 3 (S' := (165, [some (.ref 367), some (vI x1), some (vI x2), some (vI x3), some (vL x4), none, some (vL x6), none, some (vL x8), none, some (vI x10), some (vI y0), none, none, none, none, none], [vI 26, vI y0, .ref 367], hp S16, 0, 0)) rfl ?_
              refine mv_iadd rfl ?_
              refine ev_bk 1 (S' := (167, [some (.ref 367), some (vI x1), some (vI x2), some (vI x3), some (vL x4), none, some (vL x6), none, some (vL x8), none, some (vI x10), some (vI y0), none, none, none, none, none], [vI 2, vI (y0 + 26), .ref 367], hp S16, 0, 0)) rfl ?_
              obtain ⟨z21, S19, e20, F⟩ := F
              refine mv_calv (as := [vI (y0 + 26), vI 2]) (rest := []) e20 (sh_367) rfl rfl rfl ⟨rfl, rfl⟩ rfl rfl rfl rfl rfl ?_
              refine ev_bk 1 (S' := (171, [some (.ref 367), some (vI x1), some (vI x2), some (vI x3), some (vL x4), none, some (vL x6), none, some (vL x8), none, some (vI x10), some (vI y0), none, none, none, none, none], [vI x3, vL z21], hp S19, 0, 0)) rfl ?_
              refine mv_i2l rfl ?_
              refine mv_lif 180 rfl rfl rfl (fun c => ?_) (fun c => ?_)
              · have F := F.1 c
                exact F
              · have F := F.2 c
                refine ev_bk 1 (S' := (177, [some (.ref 367), some (vI x1), some (vI x2), some (vI x3), some (vL x4), none, some (vL x6), none, some (vL x8), none, some (vI x10), some (vI y0), none, none, none, none, none], [vI 1], hp S19, 0, 0)) rfl ?_
                refine mv_goto 181 rfl rfl ?_
                exact F
theorem vc_MD_boxHead_180 {q : Nat × (Nat → Int32)} {S S' : ms} {r : Option Value} (x1 x2 x3 x4 x6 x8 x10 x11 : Int)
    (F : EV q 402 181 [some (.ref 367), some (vI x1), some (vI x2), some (vI x3), some (vL x4), none, some (vL x6), none, some (vL x8), none, some (vI x10), some (vI x11), none, none, none, none, none] [vI 0] S r S') : EV q 402 180 [some (.ref 367), some (vI x1), some (vI x2), some (vI x3), some (vL x4), none, some (vL x6), none, some (vL x8), none, some (vI x10), some (vI x11), none, none, none, none, none] [] S r S' := by
  unfold EV
  refine ev_bk 1 (S' := (181, [some (.ref 367), some (vI x1), some (vI x2), some (vI x3), some (vL x4), none, some (vL x6), none, some (vL x8), none, some (vI x10), some (vI x11), none, none, none, none, none], [vI 0], hp S, 0, 0)) rfl ?_
  exact F
theorem vc_MD_boxHead_181 {q : Nat × (Nat → Int32)} {S S' : ms} {r : Option Value} (x1 x2 x3 x4 x6 x8 x10 x11 y0 : Int)
    (F : EV q 402 186 [some (.ref 367), some (vI x1), some (vI x2), some (vI x3), some (vL x4), none, some (vL x6), none, some (vL x8), none, some (vI y0), some (vI x11), some (vI 0), none, none, none, none] [] S r S') : EV q 402 181 [some (.ref 367), some (vI x1), some (vI x2), some (vI x3), some (vL x4), none, some (vL x6), none, some (vL x8), none, some (vI x10), some (vI x11), none, none, none, none, none] [vI y0] S r S' := by
  unfold EV
  refine ev_bk 3 (S' := (186, [some (.ref 367), some (vI x1), some (vI x2), some (vI x3), some (vL x4), none, some (vL x6), none, some (vL x8), none, some (vI y0), some (vI x11), some (vI 0), none, none, none, none], [], hp S, 0, 0)) rfl ?_
  exact F
theorem vc_MD_boxHead_186 {q : Nat × (Nat → Int32)} {S S' : ms} {r : Option Value} (x1 x2 x3 x4 x6 x8 x10 x11 x12 : Int)
    (F : ((16 ≤ w32 x12) → EV q 402 239 [some (.ref 367), some (vI x1), some (vI x2), some (vI x3), some (vL x4), none, some (vL x6), none, some (vL x8), none, some (vI x10), some (vI x11), some (vI x12), none, none, none, none] [] S r S') ∧ ((¬ 16 ≤ w32 x12) → ((w32 x10 = 0) → EV q 402 239 [some (.ref 367), some (vI x1), some (vI x2), some (vI x3), some (vL x4), none, some (vL x6), none, some (vL x8), none, some (vI x10), some (vI x11), some (vI x12), none, none, none, none] [] S r S') ∧ ((¬ w32 x10 = 0) → (0 ≤ w32 (x11 + 10 + x12) ∧ w32 (x11 + 10 + x12) < (6000 : Nat)) ∧ (0 ≤ w32 (x1 + 12 + x12) ∧ w32 (x1 + 12 + x12) < (6000 : Nat)) ∧ ((¬ w32 (S.1 368 (w32 (x11 + 10 + x12))) = w32 (S.1 368 (w32 (x1 + 12 + x12)))) → EV q 402 231 [some (.ref 367), some (vI x1), some (vI x2), some (vI x3), some (vL x4), none, some (vL x6), none, some (vL x8), none, some (vI x10), some (vI x11), some (vI x12), none, none, none, none] [vI 0] S r S') ∧ ((¬ (¬ w32 (S.1 368 (w32 (x11 + 10 + x12))) = w32 (S.1 368 (w32 (x1 + 12 + x12))))) → EV q 402 231 [some (.ref 367), some (vI x1), some (vI x2), some (vI x3), some (vL x4), none, some (vL x6), none, some (vL x8), none, some (vI x10), some (vI x11), some (vI x12), none, none, none, none] [vI 1] S r S')))) : EV q 402 186 [some (.ref 367), some (vI x1), some (vI x2), some (vI x3), some (vL x4), none, some (vL x6), none, some (vL x8), none, some (vI x10), some (vI x11), some (vI x12), none, none, none, none] [] S r S' := by
  unfold EV
  refine ev_bk 2 (S' := (190, [some (.ref 367), some (vI x1), some (vI x2), some (vI x3), some (vL x4), none, some (vL x6), none, some (vL x8), none, some (vI x10), some (vI x11), some (vI x12), none, none, none, none], [vI 16, vI x12], hp S, 0, 0)) rfl ?_
  refine mv_icmp 239 rfl rfl (fun c => ?_) (fun c => ?_)
  · have F := F.1 c
    exact F
  · have F := F.2 c
    refine ev_bk 1 (S' := (195, [some (.ref 367), some (vI x1), some (vI x2), some (vI x3), some (vL x4), none, some (vL x6), none, some (vL x8), none, some (vI x10), some (vI x11), some (vI x12), none, none, none, none], [vI x10], hp S, 0, 0)) rfl ?_
    refine mv_if 239 rfl rfl (fun c => ?_) (fun c => ?_)
    · have F := F.1 c
      exact F
    · have F := F.2 c
      refine ev_bk 1 (S' := (199, [some (.ref 367), some (vI x1), some (vI x2), some (vI x3), some (vL x4), none, some (vL x6), none, some (vL x8), none, some (vI x10), some (vI x11), some (vI x12), none, none, none, none], [.ref 367], hp S, 0, 0)) rfl ?_
      refine mv_gfR rfl rfl (sh_367) (by decide) rfl ?_
      refine ev_bk 2 (S' := (206, [some (.ref 367), some (vI x1), some (vI x2), some (vI x3), some (vL x4), none, some (vL x6), none, some (vL x8), none, some (vI x10), some (vI x11), some (vI x12), none, none, none, none], [vI 10, vI x11, .ref 368], hp S, 0, 0)) rfl ?_
      refine mv_iadd rfl ?_
      refine ev_bk 1 (S' := (209, [some (.ref 367), some (vI x1), some (vI x2), some (vI x3), some (vL x4), none, some (vL x6), none, some (vL x8), none, some (vI x10), some (vI x11), some (vI x12), none, none, none, none], [vI x12, vI (x11 + 10), .ref 368], hp S, 0, 0)) rfl ?_
      refine mv_iadd rfl ?_
      obtain ⟨b1, F⟩ := F
      refine mv_bal rfl (sh_368) b1 ?_
      refine ev_bk 1 (S' := (212, [some (.ref 367), some (vI x1), some (vI x2), some (vI x3), some (vL x4), none, some (vL x6), none, some (vL x8), none, some (vI x10), some (vI x11), some (vI x12), none, none, none, none], [.ref 367, vI (S.1 368 (w32 (x11 + 10 + x12)))], hp S, 0, 0)) rfl ?_
      refine mv_gfR rfl rfl (sh_367) (by decide) rfl ?_
      refine ev_bk 2 (S' := (218, [some (.ref 367), some (vI x1), some (vI x2), some (vI x3), some (vL x4), none, some (vL x6), none, some (vL x8), none, some (vI x10), some (vI x11), some (vI x12), none, none, none, none], [vI 12, vI x1, .ref 368, vI (S.1 368 (w32 (x11 + 10 + x12)))], hp S, 0, 0)) rfl ?_
      refine mv_iadd rfl ?_
      refine ev_bk 1 (S' := (221, [some (.ref 367), some (vI x1), some (vI x2), some (vI x3), some (vL x4), none, some (vL x6), none, some (vL x8), none, some (vI x10), some (vI x11), some (vI x12), none, none, none, none], [vI x12, vI (x1 + 12), .ref 368, vI (S.1 368 (w32 (x11 + 10 + x12)))], hp S, 0, 0)) rfl ?_
      refine mv_iadd rfl ?_
      obtain ⟨b2, F⟩ := F
      refine mv_bal rfl (sh_368) b2 ?_
      refine mv_icmp 230 rfl rfl (fun c => ?_) (fun c => ?_)
      · have F := F.1 c
        refine ev_bk 1 (S' := (231, [some (.ref 367), some (vI x1), some (vI x2), some (vI x3), some (vL x4), none, some (vL x6), none, some (vL x8), none, some (vI x10), some (vI x11), some (vI x12), none, none, none, none], [vI 0], hp S, 0, 0)) rfl ?_
        exact F
      · have F := F.2 c
        refine ev_bk 1 (S' := (227, [some (.ref 367), some (vI x1), some (vI x2), some (vI x3), some (vL x4), none, some (vL x6), none, some (vL x8), none, some (vI x10), some (vI x11), some (vI x12), none, none, none, none], [vI 1], hp S, 0, 0)) rfl ?_
        refine mv_goto 231 rfl rfl ?_
        exact F
theorem vc_MD_boxHead_231 {q : Nat × (Nat → Int32)} {S S' : ms} {r : Option Value} (x1 x2 x3 x4 x6 x8 x10 x11 x12 y0 : Int)
    (F : EV q 402 186 [some (.ref 367), some (vI x1), some (vI x2), some (vI x3), some (vL x4), none, some (vL x6), none, some (vL x8), none, some (vI y0), some (vI x11), some (vI (x12 + 1)), none, none, none, none] [] S r S') : EV q 402 231 [some (.ref 367), some (vI x1), some (vI x2), some (vI x3), some (vL x4), none, some (vL x6), none, some (vL x8), none, some (vI x10), some (vI x11), some (vI x12), none, none, none, none] [vI y0] S r S' := by
  unfold EV
  refine ev_bk 1 (S' := (233, [some (.ref 367), some (vI x1), some (vI x2), some (vI x3), some (vL x4), none, some (vL x6), none, some (vL x8), none, some (vI y0), some (vI x11), some (vI x12), none, none, none, none], [], hp S, 0, 0)) rfl ?_
  refine mv_inc (lv' := [some (.ref 367), some (vI x1), some (vI x2), some (vI x3), some (vL x4), none, some (vL x6), none, some (vL x8), none, some (vI y0), some (vI x11), some (vI (x12 + 1)), none, none, none, none]) 12 1 rfl rfl rfl rfl ?_
  refine mv_goto 186 rfl rfl ?_
  exact F
theorem vc_MD_boxHead_239 {q : Nat × (Nat → Int32)} {S S' : ms} {r : Option Value} (x1 x2 x3 x4 x6 x8 x10 x11 x12 : Int)
    (F : EV q 402 242 [some (.ref 367), some (vI x1), some (vI x2), some (vI x3), some (vL x4), none, some (vL x6), none, some (vL x8), none, some (vI x10), some (vI x11), some (vI 0), none, none, none, none] [] S r S') : EV q 402 239 [some (.ref 367), some (vI x1), some (vI x2), some (vI x3), some (vL x4), none, some (vL x6), none, some (vL x8), none, some (vI x10), some (vI x11), some (vI x12), none, none, none, none] [] S r S' := by
  unfold EV
  refine ev_bk 2 (S' := (242, [some (.ref 367), some (vI x1), some (vI x2), some (vI x3), some (vL x4), none, some (vL x6), none, some (vL x8), none, some (vI x10), some (vI x11), some (vI 0), none, none, none, none], [], hp S, 0, 0)) rfl ?_
  exact F
theorem vc_MD_boxHead_242 {q : Nat × (Nat → Int32)} {S S' : ms} {r : Option Value} (x1 x2 x3 x4 x6 x8 x10 x11 x12 : Int)
    (F : ((w32 x3 ≤ w32 x12) → EV q 402 294 [some (.ref 367), some (vI x1), some (vI x2), some (vI x3), some (vL x4), none, some (vL x6), none, some (vL x8), none, some (vI x10), some (vI x11), some (vI x12), none, none, none, none] [] S r S') ∧ ((¬ w32 x3 ≤ w32 x12) → ((w32 x10 = 0) → EV q 402 294 [some (.ref 367), some (vI x1), some (vI x2), some (vI x3), some (vL x4), none, some (vL x6), none, some (vL x8), none, some (vI x10), some (vI x11), some (vI x12), none, none, none, none] [] S r S') ∧ ((¬ w32 x10 = 0) → (0 ≤ w32 (x11 + 30 + x12) ∧ w32 (x11 + 30 + x12) < (6000 : Nat)) ∧ (0 ≤ w32 (x1 + 46 + x12) ∧ w32 (x1 + 46 + x12) < (6000 : Nat)) ∧ ((¬ w32 (S.1 368 (w32 (x11 + 30 + x12))) = w32 (S.1 368 (w32 (x1 + 46 + x12)))) → EV q 402 286 [some (.ref 367), some (vI x1), some (vI x2), some (vI x3), some (vL x4), none, some (vL x6), none, some (vL x8), none, some (vI x10), some (vI x11), some (vI x12), none, none, none, none] [vI 0] S r S') ∧ ((¬ (¬ w32 (S.1 368 (w32 (x11 + 30 + x12))) = w32 (S.1 368 (w32 (x1 + 46 + x12))))) → EV q 402 286 [some (.ref 367), some (vI x1), some (vI x2), some (vI x3), some (vL x4), none, some (vL x6), none, some (vL x8), none, some (vI x10), some (vI x11), some (vI x12), none, none, none, none] [vI 1] S r S')))) : EV q 402 242 [some (.ref 367), some (vI x1), some (vI x2), some (vI x3), some (vL x4), none, some (vL x6), none, some (vL x8), none, some (vI x10), some (vI x11), some (vI x12), none, none, none, none] [] S r S' := by
  unfold EV
  refine ev_bk 2 (S' := (245, [some (.ref 367), some (vI x1), some (vI x2), some (vI x3), some (vL x4), none, some (vL x6), none, some (vL x8), none, some (vI x10), some (vI x11), some (vI x12), none, none, none, none], [vI x3, vI x12], hp S, 0, 0)) rfl ?_
  refine mv_icmp 294 rfl rfl (fun c => ?_) (fun c => ?_)
  · have F := F.1 c
    exact F
  · have F := F.2 c
    refine ev_bk 1 (S' := (250, [some (.ref 367), some (vI x1), some (vI x2), some (vI x3), some (vL x4), none, some (vL x6), none, some (vL x8), none, some (vI x10), some (vI x11), some (vI x12), none, none, none, none], [vI x10], hp S, 0, 0)) rfl ?_
    refine mv_if 294 rfl rfl (fun c => ?_) (fun c => ?_)
    · have F := F.1 c
      exact F
    · have F := F.2 c
      refine ev_bk 1 (S' := (254, [some (.ref 367), some (vI x1), some (vI x2), some (vI x3), some (vL x4), none, some (vL x6), none, some (vL x8), none, some (vI x10), some (vI x11), some (vI x12), none, none, none, none], [.ref 367], hp S, 0, 0)) rfl ?_
      refine mv_gfR rfl rfl (sh_367) (by decide) rfl ?_
      refine ev_bk 2 (S' := (261, [some (.ref 367), some (vI x1), some (vI x2), some (vI x3), some (vL x4), none, some (vL x6), none, some (vL x8), none, some (vI x10), some (vI x11), some (vI x12), none, none, none, none], [vI 30, vI x11, .ref 368], hp S, 0, 0)) rfl ?_
      refine mv_iadd rfl ?_
      refine ev_bk 1 (S' := (264, [some (.ref 367), some (vI x1), some (vI x2), some (vI x3), some (vL x4), none, some (vL x6), none, some (vL x8), none, some (vI x10), some (vI x11), some (vI x12), none, none, none, none], [vI x12, vI (x11 + 30), .ref 368], hp S, 0, 0)) rfl ?_
      refine mv_iadd rfl ?_
      obtain ⟨b1, F⟩ := F
      refine mv_bal rfl (sh_368) b1 ?_
      refine ev_bk 1 (S' := (267, [some (.ref 367), some (vI x1), some (vI x2), some (vI x3), some (vL x4), none, some (vL x6), none, some (vL x8), none, some (vI x10), some (vI x11), some (vI x12), none, none, none, none], [.ref 367, vI (S.1 368 (w32 (x11 + 30 + x12)))], hp S, 0, 0)) rfl ?_
      refine mv_gfR rfl rfl (sh_367) (by decide) rfl ?_
      refine ev_bk 2 (S' := (273, [some (.ref 367), some (vI x1), some (vI x2), some (vI x3), some (vL x4), none, some (vL x6), none, some (vL x8), none, some (vI x10), some (vI x11), some (vI x12), none, none, none, none], [vI 46, vI x1, .ref 368, vI (S.1 368 (w32 (x11 + 30 + x12)))], hp S, 0, 0)) rfl ?_
      refine mv_iadd rfl ?_
      refine ev_bk 1 (S' := (276, [some (.ref 367), some (vI x1), some (vI x2), some (vI x3), some (vL x4), none, some (vL x6), none, some (vL x8), none, some (vI x10), some (vI x11), some (vI x12), none, none, none, none], [vI x12, vI (x1 + 46), .ref 368, vI (S.1 368 (w32 (x11 + 30 + x12)))], hp S, 0, 0)) rfl ?_
      refine mv_iadd rfl ?_
      obtain ⟨b2, F⟩ := F
      refine mv_bal rfl (sh_368) b2 ?_
      refine mv_icmp 285 rfl rfl (fun c => ?_) (fun c => ?_)
      · have F := F.1 c
        refine ev_bk 1 (S' := (286, [some (.ref 367), some (vI x1), some (vI x2), some (vI x3), some (vL x4), none, some (vL x6), none, some (vL x8), none, some (vI x10), some (vI x11), some (vI x12), none, none, none, none], [vI 0], hp S, 0, 0)) rfl ?_
        exact F
      · have F := F.2 c
        refine ev_bk 1 (S' := (282, [some (.ref 367), some (vI x1), some (vI x2), some (vI x3), some (vL x4), none, some (vL x6), none, some (vL x8), none, some (vI x10), some (vI x11), some (vI x12), none, none, none, none], [vI 1], hp S, 0, 0)) rfl ?_
        refine mv_goto 286 rfl rfl ?_
        exact F
theorem vc_MD_boxHead_286 {q : Nat × (Nat → Int32)} {S S' : ms} {r : Option Value} (x1 x2 x3 x4 x6 x8 x10 x11 x12 y0 : Int)
    (F : EV q 402 242 [some (.ref 367), some (vI x1), some (vI x2), some (vI x3), some (vL x4), none, some (vL x6), none, some (vL x8), none, some (vI y0), some (vI x11), some (vI (x12 + 1)), none, none, none, none] [] S r S') : EV q 402 286 [some (.ref 367), some (vI x1), some (vI x2), some (vI x3), some (vL x4), none, some (vL x6), none, some (vL x8), none, some (vI x10), some (vI x11), some (vI x12), none, none, none, none] [vI y0] S r S' := by
  unfold EV
  refine ev_bk 1 (S' := (288, [some (.ref 367), some (vI x1), some (vI x2), some (vI x3), some (vL x4), none, some (vL x6), none, some (vL x8), none, some (vI y0), some (vI x11), some (vI x12), none, none, none, none], [], hp S, 0, 0)) rfl ?_
  refine mv_inc (lv' := [some (.ref 367), some (vI x1), some (vI x2), some (vI x3), some (vL x4), none, some (vL x6), none, some (vL x8), none, some (vI y0), some (vI x11), some (vI (x12 + 1)), none, none, none, none]) 12 1 rfl rfl rfl rfl ?_
  refine mv_goto 242 rfl rfl ?_
  exact F
theorem vc_MD_boxHead_294 {q : Nat × (Nat → Int32)} {S S' : ms} {r : Option Value} (x1 x2 x3 x4 x6 x8 x10 x11 x12 : Int)
    (F : ((¬ w32 x10 = 0) → ∃ (z3 : Int) (S1 : ms), EV q 401 0 [some (.ref 367), some (vI (x1 + 10)), some (vI 2), none, none, none] [] S (some (vL z3)) S1 ∧ ((¬ w64 z3 = w64 0) → EV q 402 352 [some (.ref 367), some (vI x1), some (vI x2), some (vI x3), some (vL x4), none, some (vL x6), none, some (vL x8), none, some (vI x10), some (vI x11), some (vI (x11 + 30 + x3)), none, none, none, none] [vI 0] S1 r S') ∧ ((¬ (¬ w64 z3 = w64 0)) → EV q 402 352 [some (.ref 367), some (vI x1), some (vI x2), some (vI x3), some (vL x4), none, some (vL x6), none, some (vL x8), none, some (vI x10), some (vI x11), some (vI (x11 + 30 + x3)), none, none, none, none] [vI 1] S1 r S')) ∧ ((¬ (¬ w32 x10 = 0)) → ((w64 x4 ≤ w64 2147483647) → EV q 402 320 [some (.ref 367), some (vI x1), some (vI x2), some (vI x3), some (vL x4), none, some (vL x6), none, some (vL x8), none, some (vI x10), some (vI x11), some (vI x12), none, none, none, none] [vI x4, vI 124, .ref 367] S r S') ∧ ((¬ w64 x4 ≤ w64 2147483647) → EV q 402 320 [some (.ref 367), some (vI x1), some (vI x2), some (vI x3), some (vL x4), none, some (vL x6), none, some (vL x8), none, some (vI x10), some (vI x11), some (vI x12), none, none, none, none] [vI 2147483647, vI 124, .ref 367] S r S'))) : EV q 402 294 [some (.ref 367), some (vI x1), some (vI x2), some (vI x3), some (vL x4), none, some (vL x6), none, some (vL x8), none, some (vI x10), some (vI x11), some (vI x12), none, none, none, none] [] S r S' := by
  unfold EV
  refine ev_bk 1 (S' := (296, [some (.ref 367), some (vI x1), some (vI x2), some (vI x3), some (vL x4), none, some (vL x6), none, some (vL x8), none, some (vI x10), some (vI x11), some (vI x12), none, none, none, none], [vI x10], hp S, 0, 0)) rfl ?_
  refine mv_if 324 rfl rfl (fun c => ?_) (fun c => ?_)
  · have F := F.1 c
    refine ev_bk 2 (S' := (328, [some (.ref 367), some (vI x1), some (vI x2), some (vI x3), some (vL x4), none, some (vL x6), none, some (vL x8), none, some (vI x10), some (vI x11), some (vI x12), none, none, none, none], [vI 30, vI x11], hp S, 0, 0)) rfl ?_
    refine mv_iadd rfl ?_
    refine ev_bk 1 (S' := (330, [some (.ref 367), some (vI x1), some (vI x2), some (vI x3), some (vL x4), none, some (vL x6), none, some (vL x8), none, some (vI x10), some (vI x11), some (vI x12), none, none, none, none], [vI x3, vI (x11 + 30)], hp S, 0, 0)) rfl ?_
    refine mv_iadd rfl ?_
    refine ev_bk 4 (S' := (337, [some (.ref 367), some (vI x1), some (vI x2), some (vI x3), some (vL x4), none, some (vL x6), none, some (vL x8), none, some (vI x10), some (vI x11), some (vI (x11 + 30 + x3)), none, none, none, none], [vI 10, vI x1, .ref 367], hp S, 0, 0)) rfl ?_
    refine mv_iadd rfl ?_
    refine ev_bk 1 (S' := (339, [some (.ref 367), some (vI x1), some (vI x2), some (vI x3), some (vL x4), none, some (vL x6), none, some (vL x8), none, some (vI x10), some (vI x11), some (vI (x11 + 30 + x3)), none, none, none, none], [vI 2, vI (x1 + 10), .ref 367], hp S, 0, 0)) rfl ?_
    obtain ⟨z3, S1, e2, F⟩ := F
    refine mv_calv (as := [vI (x1 + 10), vI 2]) (rest := []) e2 (sh_367) rfl rfl rfl ⟨rfl, rfl⟩ rfl rfl rfl rfl rfl ?_
    refine ev_bk 1 (S' := (343, [some (.ref 367), some (vI x1), some (vI x2), some (vI x3), some (vL x4), none, some (vL x6), none, some (vL x8), none, some (vI x10), some (vI x11), some (vI (x11 + 30 + x3)), none, none, none, none], [vL 0, vL z3], hp S1, 0, 0)) rfl ?_
    refine mv_lif 351 rfl rfl rfl (fun c => ?_) (fun c => ?_)
    · have F := F.1 c
      refine ev_bk 1 (S' := (352, [some (.ref 367), some (vI x1), some (vI x2), some (vI x3), some (vL x4), none, some (vL x6), none, some (vL x8), none, some (vI x10), some (vI x11), some (vI (x11 + 30 + x3)), none, none, none, none], [vI 0], hp S1, 0, 0)) rfl ?_
      exact F
    · have F := F.2 c
      refine ev_bk 1 (S' := (348, [some (.ref 367), some (vI x1), some (vI x2), some (vI x3), some (vL x4), none, some (vL x6), none, some (vL x8), none, some (vI x10), some (vI x11), some (vI (x11 + 30 + x3)), none, none, none, none], [vI 1], hp S1, 0, 0)) rfl ?_
      refine mv_goto 352 rfl rfl ?_
      exact F
  · have F := F.2 c
    refine ev_bk 4 (S' := (307, [some (.ref 367), some (vI x1), some (vI x2), some (vI x3), some (vL x4), none, some (vL x6), none, some (vL x8), none, some (vI x10), some (vI x11), some (vI x12), none, none, none, none], [vL 2147483647, vL x4, vI 124, .ref 367], hp S, 0, 0)) rfl ?_
    refine mv_lif 317 rfl rfl rfl (fun c => ?_) (fun c => ?_)
    · have F := F.1 c
      refine ev_bk 1 (S' := (319, [some (.ref 367), some (vI x1), some (vI x2), some (vI x3), some (vL x4), none, some (vL x6), none, some (vL x8), none, some (vI x10), some (vI x11), some (vI x12), none, none, none, none], [vL x4, vI 124, .ref 367], hp S, 0, 0)) rfl ?_
      refine mv_l2i rfl ?_
      exact F
    · have F := F.2 c
      refine ev_bk 1 (S' := (314, [some (.ref 367), some (vI x1), some (vI x2), some (vI x3), some (vL x4), none, some (vL x6), none, some (vL x8), none, some (vI x10), some (vI x11), some (vI x12), none, none, none, none], [vI 2147483647, vI 124, .ref 367], hp S, 0, 0)) rfl ?_
      refine mv_goto 320 rfl rfl ?_
      exact F
theorem vc_MD_boxHead_320 {q : Nat × (Nat → Int32)} {S S' : ms} {r : Option Value} (x1 x2 x3 x4 x6 x8 x10 x11 x12 y0 y1 : Int)
    (F : ∃ (S1 : ms), EV q 335 0 [some (.ref 367), some (vI y1), some (vI y0)] [] S none S1 ∧ r = none ∧ S' = S1) : EV q 402 320 [some (.ref 367), some (vI x1), some (vI x2), some (vI x3), some (vL x4), none, some (vL x6), none, some (vL x8), none, some (vI x10), some (vI x11), some (vI x12), none, none, none, none] [vI y0, vI y1, .ref 367] S r S' := by
  unfold EV
  obtain ⟨S1, e2, F⟩ := F
  refine mv_calv (as := [vI y1, vI y0]) (rest := []) e2 (sh_367) rfl rfl rfl ⟨rfl, rfl⟩ rfl rfl rfl rfl rfl ?_
  obtain ⟨rfl, rfl⟩ := F
  exact ev_ret rfl rfl
theorem vc_MD_boxHead_352 {q : Nat × (Nat → Int32)} {S S' : ms} {r : Option Value} (x1 x2 x3 x4 x6 x8 x10 x11 x12 y0 : Int)
    (F : ((w32 y0 = 0) → EV q 402 376 [some (.ref 367), some (vI x1), some (vI x2), some (vI x3), some (vL x4), none, some (vL x6), none, some (vL x8), none, some (vI x10), some (vI x11), some (vI x12), some (vI y0), none, none, none] [] S r S') ∧ ((¬ w32 y0 = 0) → ((w64 x6 = w64 x8) → EV q 402 376 [some (.ref 367), some (vI x1), some (vI x2), some (vI x3), some (vL x4), none, some (vL x6), none, some (vL x8), none, some (vI x10), some (vI x11), some (vI x12), some (vI y0), none, none, none] [] S r S') ∧ ((¬ w64 x6 = w64 x8) → ∃ (S1 : ms), EV q 335 0 [some (.ref 367), some (vI 125), some (vI x11)] [] S none S1 ∧ r = none ∧ S' = S1))) : EV q 402 352 [some (.ref 367), some (vI x1), some (vI x2), some (vI x3), some (vL x4), none, some (vL x6), none, some (vL x8), none, some (vI x10), some (vI x11), some (vI x12), none, none, none, none] [vI y0] S r S' := by
  unfold EV
  refine ev_bk 2 (S' := (356, [some (.ref 367), some (vI x1), some (vI x2), some (vI x3), some (vL x4), none, some (vL x6), none, some (vL x8), none, some (vI x10), some (vI x11), some (vI x12), some (vI y0), none, none, none], [vI y0], hp S, 0, 0)) rfl ?_
  refine mv_if 376 rfl rfl (fun c => ?_) (fun c => ?_)
  · have F := F.1 c
    exact F
  · have F := F.2 c
    refine ev_bk 2 (S' := (363, [some (.ref 367), some (vI x1), some (vI x2), some (vI x3), some (vL x4), none, some (vL x6), none, some (vL x8), none, some (vI x10), some (vI x11), some (vI x12), some (vI y0), none, none, none], [vL x8, vL x6], hp S, 0, 0)) rfl ?_
    refine mv_lif 376 rfl rfl rfl (fun c => ?_) (fun c => ?_)
    · have F := F.1 c
      exact F
    · have F := F.2 c
      refine ev_bk 3 (S' := (372, [some (.ref 367), some (vI x1), some (vI x2), some (vI x3), some (vL x4), none, some (vL x6), none, some (vL x8), none, some (vI x10), some (vI x11), some (vI x12), some (vI y0), none, none, none], [vI x11, vI 125, .ref 367], hp S, 0, 0)) rfl ?_
      obtain ⟨S1, e2, F⟩ := F
      refine mv_calv (as := [vI 125, vI x11]) (rest := []) e2 (sh_367) rfl rfl rfl ⟨rfl, rfl⟩ rfl rfl rfl rfl rfl ?_
      obtain ⟨rfl, rfl⟩ := F
      exact ev_ret rfl rfl
theorem vc_MD_boxHead_376 {q : Nat × (Nat → Int32)} {S S' : ms} {r : Option Value} (x1 x2 x3 x4 x6 x8 x10 x11 x12 x13 : Int)
    (F : ∀ S1 : ms, S1 = wI S 367 22 0 → ((¬ w32 x13 = 0) → EV q 402 421 [some (.ref 367), some (vI x1), some (vI x2), some (vI x3), some (vL x4), none, some (vL x6), none, some (vL x8), none, some (vI x10), some (vI x11), some (vI x12), some (vI x13), none, none, none] [] S1 r S') ∧ ((¬ (¬ w32 x13 = 0)) → ∃ (S2 : ms), EV q 331 0 [some (.ref 367), some (.ref 368), some (vI x12), some (vI (x12 + x6))] [] S1 none S2 ∧ ∃ (S4 : ms), EV q 343 0 [some (.ref 367), some (vL 32768), none, none, none] [] S2 none S4 ∧ ∃ (S6 : ms), EV q 341 0 [some (.ref 367)] [] S4 none S6 ∧ ∃ (z10 : Int) (S8 : ms), EV q 333 0 [some (.ref 367)] [] S6 (some (vI z10)) S8 ∧ ((¬ w32 z10 = 0) → EV q 402 421 [some (.ref 367), some (vI x1), some (vI x2), some (vI x3), some (vL x4), none, some (vL x6), none, some (vL x8), none, some (vI x10), some (vI x11), some (vI x12), some (vI x13), none, none, none] [] S8 r S') ∧ ((¬ (¬ w32 z10 = 0)) → r = none ∧ S' = S8))) : EV q 402 376 [some (.ref 367), some (vI x1), some (vI x2), some (vI x3), some (vL x4), none, some (vL x6), none, some (vL x8), none, some (vI x10), some (vI x11), some (vI x12), some (vI x13), none, none, none] [] S r S' := by
  unfold EV
  refine ev_bk 2 (S' := (378, [some (.ref 367), some (vI x1), some (vI x2), some (vI x3), some (vL x4), none, some (vL x6), none, some (vL x8), none, some (vI x10), some (vI x11), some (vI x12), some (vI x13), none, none, none], [vI 0, .ref 367], hp S, 0, 0)) rfl ?_
  refine mv_pfI rfl rfl (sh_367) (by decide) rfl rfl ?_
  have F := F _ rfl
  refine ev_bk 1 (S' := (383, [some (.ref 367), some (vI x1), some (vI x2), some (vI x3), some (vL x4), none, some (vL x6), none, some (vL x8), none, some (vI x10), some (vI x11), some (vI x12), some (vI x13), none, none, none], [vI x13], hp (wI S 367 22 0), 0, 0)) rfl ?_
  refine mv_if 421 rfl rfl (fun c => ?_) (fun c => ?_)
  · have F := F.1 c
    exact F
  · have F := F.2 c
    refine ev_bk 2 (S' := (388, [some (.ref 367), some (vI x1), some (vI x2), some (vI x3), some (vL x4), none, some (vL x6), none, some (vL x8), none, some (vI x10), some (vI x11), some (vI x12), some (vI x13), none, none, none], [.ref 367, .ref 367], hp (wI S 367 22 0), 0, 0)) rfl ?_
    refine mv_gfR rfl rfl (sh_367) (by decide) rfl ?_
    refine ev_bk 3 (S' := (397, [some (.ref 367), some (vI x1), some (vI x2), some (vI x3), some (vL x4), none, some (vL x6), none, some (vL x8), none, some (vI x10), some (vI x11), some (vI x12), some (vI x13), none, none, none], [vL x6, vI x12, vI x12, .ref 368, .ref 367], hp (wI S 367 22 0), 0, 0)) rfl ?_
    refine mv_l2i rfl ?_
    refine mv_iadd rfl ?_
    obtain ⟨S2, e3, F⟩ := F
    refine mv_calv (as := [.ref 368, vI x12, vI (x12 + x6)]) (rest := []) e3 (sh_367) rfl rfl rfl ⟨rfl, rfl⟩ rfl rfl rfl rfl rfl ?_
    refine ev_bk 2 (S' := (406, [some (.ref 367), some (vI x1), some (vI x2), some (vI x3), some (vL x4), none, some (vL x6), none, some (vL x8), none, some (vI x10), some (vI x11), some (vI x12), some (vI x13), none, none, none], [vL 32768, .ref 367], hp S2, 0, 0)) rfl ?_
    obtain ⟨S4, e5, F⟩ := F
    refine mv_calv (as := [vL 32768]) (rest := []) e5 (sh_367) rfl rfl rfl ⟨rfl, rfl⟩ rfl rfl rfl rfl rfl ?_
    refine ev_bk 1 (S' := (410, [some (.ref 367), some (vI x1), some (vI x2), some (vI x3), some (vL x4), none, some (vL x6), none, some (vL x8), none, some (vI x10), some (vI x11), some (vI x12), some (vI x13), none, none, none], [.ref 367], hp S4, 0, 0)) rfl ?_
    obtain ⟨S6, e7, F⟩ := F
    refine mv_calv (as := []) (rest := []) e7 (sh_367) rfl rfl rfl ⟨rfl, rfl⟩ rfl rfl rfl rfl rfl ?_
    refine ev_bk 1 (S' := (414, [some (.ref 367), some (vI x1), some (vI x2), some (vI x3), some (vL x4), none, some (vL x6), none, some (vL x8), none, some (vI x10), some (vI x11), some (vI x12), some (vI x13), none, none, none], [.ref 367], hp S6, 0, 0)) rfl ?_
    obtain ⟨z10, S8, e9, F⟩ := F
    refine mv_calv (as := []) (rest := []) e9 (sh_367) rfl rfl rfl ⟨rfl, rfl⟩ rfl rfl rfl rfl rfl ?_
    refine mv_if 421 rfl rfl (fun c => ?_) (fun c => ?_)
    · have F := F.1 c
      exact F
    · have F := F.2 c
      obtain ⟨rfl, rfl⟩ := F
      exact ev_ret rfl rfl
theorem vc_MD_boxHead_421 {q : Nat × (Nat → Int32)} {S S' : ms} {r : Option Value} (x1 x2 x3 x4 x6 x8 x10 x11 x12 x13 : Int)
    (F : ((¬ w32 x13 = 0) → EV q 402 437 [some (.ref 367), some (vI x1), some (vI x2), some (vI x3), some (vL x4), none, some (vL x6), none, some (vL x8), none, some (vI x10), some (vI x11), some (vI x12), some (vI x13), none, none, none] [] S r S') ∧ ((¬ (¬ w32 x13 = 0)) → ((¬ w64 (w32 (S.1 367 22)) = w64 x8) → EV q 402 442 [some (.ref 367), some (vI x1), some (vI x2), some (vI x3), some (vL x4), none, some (vL x6), none, some (vL x8), none, some (vI x10), some (vI x11), some (vI x12), some (vI x13), none, none, none] [vI 0] S r S') ∧ ((¬ (¬ w64 (w32 (S.1 367 22)) = w64 x8)) → EV q 402 437 [some (.ref 367), some (vI x1), some (vI x2), some (vI x3), some (vL x4), none, some (vL x6), none, some (vL x8), none, some (vI x10), some (vI x11), some (vI x12), some (vI x13), none, none, none] [] S r S'))) : EV q 402 421 [some (.ref 367), some (vI x1), some (vI x2), some (vI x3), some (vL x4), none, some (vL x6), none, some (vL x8), none, some (vI x10), some (vI x11), some (vI x12), some (vI x13), none, none, none] [] S r S' := by
  unfold EV
  refine ev_bk 1 (S' := (423, [some (.ref 367), some (vI x1), some (vI x2), some (vI x3), some (vL x4), none, some (vL x6), none, some (vL x8), none, some (vI x10), some (vI x11), some (vI x12), some (vI x13), none, none, none], [vI x13], hp S, 0, 0)) rfl ?_
  refine mv_if 437 rfl rfl (fun c => ?_) (fun c => ?_)
  · have F := F.1 c
    exact F
  · have F := F.2 c
    refine ev_bk 1 (S' := (427, [some (.ref 367), some (vI x1), some (vI x2), some (vI x3), some (vL x4), none, some (vL x6), none, some (vL x8), none, some (vI x10), some (vI x11), some (vI x12), some (vI x13), none, none, none], [.ref 367], hp S, 0, 0)) rfl ?_
    refine mv_gfI rfl rfl (sh_367) (by decide) rfl ?_
    refine mv_i2l rfl ?_
    refine ev_bk 1 (S' := (433, [some (.ref 367), some (vI x1), some (vI x2), some (vI x3), some (vL x4), none, some (vL x6), none, some (vL x8), none, some (vI x10), some (vI x11), some (vI x12), some (vI x13), none, none, none], [vL x8, vL (w32 (S.1 367 22))], hp S, 0, 0)) rfl ?_
    refine mv_lif 441 rfl rfl rfl (fun c => ?_) (fun c => ?_)
    · have F := F.1 c
      refine ev_bk 1 (S' := (442, [some (.ref 367), some (vI x1), some (vI x2), some (vI x3), some (vL x4), none, some (vL x6), none, some (vL x8), none, some (vI x10), some (vI x11), some (vI x12), some (vI x13), none, none, none], [vI 0], hp S, 0, 0)) rfl ?_
      exact F
    · have F := F.2 c
      exact F
theorem vc_MD_boxHead_437 {q : Nat × (Nat → Int32)} {S S' : ms} {r : Option Value} (x1 x2 x3 x4 x6 x8 x10 x11 x12 x13 : Int)
    (F : EV q 402 442 [some (.ref 367), some (vI x1), some (vI x2), some (vI x3), some (vL x4), none, some (vL x6), none, some (vL x8), none, some (vI x10), some (vI x11), some (vI x12), some (vI x13), none, none, none] [vI 1] S r S') : EV q 402 437 [some (.ref 367), some (vI x1), some (vI x2), some (vI x3), some (vL x4), none, some (vL x6), none, some (vL x8), none, some (vI x10), some (vI x11), some (vI x12), some (vI x13), none, none, none] [] S r S' := by
  unfold EV
  refine ev_bk 1 (S' := (438, [some (.ref 367), some (vI x1), some (vI x2), some (vI x3), some (vL x4), none, some (vL x6), none, some (vL x8), none, some (vI x10), some (vI x11), some (vI x12), some (vI x13), none, none, none], [vI 1], hp S, 0, 0)) rfl ?_
  refine mv_goto 442 rfl rfl ?_
  exact F
theorem vc_MD_boxHead_442 {q : Nat × (Nat → Int32)} {S S' : ms} {r : Option Value} (x1 x2 x3 x4 x6 x8 x10 x11 x12 x13 y0 : Int)
    (F : ((w32 x13 = 0) → ∃ (z3 : Int) (S1 : ms), EV q 264 0 [some (.ref 367), some (.ref 375), some (vI 0), some (vI (S.1 367 22)), none, none] [] S (some (vI z3)) S1 ∧ EV q 402 478 [some (.ref 367), some (vI x1), some (vI x2), some (vI x3), some (vL x4), none, some (vL x6), none, some (vL x8), none, some (vI x10), some (vI x11), some (vI x12), some (vI x13), some (vI y0), none, none] [vI z3] S1 r S') ∧ ((¬ w32 x13 = 0) → ∃ (z6 : Int) (S4 : ms), EV q 264 0 [some (.ref 367), some (.ref 368), some (vI x12), some (vI x8), none, none] [] S (some (vI z6)) S4 ∧ EV q 402 478 [some (.ref 367), some (vI x1), some (vI x2), some (vI x3), some (vL x4), none, some (vL x6), none, some (vL x8), none, some (vI x10), some (vI x11), some (vI x12), some (vI x13), some (vI y0), none, none] [vI z6] S4 r S')) : EV q 402 442 [some (.ref 367), some (vI x1), some (vI x2), some (vI x3), some (vL x4), none, some (vL x6), none, some (vL x8), none, some (vI x10), some (vI x11), some (vI x12), some (vI x13), none, none, none] [vI y0] S r S' := by
  unfold EV
  refine ev_bk 2 (S' := (446, [some (.ref 367), some (vI x1), some (vI x2), some (vI x3), some (vL x4), none, some (vL x6), none, some (vL x8), none, some (vI x10), some (vI x11), some (vI x12), some (vI x13), some (vI y0), none, none], [vI x13], hp S, 0, 0)) rfl ?_
  refine mv_if 465 rfl rfl (fun c => ?_) (fun c => ?_)
  · have F := F.1 c
    refine ev_bk 2 (S' := (467, [some (.ref 367), some (vI x1), some (vI x2), some (vI x3), some (vL x4), none, some (vL x6), none, some (vL x8), none, some (vI x10), some (vI x11), some (vI x12), some (vI x13), some (vI y0), none, none], [.ref 367, .ref 367], hp S, 0, 0)) rfl ?_
    refine mv_gfR rfl rfl (sh_367) (by decide) rfl ?_
    refine ev_bk 2 (S' := (472, [some (.ref 367), some (vI x1), some (vI x2), some (vI x3), some (vL x4), none, some (vL x6), none, some (vL x8), none, some (vI x10), some (vI x11), some (vI x12), some (vI x13), some (vI y0), none, none], [.ref 367, vI 0, .ref 375, .ref 367], hp S, 0, 0)) rfl ?_
    refine mv_gfI rfl rfl (sh_367) (by decide) rfl ?_
    obtain ⟨z3, S1, e2, F⟩ := F
    refine mv_calv (as := [.ref 375, vI 0, vI (S.1 367 22)]) (rest := []) e2 (sh_367) rfl rfl rfl ⟨rfl, rfl⟩ rfl rfl rfl rfl rfl ?_
    exact F
  · have F := F.2 c
    refine ev_bk 2 (S' := (451, [some (.ref 367), some (vI x1), some (vI x2), some (vI x3), some (vL x4), none, some (vL x6), none, some (vL x8), none, some (vI x10), some (vI x11), some (vI x12), some (vI x13), some (vI y0), none, none], [.ref 367, .ref 367], hp S, 0, 0)) rfl ?_
    refine mv_gfR rfl rfl (sh_367) (by decide) rfl ?_
    refine ev_bk 2 (S' := (458, [some (.ref 367), some (vI x1), some (vI x2), some (vI x3), some (vL x4), none, some (vL x6), none, some (vL x8), none, some (vI x10), some (vI x11), some (vI x12), some (vI x13), some (vI y0), none, none], [vL x8, vI x12, .ref 368, .ref 367], hp S, 0, 0)) rfl ?_
    refine mv_l2i rfl ?_
    obtain ⟨z6, S4, e5, F⟩ := F
    refine mv_calv (as := [.ref 368, vI x12, vI x8]) (rest := []) e5 (sh_367) rfl rfl rfl ⟨rfl, rfl⟩ rfl rfl rfl rfl rfl ?_
    refine mv_goto 478 rfl rfl ?_
    exact F
theorem vc_MD_boxHead_478 {q : Nat × (Nat → Int32)} {S S' : ms} {r : Option Value} (x1 x2 x3 x4 x6 x8 x10 x11 x12 x13 x14 y0 : Int)
    (F : ((w32 x14 = 0) → EV q 402 500 [some (.ref 367), some (vI x1), some (vI x2), some (vI x3), some (vL x4), none, some (vL x6), none, some (vL x8), none, some (vI x10), some (vI x11), some (vI x12), some (vI x13), some (vI x14), some (vI y0), none] [] S r S') ∧ ((¬ w32 x14 = 0) → ∃ (z3 : Int) (S1 : ms), EV q 401 0 [some (.ref 367), some (vI (x1 + 16)), some (vI 4), none, none, none] [] S (some (vL z3)) S1 ∧ ((w32 y0 = w32 z3) → (0 ≤ w32 (S1.1 367 95) ∧ w32 (S1.1 367 95) < (16 : Nat)) ∧ ∀ S5 : ms, S5 = wI S1 426 (w32 (S1.1 367 95)) 0 → ∃ (z8 : Int) (S6 : ms), EV q 396 0 [some (.ref 367), some (vI (x1 + 46)), some (vI x3), none] [] S5 (some (vI z8)) S6 ∧ ∃ (z11 : Int) (S9 : ms), EV q 401 0 [some (.ref 367), some (vI (x1 + 40)), some (vI 2), none, none, none] [] S6 (some (vL z11)) S9 ∧ ∃ (z14 : Int) (S12 : ms), EV q 401 0 [some (.ref 367), some (vI (x1 + 12)), some (vI 4), none, none, none] [] S9 (some (vL z14)) S12 ∧ ((w32 x13 = 0) → EV q 402 567 [some (.ref 367), some (vI x1), some (vI x2), some (vI x3), some (vL x4), none, some (vL x6), none, some (vL x8), none, some (vI x10), some (vI x11), some (vI x12), some (vI x13), some (vI x14), some (vI y0), some (vI z8)] [.ref 375, vI z14, vI z11, .ref 367] S12 r S') ∧ ((¬ w32 x13 = 0) → EV q 402 567 [some (.ref 367), some (vI x1), some (vI x2), some (vI x3), some (vL x4), none, some (vL x6), none, some (vL x8), none, some (vI x10), some (vI x11), some (vI x12), some (vI x13), some (vI x14), some (vI y0), some (vI z8)] [.ref 368, vI z14, vI z11, .ref 367] S12 r S')) ∧ ((¬ w32 y0 = w32 z3) → EV q 402 500 [some (.ref 367), some (vI x1), some (vI x2), some (vI x3), some (vL x4), none, some (vL x6), none, some (vL x8), none, some (vI x10), some (vI x11), some (vI x12), some (vI x13), some (vI x14), some (vI y0), none] [] S1 r S'))) : EV q 402 478 [some (.ref 367), some (vI x1), some (vI x2), some (vI x3), some (vL x4), none, some (vL x6), none, some (vL x8), none, some (vI x10), some (vI x11), some (vI x12), some (vI x13), some (vI x14), none, none] [vI y0] S r S' := by
  unfold EV
  refine ev_bk 2 (S' := (482, [some (.ref 367), some (vI x1), some (vI x2), some (vI x3), some (vL x4), none, some (vL x6), none, some (vL x8), none, some (vI x10), some (vI x11), some (vI x12), some (vI x13), some (vI x14), some (vI y0), none], [vI x14], hp S, 0, 0)) rfl ?_
  refine mv_if 500 rfl rfl (fun c => ?_) (fun c => ?_)
  · have F := F.1 c
    exact F
  · have F := F.2 c
    refine ev_bk 4 (S' := (491, [some (.ref 367), some (vI x1), some (vI x2), some (vI x3), some (vL x4), none, some (vL x6), none, some (vL x8), none, some (vI x10), some (vI x11), some (vI x12), some (vI x13), some (vI x14), some (vI y0), none], [vI 16, vI x1, .ref 367, vI y0], hp S, 0, 0)) rfl ?_
    refine mv_iadd rfl ?_
    refine ev_bk 1 (S' := (493, [some (.ref 367), some (vI x1), some (vI x2), some (vI x3), some (vL x4), none, some (vL x6), none, some (vL x8), none, some (vI x10), some (vI x11), some (vI x12), some (vI x13), some (vI x14), some (vI y0), none], [vI 4, vI (x1 + 16), .ref 367, vI y0], hp S, 0, 0)) rfl ?_
    obtain ⟨z3, S1, e2, F⟩ := F
    refine mv_calv (as := [vI (x1 + 16), vI 4]) (rest := [vI y0]) e2 (sh_367) rfl rfl rfl ⟨rfl, rfl⟩ rfl rfl rfl rfl rfl ?_
    refine mv_l2i rfl ?_
    refine mv_icmp 509 rfl rfl (fun c => ?_) (fun c => ?_)
    · have F := F.1 c
      refine ev_bk 1 (S' := (510, [some (.ref 367), some (vI x1), some (vI x2), some (vI x3), some (vL x4), none, some (vL x6), none, some (vL x8), none, some (vI x10), some (vI x11), some (vI x12), some (vI x13), some (vI x14), some (vI y0), none], [.ref 367], hp S1, 0, 0)) rfl ?_
      refine mv_gfR rfl rfl (sh_367) (by decide) rfl ?_
      refine ev_bk 1 (S' := (514, [some (.ref 367), some (vI x1), some (vI x2), some (vI x3), some (vL x4), none, some (vL x6), none, some (vL x8), none, some (vI x10), some (vI x11), some (vI x12), some (vI x13), some (vI x14), some (vI y0), none], [.ref 367, .ref 426], hp S1, 0, 0)) rfl ?_
      refine mv_gfI rfl rfl (sh_367) (by decide) rfl ?_
      refine ev_bk 1 (S' := (518, [some (.ref 367), some (vI x1), some (vI x2), some (vI x3), some (vL x4), none, some (vL x6), none, some (vL x8), none, some (vI x10), some (vI x11), some (vI x12), some (vI x13), some (vI x14), some (vI y0), none], [vI 0, vI (S1.1 367 95), .ref 426], hp S1, 0, 0)) rfl ?_
      obtain ⟨b4, F⟩ := F
      refine mv_ias rfl (sh_426) b4 ?_
      have F := F _ rfl
      refine ev_bk 3 (S' := (523, [some (.ref 367), some (vI x1), some (vI x2), some (vI x3), some (vL x4), none, some (vL x6), none, some (vL x8), none, some (vI x10), some (vI x11), some (vI x12), some (vI x13), some (vI x14), some (vI y0), none], [vI 46, vI x1, .ref 367], hp (wI S1 426 (w32 (S1.1 367 95)) 0), 0, 0)) rfl ?_
      refine mv_iadd rfl ?_
      refine ev_bk 1 (S' := (525, [some (.ref 367), some (vI x1), some (vI x2), some (vI x3), some (vL x4), none, some (vL x6), none, some (vL x8), none, some (vI x10), some (vI x11), some (vI x12), some (vI x13), some (vI x14), some (vI y0), none], [vI x3, vI (x1 + 46), .ref 367], hp (wI S1 426 (w32 (S1.1 367 95)) 0), 0, 0)) rfl ?_
      obtain ⟨z8, S6, e7, F⟩ := F
      refine mv_calv (as := [vI (x1 + 46), vI x3]) (rest := []) e7 (sh_367) rfl rfl rfl ⟨rfl, rfl⟩ rfl rfl rfl rfl rfl ?_
      refine ev_bk 5 (S' := (535, [some (.ref 367), some (vI x1), some (vI x2), some (vI x3), some (vL x4), none, some (vL x6), none, some (vL x8), none, some (vI x10), some (vI x11), some (vI x12), some (vI x13), some (vI x14), some (vI y0), some (vI z8)], [vI 40, vI x1, .ref 367, .ref 367], hp S6, 0, 0)) rfl ?_
      refine mv_iadd rfl ?_
      refine ev_bk 1 (S' := (537, [some (.ref 367), some (vI x1), some (vI x2), some (vI x3), some (vL x4), none, some (vL x6), none, some (vL x8), none, some (vI x10), some (vI x11), some (vI x12), some (vI x13), some (vI x14), some (vI y0), some (vI z8)], [vI 2, vI (x1 + 40), .ref 367, .ref 367], hp S6, 0, 0)) rfl ?_
      obtain ⟨z11, S9, e10, F⟩ := F
      refine mv_calv (as := [vI (x1 + 40), vI 2]) (rest := [.ref 367]) e10 (sh_367) rfl rfl rfl ⟨rfl, rfl⟩ rfl rfl rfl rfl rfl ?_
      refine mv_l2i rfl ?_
      refine ev_bk 3 (S' := (545, [some (.ref 367), some (vI x1), some (vI x2), some (vI x3), some (vL x4), none, some (vL x6), none, some (vL x8), none, some (vI x10), some (vI x11), some (vI x12), some (vI x13), some (vI x14), some (vI y0), some (vI z8)], [vI 12, vI x1, .ref 367, vI z11, .ref 367], hp S9, 0, 0)) rfl ?_
      refine mv_iadd rfl ?_
      refine ev_bk 1 (S' := (547, [some (.ref 367), some (vI x1), some (vI x2), some (vI x3), some (vL x4), none, some (vL x6), none, some (vL x8), none, some (vI x10), some (vI x11), some (vI x12), some (vI x13), some (vI x14), some (vI y0), some (vI z8)], [vI 4, vI (x1 + 12), .ref 367, vI z11, .ref 367], hp S9, 0, 0)) rfl ?_
      obtain ⟨z14, S12, e13, F⟩ := F
      refine mv_calv (as := [vI (x1 + 12), vI 4]) (rest := [vI z11, .ref 367]) e13 (sh_367) rfl rfl rfl ⟨rfl, rfl⟩ rfl rfl rfl rfl rfl ?_
      refine mv_l2i rfl ?_
      refine ev_bk 1 (S' := (553, [some (.ref 367), some (vI x1), some (vI x2), some (vI x3), some (vL x4), none, some (vL x6), none, some (vL x8), none, some (vI x10), some (vI x11), some (vI x12), some (vI x13), some (vI x14), some (vI y0), some (vI z8)], [vI x13, vI z14, vI z11, .ref 367], hp S12, 0, 0)) rfl ?_
      refine mv_if 563 rfl rfl (fun c => ?_) (fun c => ?_)
      · have F := F.1 c
        refine ev_bk 1 (S' := (564, [some (.ref 367), some (vI x1), some (vI x2), some (vI x3), some (vL x4), none, some (vL x6), none, some (vL x8), none, some (vI x10), some (vI x11), some (vI x12), some (vI x13), some (vI x14), some (vI y0), some (vI z8)], [.ref 367, vI z14, vI z11, .ref 367], hp S12, 0, 0)) rfl ?_
        refine mv_gfR rfl rfl (sh_367) (by decide) rfl ?_
        exact F
      · have F := F.2 c
        refine ev_bk 1 (S' := (557, [some (.ref 367), some (vI x1), some (vI x2), some (vI x3), some (vL x4), none, some (vL x6), none, some (vL x8), none, some (vI x10), some (vI x11), some (vI x12), some (vI x13), some (vI x14), some (vI y0), some (vI z8)], [.ref 367, vI z14, vI z11, .ref 367], hp S12, 0, 0)) rfl ?_
        refine mv_gfR rfl rfl (sh_367) (by decide) rfl ?_
        refine mv_goto 567 rfl rfl ?_
        exact F
    · have F := F.2 c
      exact F
theorem vc_MD_boxHead_500 {q : Nat × (Nat → Int32)} {S S' : ms} {r : Option Value} (x1 x2 x3 x4 x6 x8 x10 x11 x12 x13 x14 x15 : Int)
    (F : ∃ (S1 : ms), EV q 335 0 [some (.ref 367), some (vI 126), some (vI x11)] [] S none S1 ∧ r = none ∧ S' = S1) : EV q 402 500 [some (.ref 367), some (vI x1), some (vI x2), some (vI x3), some (vL x4), none, some (vL x6), none, some (vL x8), none, some (vI x10), some (vI x11), some (vI x12), some (vI x13), some (vI x14), some (vI x15), none] [] S r S' := by
  unfold EV
  refine ev_bk 3 (S' := (505, [some (.ref 367), some (vI x1), some (vI x2), some (vI x3), some (vL x4), none, some (vL x6), none, some (vL x8), none, some (vI x10), some (vI x11), some (vI x12), some (vI x13), some (vI x14), some (vI x15), none], [vI x11, vI 126, .ref 367], hp S, 0, 0)) rfl ?_
  obtain ⟨S1, e2, F⟩ := F
  refine mv_calv (as := [vI 126, vI x11]) (rest := []) e2 (sh_367) rfl rfl rfl ⟨rfl, rfl⟩ rfl rfl rfl rfl rfl ?_
  obtain ⟨rfl, rfl⟩ := F
  exact ev_ret rfl rfl
theorem vc_MD_boxHead_567 {q : Nat × (Nat → Int32)} {S S' : ms} {r : Option Value} (x1 x2 x3 x4 x6 x8 x10 x11 x12 x13 x14 x15 x16 y1 y2 : Int) (c0 nc0 : Nat) (hc0 : SH c0 = (1, nc0, []))
    (F : ((w32 x13 = 0) → EV q 402 578 [some (.ref 367), some (vI x1), some (vI x2), some (vI x3), some (vL x4), none, some (vL x6), none, some (vL x8), none, some (vI x10), some (vI x11), some (vI x12), some (vI x13), some (vI x14), some (vI x15), some (vI x16)] [vI 0, .ref c0, vI y1, vI y2, .ref 367] S r S') ∧ ((¬ w32 x13 = 0) → EV q 402 578 [some (.ref 367), some (vI x1), some (vI x2), some (vI x3), some (vL x4), none, some (vL x6), none, some (vL x8), none, some (vI x10), some (vI x11), some (vI x12), some (vI x13), some (vI x14), some (vI x15), some (vI x16)] [vI x12, .ref c0, vI y1, vI y2, .ref 367] S r S')) : EV q 402 567 [some (.ref 367), some (vI x1), some (vI x2), some (vI x3), some (vL x4), none, some (vL x6), none, some (vL x8), none, some (vI x10), some (vI x11), some (vI x12), some (vI x13), some (vI x14), some (vI x15), some (vI x16)] [.ref c0, vI y1, vI y2, .ref 367] S r S' := by
  unfold EV
  refine ev_bk 1 (S' := (569, [some (.ref 367), some (vI x1), some (vI x2), some (vI x3), some (vL x4), none, some (vL x6), none, some (vL x8), none, some (vI x10), some (vI x11), some (vI x12), some (vI x13), some (vI x14), some (vI x15), some (vI x16)], [vI x13, .ref c0, vI y1, vI y2, .ref 367], hp S, 0, 0)) rfl ?_
  refine mv_if 577 rfl rfl (fun c => ?_) (fun c => ?_)
  · have F := F.1 c
    refine ev_bk 1 (S' := (578, [some (.ref 367), some (vI x1), some (vI x2), some (vI x3), some (vL x4), none, some (vL x6), none, some (vL x8), none, some (vI x10), some (vI x11), some (vI x12), some (vI x13), some (vI x14), some (vI x15), some (vI x16)], [vI 0, .ref c0, vI y1, vI y2, .ref 367], hp S, 0, 0)) rfl ?_
    exact F
  · have F := F.2 c
    refine ev_bk 1 (S' := (574, [some (.ref 367), some (vI x1), some (vI x2), some (vI x3), some (vL x4), none, some (vL x6), none, some (vL x8), none, some (vI x10), some (vI x11), some (vI x12), some (vI x13), some (vI x14), some (vI x15), some (vI x16)], [vI x12, .ref c0, vI y1, vI y2, .ref 367], hp S, 0, 0)) rfl ?_
    refine mv_goto 578 rfl rfl ?_
    exact F
theorem vc_MD_boxHead_578 {q : Nat × (Nat → Int32)} {S S' : ms} {r : Option Value} (x1 x2 x3 x4 x6 x8 x10 x11 x12 x13 x14 x15 x16 y0 y2 y3 : Int) (c1 nc1 : Nat) (hc1 : SH c1 = (1, nc1, []))
    (F : ∃ (S1 : ms), EV q 397 0 [some (.ref 367), some (vI y3), some (vI y2), some (.ref c1), some (vI y0), some (vI x8), none] [] S none S1 ∧ r = none ∧ S' = S1) : EV q 402 578 [some (.ref 367), some (vI x1), some (vI x2), some (vI x3), some (vL x4), none, some (vL x6), none, some (vL x8), none, some (vI x10), some (vI x11), some (vI x12), some (vI x13), some (vI x14), some (vI x15), some (vI x16)] [vI y0, .ref c1, vI y2, vI y3, .ref 367] S r S' := by
  unfold EV
  refine ev_bk 1 (S' := (580, [some (.ref 367), some (vI x1), some (vI x2), some (vI x3), some (vL x4), none, some (vL x6), none, some (vL x8), none, some (vI x10), some (vI x11), some (vI x12), some (vI x13), some (vI x14), some (vI x15), some (vI x16)], [vL x8, vI y0, .ref c1, vI y2, vI y3, .ref 367], hp S, 0, 0)) rfl ?_
  refine mv_l2i rfl ?_
  obtain ⟨S1, e2, F⟩ := F
  refine mv_calv (as := [vI y3, vI y2, .ref c1, vI y0, vI x8]) (rest := []) e2 (sh_367) rfl rfl rfl ⟨rfl, rfl⟩ rfl rfl rfl rfl rfl ?_
  obtain ⟨rfl, rfl⟩ := F
  exact ev_ret rfl rfl
theorem vc_MD_delta {q : Nat × (Nat → Int32)} {S S' : ms} {r : Option Value} (x1 x2 : Int)
    (F : ∀ S1 : ms, S1 = wI S 367 0 0 → ∃ (z4 : Int) (S2 : ms), EV q 271 0 [some (.ref 367), some (vI x1)] [] S1 (some (vI z4)) S2 ∧ ((¬ w32 z4 = 0) → r = some (vI ((-1))) ∧ S' = S2) ∧ ((¬ (¬ w32 z4 = 0)) → ∃ (z7 : Int) (S5 : ms), EV q 271 0 [some (.ref 367), some (vI x2)] [] S2 (some (vI z7)) S5 ∧ ((w32 z7 = 0) → ∃ (z10 : Int) (S8 : ms), EV q 277 0 [some (.ref 367), none] [] S5 (some (vI z10)) S8 ∧ ((0 ≤ w32 z10) → ∃ (S11 : ms), EV q 278 0 [some (.ref 367), some (vI 0)] [] S8 none S11 ∧ (0 ≤ w32 x1 ∧ w32 x1 < (13 : Nat)) ∧ (0 ≤ w32 x2 ∧ w32 x2 < (13 : Nat)) ∧ ∃ (S15 : ms), EV q 316 0 [some (.ref 367), some (vL (w32 (S11.1 370 (w32 x2)))), none, none, none] [] S11 none S15 ∧ ∃ (z19 : Int) (S17 : ms), EV q 264 0 [some (.ref 367), some (.ref 369), some (vI (12000 * x1)), some (vI (S11.1 370 (w32 x1))), none, none] [] S15 (some (vI z19)) S17 ∧ ∃ (S20 : ms), EV q 291 0 [some (.ref 367), some (vL (w32 z19)), none, some (vI 4), none] [] S17 none S20 ∧ EV q 403 86 [some (.ref 367), some (vI x1), some (vI x2), some (vI (S11.1 370 (w32 x1))), some (vI (S11.1 370 (w32 x2))), some (vI 0), some (vI 0)] [] S20 r S') ∧ ((¬ 0 ≤ w32 z10) → r = some (vI ((-4))) ∧ S' = S8)) ∧ ((¬ w32 z7 = 0) → r = some (vI ((-1))) ∧ S' = S5))) : EV q 403 0 [some (.ref 367), some (vI x1), some (vI x2), none, none, none, none] [] S r S' := by
  unfold EV
  refine ev_bk 2 (S' := (2, [some (.ref 367), some (vI x1), some (vI x2), none, none, none, none], [vI 0, .ref 367], hp S, 0, 0)) rfl ?_
  refine mv_pfI rfl rfl (sh_367) (by decide) rfl rfl ?_
  have F := F _ rfl
  refine ev_bk 2 (S' := (7, [some (.ref 367), some (vI x1), some (vI x2), none, none, none, none], [vI x1, .ref 367], hp (wI S 367 0 0), 0, 0)) rfl ?_
  obtain ⟨z4, S2, e3, F⟩ := F
  refine mv_calv (as := [vI x1]) (rest := []) e3 (sh_367) rfl rfl rfl ⟨rfl, rfl⟩ rfl rfl rfl rfl rfl ?_
  refine mv_if 21 rfl rfl (fun c => ?_) (fun c => ?_)
  · have F := F.1 c
    refine ev_bk 1 (S' := (22, [some (.ref 367), some (vI x1), some (vI x2), none, none, none, none], [vI ((-1))], hp S2, 0, 0)) rfl ?_
    obtain ⟨rfl, rfl⟩ := F
    exact ev_ret rfl rfl
  · have F := F.2 c
    refine ev_bk 2 (S' := (15, [some (.ref 367), some (vI x1), some (vI x2), none, none, none, none], [vI x2, .ref 367], hp S2, 0, 0)) rfl ?_
    obtain ⟨z7, S5, e6, F⟩ := F
    refine mv_calv (as := [vI x2]) (rest := []) e6 (sh_367) rfl rfl rfl ⟨rfl, rfl⟩ rfl rfl rfl rfl rfl ?_
    refine mv_if 23 rfl rfl (fun c => ?_) (fun c => ?_)
    · have F := F.1 c
      refine ev_bk 1 (S' := (24, [some (.ref 367), some (vI x1), some (vI x2), none, none, none, none], [.ref 367], hp S5, 0, 0)) rfl ?_
      obtain ⟨z10, S8, e9, F⟩ := F
      refine mv_calv (as := []) (rest := []) e9 (sh_367) rfl rfl rfl ⟨rfl, rfl⟩ rfl rfl rfl rfl rfl ?_
      refine mv_if 33 rfl rfl (fun c => ?_) (fun c => ?_)
      · have F := F.1 c
        refine ev_bk 2 (S' := (35, [some (.ref 367), some (vI x1), some (vI x2), none, none, none, none], [vI 0, .ref 367], hp S8, 0, 0)) rfl ?_
        obtain ⟨S11, e12, F⟩ := F
        refine mv_calv (as := [vI 0]) (rest := []) e12 (sh_367) rfl rfl rfl ⟨rfl, rfl⟩ rfl rfl rfl rfl rfl ?_
        refine ev_bk 1 (S' := (39, [some (.ref 367), some (vI x1), some (vI x2), none, none, none, none], [.ref 367], hp S11, 0, 0)) rfl ?_
        refine mv_gfR rfl rfl (sh_367) (by decide) rfl ?_
        refine ev_bk 1 (S' := (43, [some (.ref 367), some (vI x1), some (vI x2), none, none, none, none], [vI x1, .ref 370], hp S11, 0, 0)) rfl ?_
        obtain ⟨b13, F⟩ := F
        refine mv_ial rfl (sh_370) b13 ?_
        refine ev_bk 2 (S' := (46, [some (.ref 367), some (vI x1), some (vI x2), some (vI (S11.1 370 (w32 x1))), none, none, none], [.ref 367], hp S11, 0, 0)) rfl ?_
        refine mv_gfR rfl rfl (sh_367) (by decide) rfl ?_
        refine ev_bk 1 (S' := (50, [some (.ref 367), some (vI x1), some (vI x2), some (vI (S11.1 370 (w32 x1))), none, none, none], [vI x2, .ref 370], hp S11, 0, 0)) rfl ?_
        obtain ⟨b14, F⟩ := F
        refine mv_ial rfl (sh_370) b14 ?_
        refine ev_bk 3 (S' := (56, [some (.ref 367), some (vI x1), some (vI x2), some (vI (S11.1 370 (w32 x1))), some (vI (S11.1 370 (w32 x2))), none, none], [vI (S11.1 370 (w32 x2)), .ref 367], hp S11, 0, 0)) rfl ?_
        refine mv_i2l rfl ?_
        obtain ⟨S15, e16, F⟩ := F
        refine mv_calv (as := [vL (w32 (S11.1 370 (w32 x2)))]) (rest := []) e16 (sh_367) rfl rfl rfl ⟨rfl, rfl⟩ rfl rfl rfl rfl rfl ?_
        refine ev_bk 3 (S' := (63, [some (.ref 367), some (vI x1), some (vI x2), some (vI (S11.1 370 (w32 x1))), some (vI (S11.1 370 (w32 x2))), none, none], [.ref 367, .ref 367, .ref 367], hp S15, 0, 0)) rfl ?_
        refine mv_gfR rfl rfl (sh_367) (by decide) rfl ?_
        refine ev_bk 2 (S' := (70, [some (.ref 367), some (vI x1), some (vI x2), some (vI (S11.1 370 (w32 x1))), some (vI (S11.1 370 (w32 x2))), none, none], [vI x1, vI 12000, .ref 369, .ref 367, .ref 367], hp S15, 0, 0)) rfl ?_
        refine mv_imul rfl ?_
        refine ev_bk 1 (S' := (72, [some (.ref 367), some (vI x1), some (vI x2), some (vI (S11.1 370 (w32 x1))), some (vI (S11.1 370 (w32 x2))), none, none], [vI (S11.1 370 (w32 x1)), vI (12000 * x1), .ref 369, .ref 367, .ref 367], hp S15, 0, 0)) rfl ?_
        obtain ⟨z19, S17, e18, F⟩ := F
        refine mv_calv (as := [.ref 369, vI (12000 * x1), vI (S11.1 370 (w32 x1))]) (rest := [.ref 367]) e18 (sh_367) rfl rfl rfl ⟨rfl, rfl⟩ rfl rfl rfl rfl rfl ?_
        refine mv_i2l rfl ?_
        refine ev_bk 1 (S' := (77, [some (.ref 367), some (vI x1), some (vI x2), some (vI (S11.1 370 (w32 x1))), some (vI (S11.1 370 (w32 x2))), none, none], [vI 4, vL (w32 z19), .ref 367], hp S17, 0, 0)) rfl ?_
        obtain ⟨S20, e21, F⟩ := F
        refine mv_calv (as := [vL (w32 z19), vI 4]) (rest := []) e21 (sh_367) rfl rfl rfl ⟨rfl, rfl⟩ rfl rfl rfl rfl rfl ?_
        refine ev_bk 4 (S' := (86, [some (.ref 367), some (vI x1), some (vI x2), some (vI (S11.1 370 (w32 x1))), some (vI (S11.1 370 (w32 x2))), some (vI 0), some (vI 0)], [], hp S20, 0, 0)) rfl ?_
        exact F
      · have F := F.2 c
        refine ev_bk 1 (S' := (32, [some (.ref 367), some (vI x1), some (vI x2), none, none, none, none], [vI ((-4))], hp S8, 0, 0)) rfl ?_
        obtain ⟨rfl, rfl⟩ := F
        exact ev_ret rfl rfl
    · have F := F.2 c
      refine ev_bk 1 (S' := (22, [some (.ref 367), some (vI x1), some (vI x2), none, none, none, none], [vI ((-1))], hp S5, 0, 0)) rfl ?_
      obtain ⟨rfl, rfl⟩ := F
      exact ev_ret rfl rfl
theorem vc_MD_delta_86 {q : Nat × (Nat → Int32)} {S S' : ms} {r : Option Value} (x1 x2 x3 x4 x5 x6 : Int)
    (F : ((w32 x4 ≤ w32 x5) → ∃ (S1 : ms), EV q 405 0 [some (.ref 367), some (vI x2), some (vI x6), some (vI x4), none, none, none] [] S none S1 ∧ ((w32 (S1.1 367 9) ≤ 12000) → ∃ (z5 : Int) (S3 : ms), EV q 328 0 [some (.ref 367), some (.ref 374), some (vI 0), some (vI (S1.1 367 9)), none, none] [] S1 (some (vI z5)) S3 ∧ r = some (vI z5) ∧ S' = S3) ∧ ((¬ w32 (S1.1 367 9) ≤ 12000) → r = some (vI ((-4))) ∧ S' = S1)) ∧ ((¬ w32 x4 ≤ w32 x5) → ∃ (S6 : ms), EV q 404 0 [some (.ref 367), some (vI x1), some (vI x3), some (vI x2), some (vI x5), some (vI x4), none, none, none, none] [] S none S6 ∧ ((w32 (S6.1 367 26) < 8) → EV q 403 86 [some (.ref 367), some (vI x1), some (vI x2), some (vI x3), some (vI x4), some (vI (x5 + 1)), some (vI x6)] [] S6 r S') ∧ ((¬ w32 (S6.1 367 26) < 8) → ∃ (S8 : ms), EV q 405 0 [some (.ref 367), some (vI x2), some (vI x6), some (vI x5), none, none, none] [] S6 none S8 ∧ ∃ (S10 : ms), EV q 282 0 [some (.ref 367), some (vI 1)] [] S8 none S10 ∧ ∃ (S12 : ms), EV q 316 0 [some (.ref 367), some (vL (w32 (S10.1 367 26))), none, none, none] [] S10 none S12 ∧ ∃ (S14 : ms), EV q 316 0 [some (.ref 367), some (vL (w32 (S12.1 367 27))), none, none, none] [] S12 none S14 ∧ EV q 403 86 [some (.ref 367), some (vI x1), some (vI x2), some (vI x3), some (vI x4), some (vI (x5 + (S14.1 367 26))), some (vI (x5 + (S14.1 367 26)))] [] S14 r S'))) : EV q 403 86 [some (.ref 367), some (vI x1), some (vI x2), some (vI x3), some (vI x4), some (vI x5), some (vI x6)] [] S r S' := by
  unfold EV
  refine ev_bk 2 (S' := (90, [some (.ref 367), some (vI x1), some (vI x2), some (vI x3), some (vI x4), some (vI x5), some (vI x6)], [vI x4, vI x5], hp S, 0, 0)) rfl ?_
  refine mv_icmp 167 rfl rfl (fun c => ?_) (fun c => ?_)
  · have F := F.1 c
    refine ev_bk 4 (S' := (173, [some (.ref 367), some (vI x1), some (vI x2), some (vI x3), some (vI x4), some (vI x5), some (vI x6)], [vI x4, vI x6, vI x2, .ref 367], hp S, 0, 0)) rfl ?_
    obtain ⟨S1, e2, F⟩ := F
    refine mv_calv (as := [vI x2, vI x6, vI x4]) (rest := []) e2 (sh_367) rfl rfl rfl ⟨rfl, rfl⟩ rfl rfl rfl rfl rfl ?_
    refine ev_bk 1 (S' := (177, [some (.ref 367), some (vI x1), some (vI x2), some (vI x3), some (vI x4), some (vI x5), some (vI x6)], [.ref 367], hp S1, 0, 0)) rfl ?_
    refine mv_gfI rfl rfl (sh_367) (by decide) rfl ?_
    refine ev_bk 1 (S' := (183, [some (.ref 367), some (vI x1), some (vI x2), some (vI x3), some (vI x4), some (vI x5), some (vI x6)], [vI 12000, vI (S1.1 367 9)], hp S1, 0, 0)) rfl ?_
    refine mv_icmp 191 rfl rfl (fun c => ?_) (fun c => ?_)
    · have F := F.1 c
      refine ev_bk 2 (S' := (193, [some (.ref 367), some (vI x1), some (vI x2), some (vI x3), some (vI x4), some (vI x5), some (vI x6)], [.ref 367, .ref 367], hp S1, 0, 0)) rfl ?_
      refine mv_gfR rfl rfl (sh_367) (by decide) rfl ?_
      refine ev_bk 2 (S' := (198, [some (.ref 367), some (vI x1), some (vI x2), some (vI x3), some (vI x4), some (vI x5), some (vI x6)], [.ref 367, vI 0, .ref 374, .ref 367], hp S1, 0, 0)) rfl ?_
      refine mv_gfI rfl rfl (sh_367) (by decide) rfl ?_
      obtain ⟨z5, S3, e4, F⟩ := F
      refine mv_calv (as := [.ref 374, vI 0, vI (S1.1 367 9)]) (rest := []) e4 (sh_367) rfl rfl rfl ⟨rfl, rfl⟩ rfl rfl rfl rfl rfl ?_
      obtain ⟨rfl, rfl⟩ := F
      exact ev_ret rfl rfl
    · have F := F.2 c
      refine ev_bk 1 (S' := (188, [some (.ref 367), some (vI x1), some (vI x2), some (vI x3), some (vI x4), some (vI x5), some (vI x6)], [vI ((-4))], hp S1, 0, 0)) rfl ?_
      refine mv_goto 204 rfl rfl ?_
      obtain ⟨rfl, rfl⟩ := F
      exact ev_ret rfl rfl
  · have F := F.2 c
    refine ev_bk 6 (S' := (101, [some (.ref 367), some (vI x1), some (vI x2), some (vI x3), some (vI x4), some (vI x5), some (vI x6)], [vI x4, vI x5, vI x2, vI x3, vI x1, .ref 367], hp S, 0, 0)) rfl ?_
    obtain ⟨S6, e7, F⟩ := F
    refine mv_calv (as := [vI x1, vI x3, vI x2, vI x5, vI x4]) (rest := []) e7 (sh_367) rfl rfl rfl ⟨rfl, rfl⟩ rfl rfl rfl rfl rfl ?_
    refine ev_bk 1 (S' := (105, [some (.ref 367), some (vI x1), some (vI x2), some (vI x3), some (vI x4), some (vI x5), some (vI x6)], [.ref 367], hp S6, 0, 0)) rfl ?_
    refine mv_gfI rfl rfl (sh_367) (by decide) rfl ?_
    refine ev_bk 1 (S' := (110, [some (.ref 367), some (vI x1), some (vI x2), some (vI x3), some (vI x4), some (vI x5), some (vI x6)], [vI 8, vI (S6.1 367 26)], hp S6, 0, 0)) rfl ?_
    refine mv_icmp 161 rfl rfl (fun c => ?_) (fun c => ?_)
    · have F := F.1 c
      refine mv_inc (lv' := [some (.ref 367), some (vI x1), some (vI x2), some (vI x3), some (vI x4), some (vI (x5 + 1)), some (vI x6)]) 5 1 rfl rfl rfl rfl ?_
      refine mv_goto 86 rfl rfl ?_
      exact F
    · have F := F.2 c
      refine ev_bk 4 (S' := (119, [some (.ref 367), some (vI x1), some (vI x2), some (vI x3), some (vI x4), some (vI x5), some (vI x6)], [vI x5, vI x6, vI x2, .ref 367], hp S6, 0, 0)) rfl ?_
      obtain ⟨S8, e9, F⟩ := F
      refine mv_calv (as := [vI x2, vI x6, vI x5]) (rest := []) e9 (sh_367) rfl rfl rfl ⟨rfl, rfl⟩ rfl rfl rfl rfl rfl ?_
      refine ev_bk 2 (S' := (124, [some (.ref 367), some (vI x1), some (vI x2), some (vI x3), some (vI x4), some (vI x5), some (vI x6)], [vI 1, .ref 367], hp S8, 0, 0)) rfl ?_
      obtain ⟨S10, e11, F⟩ := F
      refine mv_calv (as := [vI 1]) (rest := []) e11 (sh_367) rfl rfl rfl ⟨rfl, rfl⟩ rfl rfl rfl rfl rfl ?_
      refine ev_bk 2 (S' := (129, [some (.ref 367), some (vI x1), some (vI x2), some (vI x3), some (vI x4), some (vI x5), some (vI x6)], [.ref 367, .ref 367], hp S10, 0, 0)) rfl ?_
      refine mv_gfI rfl rfl (sh_367) (by decide) rfl ?_
      refine mv_i2l rfl ?_
      obtain ⟨S12, e13, F⟩ := F
      refine mv_calv (as := [vL (w32 (S10.1 367 26))]) (rest := []) e13 (sh_367) rfl rfl rfl ⟨rfl, rfl⟩ rfl rfl rfl rfl rfl ?_
      refine ev_bk 2 (S' := (138, [some (.ref 367), some (vI x1), some (vI x2), some (vI x3), some (vI x4), some (vI x5), some (vI x6)], [.ref 367, .ref 367], hp S12, 0, 0)) rfl ?_
      refine mv_gfI rfl rfl (sh_367) (by decide) rfl ?_
      refine mv_i2l rfl ?_
      obtain ⟨S14, e15, F⟩ := F
      refine mv_calv (as := [vL (w32 (S12.1 367 27))]) (rest := []) e15 (sh_367) rfl rfl rfl ⟨rfl, rfl⟩ rfl rfl rfl rfl rfl ?_
      refine ev_bk 2 (S' := (148, [some (.ref 367), some (vI x1), some (vI x2), some (vI x3), some (vI x4), some (vI x5), some (vI x6)], [.ref 367, vI x5], hp S14, 0, 0)) rfl ?_
      refine mv_gfI rfl rfl (sh_367) (by decide) rfl ?_
      refine mv_iadd rfl ?_
      refine ev_bk 3 (S' := (158, [some (.ref 367), some (vI x1), some (vI x2), some (vI x3), some (vI x4), some (vI (x5 + (S14.1 367 26))), some (vI (x5 + (S14.1 367 26)))], [], hp S14, 0, 0)) rfl ?_
      refine mv_goto 86 rfl rfl ?_
      exact F
theorem vc_MD_likeIn {q : Nat × (Nat → Int32)} {S S' : ms} {r : Option Value} (x1 x2 x3 x4 x5 : Int)
    (F : ∀ S1 : ms, S1 = wI S 367 26 0 → ∀ S2 : ms, S2 = wI S1 367 27 0 → EV q 404 30 [some (.ref 367), some (vI x1), some (vI x2), some (vI x3), some (vI x4), some (vI x5), some (vI (12000 * x1)), some (vI ((12000 * x3) + x4)), some (vI 0), none] [] S2 r S') : EV q 404 0 [some (.ref 367), some (vI x1), some (vI x2), some (vI x3), some (vI x4), some (vI x5), none, none, none, none] [] S r S' := by
  unfold EV
  refine ev_bk 2 (S' := (4, [some (.ref 367), some (vI x1), some (vI x2), some (vI x3), some (vI x4), some (vI x5), none, none, none, none], [vI x1, vI 12000], hp S, 0, 0)) rfl ?_
  refine mv_imul rfl ?_
  refine ev_bk 3 (S' := (11, [some (.ref 367), some (vI x1), some (vI x2), some (vI x3), some (vI x4), some (vI x5), some (vI (12000 * x1)), none, none, none], [vI x3, vI 12000], hp S, 0, 0)) rfl ?_
  refine mv_imul rfl ?_
  refine ev_bk 1 (S' := (14, [some (.ref 367), some (vI x1), some (vI x2), some (vI x3), some (vI x4), some (vI x5), some (vI (12000 * x1)), none, none, none], [vI x4, vI (12000 * x3)], hp S, 0, 0)) rfl ?_
  refine mv_iadd rfl ?_
  refine ev_bk 3 (S' := (19, [some (.ref 367), some (vI x1), some (vI x2), some (vI x3), some (vI x4), some (vI x5), some (vI (12000 * x1)), some (vI ((12000 * x3) + x4)), none, none], [vI 0, .ref 367], hp S, 0, 0)) rfl ?_
  refine mv_pfI rfl rfl (sh_367) (by decide) rfl rfl ?_
  have F := F _ rfl
  refine ev_bk 2 (S' := (24, [some (.ref 367), some (vI x1), some (vI x2), some (vI x3), some (vI x4), some (vI x5), some (vI (12000 * x1)), some (vI ((12000 * x3) + x4)), none, none], [vI 0, .ref 367], hp (wI S 367 26 0), 0, 0)) rfl ?_
  refine mv_pfI rfl rfl (sh_367) (by decide) rfl rfl ?_
  have F := F _ rfl
  refine ev_bk 2 (S' := (30, [some (.ref 367), some (vI x1), some (vI x2), some (vI x3), some (vI x4), some (vI x5), some (vI (12000 * x1)), some (vI ((12000 * x3) + x4)), some (vI 0), none], [], hp (wI (wI S 367 26 0) 367 27 0), 0, 0)) rfl ?_
  exact F
theorem vc_MD_likeIn_30 {q : Nat × (Nat → Int32)} {S S' : ms} {r : Option Value} (x1 x2 x3 x4 x5 x6 x7 x8 : Int)
    (F : ((w32 x2 ≤ w32 (x8 + (S.1 367 26))) → r = none ∧ S' = S) ∧ ((¬ w32 x2 ≤ w32 (x8 + (S.1 367 26))) → ((w32 x5 ≤ w32 (x4 + (S.1 367 26))) → r = none ∧ S' = S) ∧ ((¬ w32 x5 ≤ w32 (x4 + (S.1 367 26))) → (0 ≤ w32 (x6 + x8 + (S.1 367 26)) ∧ w32 (x6 + x8 + (S.1 367 26)) < (156000 : Nat)) ∧ (0 ≤ w32 (x7 + (S.1 367 26)) ∧ w32 (x7 + (S.1 367 26)) < (156000 : Nat)) ∧ ((w32 (S.1 369 (w32 (x6 + x8 + (S.1 367 26)))) = w32 (S.1 369 (w32 (x7 + (S.1 367 26))))) → EV q 404 89 [some (.ref 367), some (vI x1), some (vI x2), some (vI x3), some (vI x4), some (vI x5), some (vI x6), some (vI x7), some (vI x8), some (vI 0)] [] S r S') ∧ ((¬ w32 (S.1 369 (w32 (x6 + x8 + (S.1 367 26)))) = w32 (S.1 369 (w32 (x7 + (S.1 367 26))))) → EV q 404 161 [some (.ref 367), some (vI x1), some (vI x2), some (vI x3), some (vI x4), some (vI x5), some (vI x6), some (vI x7), some (vI x8), none] [] S r S')))) : EV q 404 30 [some (.ref 367), some (vI x1), some (vI x2), some (vI x3), some (vI x4), some (vI x5), some (vI x6), some (vI x7), some (vI x8), none] [] S r S' := by
  unfold EV
  refine ev_bk 2 (S' := (33, [some (.ref 367), some (vI x1), some (vI x2), some (vI x3), some (vI x4), some (vI x5), some (vI x6), some (vI x7), some (vI x8), none], [.ref 367, vI x8], hp S, 0, 0)) rfl ?_
  refine mv_gfI rfl rfl (sh_367) (by decide) rfl ?_
  refine mv_iadd rfl ?_
  refine ev_bk 1 (S' := (38, [some (.ref 367), some (vI x1), some (vI x2), some (vI x3), some (vI x4), some (vI x5), some (vI x6), some (vI x7), some (vI x8), none], [vI x2, vI (x8 + (S.1 367 26))], hp S, 0, 0)) rfl ?_
  refine mv_icmp 167 rfl rfl (fun c => ?_) (fun c => ?_)
  · have F := F.1 c
    obtain ⟨rfl, rfl⟩ := F
    exact ev_ret rfl rfl
  · have F := F.2 c
    refine ev_bk 2 (S' := (44, [some (.ref 367), some (vI x1), some (vI x2), some (vI x3), some (vI x4), some (vI x5), some (vI x6), some (vI x7), some (vI x8), none], [.ref 367, vI x4], hp S, 0, 0)) rfl ?_
    refine mv_gfI rfl rfl (sh_367) (by decide) rfl ?_
    refine mv_iadd rfl ?_
    refine ev_bk 1 (S' := (50, [some (.ref 367), some (vI x1), some (vI x2), some (vI x3), some (vI x4), some (vI x5), some (vI x6), some (vI x7), some (vI x8), none], [vI x5, vI (x4 + (S.1 367 26))], hp S, 0, 0)) rfl ?_
    refine mv_icmp 167 rfl rfl (fun c => ?_) (fun c => ?_)
    · have F := F.1 c
      obtain ⟨rfl, rfl⟩ := F
      exact ev_ret rfl rfl
    · have F := F.2 c
      refine ev_bk 1 (S' := (54, [some (.ref 367), some (vI x1), some (vI x2), some (vI x3), some (vI x4), some (vI x5), some (vI x6), some (vI x7), some (vI x8), none], [.ref 367], hp S, 0, 0)) rfl ?_
      refine mv_gfR rfl rfl (sh_367) (by decide) rfl ?_
      refine ev_bk 2 (S' := (61, [some (.ref 367), some (vI x1), some (vI x2), some (vI x3), some (vI x4), some (vI x5), some (vI x6), some (vI x7), some (vI x8), none], [vI x8, vI x6, .ref 369], hp S, 0, 0)) rfl ?_
      refine mv_iadd rfl ?_
      refine ev_bk 1 (S' := (63, [some (.ref 367), some (vI x1), some (vI x2), some (vI x3), some (vI x4), some (vI x5), some (vI x6), some (vI x7), some (vI x8), none], [.ref 367, vI (x6 + x8), .ref 369], hp S, 0, 0)) rfl ?_
      refine mv_gfI rfl rfl (sh_367) (by decide) rfl ?_
      refine mv_iadd rfl ?_
      obtain ⟨b1, F⟩ := F
      refine mv_bal rfl (sh_369) b1 ?_
      refine ev_bk 1 (S' := (69, [some (.ref 367), some (vI x1), some (vI x2), some (vI x3), some (vI x4), some (vI x5), some (vI x6), some (vI x7), some (vI x8), none], [.ref 367, vI (S.1 369 (w32 (x6 + x8 + (S.1 367 26))))], hp S, 0, 0)) rfl ?_
      refine mv_gfR rfl rfl (sh_367) (by decide) rfl ?_
      refine ev_bk 2 (S' := (75, [some (.ref 367), some (vI x1), some (vI x2), some (vI x3), some (vI x4), some (vI x5), some (vI x6), some (vI x7), some (vI x8), none], [.ref 367, vI x7, .ref 369, vI (S.1 369 (w32 (x6 + x8 + (S.1 367 26))))], hp S, 0, 0)) rfl ?_
      refine mv_gfI rfl rfl (sh_367) (by decide) rfl ?_
      refine mv_iadd rfl ?_
      obtain ⟨b2, F⟩ := F
      refine mv_bal rfl (sh_369) b2 ?_
      refine mv_icmp 86 rfl rfl (fun c => ?_) (fun c => ?_)
      · have F := F.1 c
        refine ev_bk 2 (S' := (89, [some (.ref 367), some (vI x1), some (vI x2), some (vI x3), some (vI x4), some (vI x5), some (vI x6), some (vI x7), some (vI x8), some (vI 0)], [], hp S, 0, 0)) rfl ?_
        exact F
      · have F := F.2 c
        refine mv_goto 161 rfl rfl ?_
        exact F
theorem vc_MD_likeIn_89 {q : Nat × (Nat → Int32)} {S S' : ms} {r : Option Value} (x1 x2 x3 x4 x5 x6 x7 x8 x9 : Int)
    (F : ((w32 x2 ≤ w32 (x8 + x9)) → EV q 404 140 [some (.ref 367), some (vI x1), some (vI x2), some (vI x3), some (vI x4), some (vI x5), some (vI x6), some (vI x7), some (vI x8), some (vI x9)] [] S r S') ∧ ((¬ w32 x2 ≤ w32 (x8 + x9)) → ((w32 x5 ≤ w32 (x4 + x9)) → EV q 404 140 [some (.ref 367), some (vI x1), some (vI x2), some (vI x3), some (vI x4), some (vI x5), some (vI x6), some (vI x7), some (vI x8), some (vI x9)] [] S r S') ∧ ((¬ w32 x5 ≤ w32 (x4 + x9)) → (0 ≤ w32 (x6 + x8 + x9) ∧ w32 (x6 + x8 + x9) < (156000 : Nat)) ∧ (0 ≤ w32 (x7 + x9) ∧ w32 (x7 + x9) < (156000 : Nat)) ∧ ((¬ w32 (S.1 369 (w32 (x6 + x8 + x9))) = w32 (S.1 369 (w32 (x7 + x9)))) → EV q 404 140 [some (.ref 367), some (vI x1), some (vI x2), some (vI x3), some (vI x4), some (vI x5), some (vI x6), some (vI x7), some (vI x8), some (vI x9)] [] S r S') ∧ ((¬ (¬ w32 (S.1 369 (w32 (x6 + x8 + x9))) = w32 (S.1 369 (w32 (x7 + x9))))) → EV q 404 89 [some (.ref 367), some (vI x1), some (vI x2), some (vI x3), some (vI x4), some (vI x5), some (vI x6), some (vI x7), some (vI x8), some (vI (x9 + 1))] [] S r S')))) : EV q 404 89 [some (.ref 367), some (vI x1), some (vI x2), some (vI x3), some (vI x4), some (vI x5), some (vI x6), some (vI x7), some (vI x8), some (vI x9)] [] S r S' := by
  unfold EV
  refine ev_bk 2 (S' := (93, [some (.ref 367), some (vI x1), some (vI x2), some (vI x3), some (vI x4), some (vI x5), some (vI x6), some (vI x7), some (vI x8), some (vI x9)], [vI x9, vI x8], hp S, 0, 0)) rfl ?_
  refine mv_iadd rfl ?_
  refine ev_bk 1 (S' := (95, [some (.ref 367), some (vI x1), some (vI x2), some (vI x3), some (vI x4), some (vI x5), some (vI x6), some (vI x7), some (vI x8), some (vI x9)], [vI x2, vI (x8 + x9)], hp S, 0, 0)) rfl ?_
  refine mv_icmp 140 rfl rfl (fun c => ?_) (fun c => ?_)
  · have F := F.1 c
    exact F
  · have F := F.2 c
    refine ev_bk 2 (S' := (102, [some (.ref 367), some (vI x1), some (vI x2), some (vI x3), some (vI x4), some (vI x5), some (vI x6), some (vI x7), some (vI x8), some (vI x9)], [vI x9, vI x4], hp S, 0, 0)) rfl ?_
    refine mv_iadd rfl ?_
    refine ev_bk 1 (S' := (105, [some (.ref 367), some (vI x1), some (vI x2), some (vI x3), some (vI x4), some (vI x5), some (vI x6), some (vI x7), some (vI x8), some (vI x9)], [vI x5, vI (x4 + x9)], hp S, 0, 0)) rfl ?_
    refine mv_icmp 140 rfl rfl (fun c => ?_) (fun c => ?_)
    · have F := F.1 c
      exact F
    · have F := F.2 c
      refine ev_bk 1 (S' := (109, [some (.ref 367), some (vI x1), some (vI x2), some (vI x3), some (vI x4), some (vI x5), some (vI x6), some (vI x7), some (vI x8), some (vI x9)], [.ref 367], hp S, 0, 0)) rfl ?_
      refine mv_gfR rfl rfl (sh_367) (by decide) rfl ?_
      refine ev_bk 2 (S' := (116, [some (.ref 367), some (vI x1), some (vI x2), some (vI x3), some (vI x4), some (vI x5), some (vI x6), some (vI x7), some (vI x8), some (vI x9)], [vI x8, vI x6, .ref 369], hp S, 0, 0)) rfl ?_
      refine mv_iadd rfl ?_
      refine ev_bk 1 (S' := (119, [some (.ref 367), some (vI x1), some (vI x2), some (vI x3), some (vI x4), some (vI x5), some (vI x6), some (vI x7), some (vI x8), some (vI x9)], [vI x9, vI (x6 + x8), .ref 369], hp S, 0, 0)) rfl ?_
      refine mv_iadd rfl ?_
      obtain ⟨b1, F⟩ := F
      refine mv_bal rfl (sh_369) b1 ?_
      refine ev_bk 1 (S' := (122, [some (.ref 367), some (vI x1), some (vI x2), some (vI x3), some (vI x4), some (vI x5), some (vI x6), some (vI x7), some (vI x8), some (vI x9)], [.ref 367, vI (S.1 369 (w32 (x6 + x8 + x9)))], hp S, 0, 0)) rfl ?_
      refine mv_gfR rfl rfl (sh_367) (by decide) rfl ?_
      refine ev_bk 2 (S' := (129, [some (.ref 367), some (vI x1), some (vI x2), some (vI x3), some (vI x4), some (vI x5), some (vI x6), some (vI x7), some (vI x8), some (vI x9)], [vI x9, vI x7, .ref 369, vI (S.1 369 (w32 (x6 + x8 + x9)))], hp S, 0, 0)) rfl ?_
      refine mv_iadd rfl ?_
      obtain ⟨b2, F⟩ := F
      refine mv_bal rfl (sh_369) b2 ?_
      refine mv_icmp 140 rfl rfl (fun c => ?_) (fun c => ?_)
      · have F := F.1 c
        exact F
      · have F := F.2 c
        refine mv_inc (lv' := [some (.ref 367), some (vI x1), some (vI x2), some (vI x3), some (vI x4), some (vI x5), some (vI x6), some (vI x7), some (vI x8), some (vI (x9 + 1))]) 9 1 rfl rfl rfl rfl ?_
        refine mv_goto 89 rfl rfl ?_
        exact F
theorem vc_MD_likeIn_140 {q : Nat × (Nat → Int32)} {S S' : ms} {r : Option Value} (x1 x2 x3 x4 x5 x6 x7 x8 x9 : Int)
    (F : ((w32 x9 ≤ w32 (S.1 367 26)) → EV q 404 161 [some (.ref 367), some (vI x1), some (vI x2), some (vI x3), some (vI x4), some (vI x5), some (vI x6), some (vI x7), some (vI x8), none] [] S r S') ∧ ((¬ w32 x9 ≤ w32 (S.1 367 26)) → ∀ S1 : ms, S1 = wI S 367 26 x9 → ∀ S2 : ms, S2 = wI S1 367 27 x8 → EV q 404 161 [some (.ref 367), some (vI x1), some (vI x2), some (vI x3), some (vI x4), some (vI x5), some (vI x6), some (vI x7), some (vI x8), none] [] S2 r S')) : EV q 404 140 [some (.ref 367), some (vI x1), some (vI x2), some (vI x3), some (vI x4), some (vI x5), some (vI x6), some (vI x7), some (vI x8), some (vI x9)] [] S r S' := by
  unfold EV
  refine ev_bk 2 (S' := (143, [some (.ref 367), some (vI x1), some (vI x2), some (vI x3), some (vI x4), some (vI x5), some (vI x6), some (vI x7), some (vI x8), some (vI x9)], [.ref 367, vI x9], hp S, 0, 0)) rfl ?_
  refine mv_gfI rfl rfl (sh_367) (by decide) rfl ?_
  refine mv_icmp 161 rfl rfl (fun c => ?_) (fun c => ?_)
  · have F := F.1 c
    exact ev_wk (le_s (le_s (le_s (le_s (le_s (le_s (le_s (le_s (le_s (le_n le_0)))))))))) F
  · have F := F.2 c
    refine ev_bk 2 (S' := (152, [some (.ref 367), some (vI x1), some (vI x2), some (vI x3), some (vI x4), some (vI x5), some (vI x6), some (vI x7), some (vI x8), some (vI x9)], [vI x9, .ref 367], hp S, 0, 0)) rfl ?_
    refine mv_pfI rfl rfl (sh_367) (by decide) rfl rfl ?_
    have F := F _ rfl
    refine ev_bk 2 (S' := (158, [some (.ref 367), some (vI x1), some (vI x2), some (vI x3), some (vI x4), some (vI x5), some (vI x6), some (vI x7), some (vI x8), some (vI x9)], [vI x8, .ref 367], hp (wI S 367 26 x9), 0, 0)) rfl ?_
    refine mv_pfI rfl rfl (sh_367) (by decide) rfl rfl ?_
    have F := F _ rfl
    exact ev_wk (le_s (le_s (le_s (le_s (le_s (le_s (le_s (le_s (le_s (le_n le_0)))))))))) F
theorem vc_MD_likeIn_161 {q : Nat × (Nat → Int32)} {S S' : ms} {r : Option Value} (x1 x2 x3 x4 x5 x6 x7 x8 : Int)
    (F : EV q 404 30 [some (.ref 367), some (vI x1), some (vI x2), some (vI x3), some (vI x4), some (vI x5), some (vI x6), some (vI x7), some (vI (x8 + 1)), none] [] S r S') : EV q 404 161 [some (.ref 367), some (vI x1), some (vI x2), some (vI x3), some (vI x4), some (vI x5), some (vI x6), some (vI x7), some (vI x8), none] [] S r S' := by
  unfold EV
  refine mv_inc (lv' := [some (.ref 367), some (vI x1), some (vI x2), some (vI x3), some (vI x4), some (vI x5), some (vI x6), some (vI x7), some (vI (x8 + 1)), none]) 8 1 rfl rfl rfl rfl ?_
  refine mv_goto 30 rfl rfl ?_
  exact F
theorem vc_MD_plainOctets {q : Nat × (Nat → Int32)} {S S' : ms} {r : Option Value} (x1 x2 x3 : Int)
    (F : EV q 405 3 [some (.ref 367), some (vI x1), some (vI x2), some (vI x3), some (vI x2), none, none] [] S r S') : EV q 405 0 [some (.ref 367), some (vI x1), some (vI x2), some (vI x3), none, none, none] [] S r S' := by
  unfold EV
  refine ev_bk 2 (S' := (3, [some (.ref 367), some (vI x1), some (vI x2), some (vI x3), some (vI x2), none, none], [], hp S, 0, 0)) rfl ?_
  exact F
theorem vc_MD_plainOctets_3 {q : Nat × (Nat → Int32)} {S S' : ms} {r : Option Value} (x1 x2 x3 x4 : Int)
    (F : ((w32 x3 ≤ w32 x4) → r = none ∧ S' = S) ∧ ((¬ w32 x3 ≤ w32 x4) → ((200 ≤ w32 (x3 - x4)) → EV q 405 29 [some (.ref 367), some (vI x1), some (vI x2), some (vI x3), some (vI x4), none, none] [vI 200] S r S') ∧ ((¬ 200 ≤ w32 (x3 - x4)) → EV q 405 29 [some (.ref 367), some (vI x1), some (vI x2), some (vI x3), some (vI x4), none, none] [vI (x3 - x4)] S r S'))) : EV q 405 3 [some (.ref 367), some (vI x1), some (vI x2), some (vI x3), some (vI x4), none, none] [] S r S' := by
  unfold EV
  refine ev_bk 2 (S' := (6, [some (.ref 367), some (vI x1), some (vI x2), some (vI x3), some (vI x4), none, none], [vI x3, vI x4], hp S, 0, 0)) rfl ?_
  refine mv_icmp 88 rfl rfl (fun c => ?_) (fun c => ?_)
  · have F := F.1 c
    obtain ⟨rfl, rfl⟩ := F
    exact ev_ret rfl rfl
  · have F := F.2 c
    refine ev_bk 2 (S' := (12, [some (.ref 367), some (vI x1), some (vI x2), some (vI x3), some (vI x4), none, none], [vI x4, vI x3], hp S, 0, 0)) rfl ?_
    refine mv_isub rfl ?_
    refine ev_bk 1 (S' := (16, [some (.ref 367), some (vI x1), some (vI x2), some (vI x3), some (vI x4), none, none], [vI 200, vI (x3 - x4)], hp S, 0, 0)) rfl ?_
    refine mv_icmp 26 rfl rfl (fun c => ?_) (fun c => ?_)
    · have F := F.1 c
      refine ev_bk 1 (S' := (29, [some (.ref 367), some (vI x1), some (vI x2), some (vI x3), some (vI x4), none, none], [vI 200], hp S, 0, 0)) rfl ?_
      exact F
    · have F := F.2 c
      refine ev_bk 2 (S' := (22, [some (.ref 367), some (vI x1), some (vI x2), some (vI x3), some (vI x4), none, none], [vI x4, vI x3], hp S, 0, 0)) rfl ?_
      refine mv_isub rfl ?_
      refine mv_goto 29 rfl rfl ?_
      exact F
theorem vc_MD_plainOctets_29 {q : Nat × (Nat → Int32)} {S S' : ms} {r : Option Value} (x1 x2 x3 x4 y0 : Int)
    (F : ∃ (S1 : ms), EV q 282 0 [some (.ref 367), some (vI 0)] [] S none S1 ∧ ∃ (S3 : ms), EV q 282 0 [some (.ref 367), some (vI y0)] [] S1 none S3 ∧ EV q 405 45 [some (.ref 367), some (vI x1), some (vI x2), some (vI x3), some (vI x4), some (vI y0), some (vI 0)] [] S3 r S') : EV q 405 29 [some (.ref 367), some (vI x1), some (vI x2), some (vI x3), some (vI x4), none, none] [vI y0] S r S' := by
  unfold EV
  refine ev_bk 3 (S' := (33, [some (.ref 367), some (vI x1), some (vI x2), some (vI x3), some (vI x4), some (vI y0), none], [vI 0, .ref 367], hp S, 0, 0)) rfl ?_
  obtain ⟨S1, e2, F⟩ := F
  refine mv_calv (as := [vI 0]) (rest := []) e2 (sh_367) rfl rfl rfl ⟨rfl, rfl⟩ rfl rfl rfl rfl rfl ?_
  refine ev_bk 2 (S' := (39, [some (.ref 367), some (vI x1), some (vI x2), some (vI x3), some (vI x4), some (vI y0), none], [vI y0, .ref 367], hp S1, 0, 0)) rfl ?_
  obtain ⟨S3, e4, F⟩ := F
  refine mv_calv (as := [vI y0]) (rest := []) e4 (sh_367) rfl rfl rfl ⟨rfl, rfl⟩ rfl rfl rfl rfl rfl ?_
  refine ev_bk 2 (S' := (45, [some (.ref 367), some (vI x1), some (vI x2), some (vI x3), some (vI x4), some (vI y0), some (vI 0)], [], hp S3, 0, 0)) rfl ?_
  exact F
theorem vc_MD_plainOctets_45 {q : Nat × (Nat → Int32)} {S S' : ms} {r : Option Value} (x1 x2 x3 x4 x5 x6 : Int)
    (F : ((w32 x5 ≤ w32 x6) → EV q 405 3 [some (.ref 367), some (vI x1), some (vI x2), some (vI x3), some (vI (x4 + x5)), none, none] [] S r S') ∧ ((¬ w32 x5 ≤ w32 x6) → (0 ≤ w32 (((12000 * x1) + x4) + x6) ∧ w32 (((12000 * x1) + x4) + x6) < (156000 : Nat)) ∧ ∃ (S2 : ms), EV q 282 0 [some (.ref 367), some (vI (S.1 369 (w32 (((12000 * x1) + x4) + x6))))] [] S none S2 ∧ EV q 405 45 [some (.ref 367), some (vI x1), some (vI x2), some (vI x3), some (vI x4), some (vI x5), some (vI (x6 + 1))] [] S2 r S')) : EV q 405 45 [some (.ref 367), some (vI x1), some (vI x2), some (vI x3), some (vI x4), some (vI x5), some (vI x6)] [] S r S' := by
  unfold EV
  refine ev_bk 2 (S' := (49, [some (.ref 367), some (vI x1), some (vI x2), some (vI x3), some (vI x4), some (vI x5), some (vI x6)], [vI x5, vI x6], hp S, 0, 0)) rfl ?_
  refine mv_icmp 78 rfl rfl (fun c => ?_) (fun c => ?_)
  · have F := F.1 c
    refine ev_bk 2 (S' := (82, [some (.ref 367), some (vI x1), some (vI x2), some (vI x3), some (vI x4), some (vI x5), some (vI x6)], [vI x5, vI x4], hp S, 0, 0)) rfl ?_
    refine mv_iadd rfl ?_
    refine ev_bk 1 (S' := (85, [some (.ref 367), some (vI x1), some (vI x2), some (vI x3), some (vI (x4 + x5)), some (vI x5), some (vI x6)], [], hp S, 0, 0)) rfl ?_
    refine mv_goto 3 rfl rfl ?_
    exact ev_wk (le_s (le_s (le_s (le_s (le_s (le_n (le_n le_0))))))) F
  · have F := F.2 c
    refine ev_bk 2 (S' := (54, [some (.ref 367), some (vI x1), some (vI x2), some (vI x3), some (vI x4), some (vI x5), some (vI x6)], [.ref 367, .ref 367], hp S, 0, 0)) rfl ?_
    refine mv_gfR rfl rfl (sh_367) (by decide) rfl ?_
    refine ev_bk 2 (S' := (61, [some (.ref 367), some (vI x1), some (vI x2), some (vI x3), some (vI x4), some (vI x5), some (vI x6)], [vI x1, vI 12000, .ref 369, .ref 367], hp S, 0, 0)) rfl ?_
    refine mv_imul rfl ?_
    refine ev_bk 1 (S' := (64, [some (.ref 367), some (vI x1), some (vI x2), some (vI x3), some (vI x4), some (vI x5), some (vI x6)], [vI x4, vI (12000 * x1), .ref 369, .ref 367], hp S, 0, 0)) rfl ?_
    refine mv_iadd rfl ?_
    refine ev_bk 1 (S' := (67, [some (.ref 367), some (vI x1), some (vI x2), some (vI x3), some (vI x4), some (vI x5), some (vI x6)], [vI x6, vI ((12000 * x1) + x4), .ref 369, .ref 367], hp S, 0, 0)) rfl ?_
    refine mv_iadd rfl ?_
    obtain ⟨b1, F⟩ := F
    refine mv_bal rfl (sh_369) b1 ?_
    obtain ⟨S2, e3, F⟩ := F
    refine mv_calv (as := [vI (S.1 369 (w32 (((12000 * x1) + x4) + x6)))]) (rest := []) e3 (sh_367) rfl rfl rfl ⟨rfl, rfl⟩ rfl rfl rfl rfl rfl ?_
    refine mv_inc (lv' := [some (.ref 367), some (vI x1), some (vI x2), some (vI x3), some (vI x4), some (vI x5), some (vI (x6 + 1))]) 6 1 rfl rfl rfl rfl ?_
    refine mv_goto 45 rfl rfl ?_
    exact F
theorem vc_MD_apply {q : Nat × (Nat → Int32)} {S S' : ms} {r : Option Value} (x1 : Int)
    (F : ∀ S1 : ms, S1 = wI S 367 0 0 → ∃ (z4 : Int) (S2 : ms), EV q 271 0 [some (.ref 367), some (vI x1)] [] S1 (some (vI z4)) S2 ∧ ((w32 z4 = 0) → ∃ (z7 : Int) (S5 : ms), EV q 277 0 [some (.ref 367), none] [] S2 (some (vI z7)) S5 ∧ ((0 ≤ w32 z7) → ∃ (S8 : ms), EV q 330 0 [some (.ref 367)] [] S5 none S8 ∧ ∃ (z12 : Int) (S10 : ms), EV q 361 0 [some (.ref 367), none, none, none, none] [] S8 (some (vL z12)) S10 ∧ ∃ (z15 : Int) (S13 : ms), EV q 333 0 [some (.ref 367)] [] S10 (some (vI z15)) S13 ∧ ((w32 z15 = 0) → EV q 406 55 [some (.ref 367), some (vI x1), some (vL z12), none, none, none, none, none, none, none, none, none, none] [] S13 r S') ∧ ((¬ w32 z15 = 0) → ((w64 z12 ≤ w64 12000) → EV q 406 55 [some (.ref 367), some (vI x1), some (vL z12), none, none, none, none, none, none, none, none, none, none] [] S13 r S') ∧ ((¬ w64 z12 ≤ w64 12000) → ∃ (S16 : ms), EV q 337 0 [some (.ref 367), some (vI 13)] [] S13 none S16 ∧ EV q 406 55 [some (.ref 367), some (vI x1), some (vL z12), none, none, none, none, none, none, none, none, none, none] [] S16 r S'))) ∧ ((¬ 0 ≤ w32 z7) → r = some (vI ((-4))) ∧ S' = S5)) ∧ ((¬ w32 z4 = 0) → r = some (vI ((-1))) ∧ S' = S2)) : EV q 406 0 [some (.ref 367), some (vI x1), none, none, none, none, none, none, none, none, none, none, none] [] S r S' := by
  unfold EV
  refine ev_bk 2 (S' := (2, [some (.ref 367), some (vI x1), none, none, none, none, none, none, none, none, none, none, none], [vI 0, .ref 367], hp S, 0, 0)) rfl ?_
  refine mv_pfI rfl rfl (sh_367) (by decide) rfl rfl ?_
  have F := F _ rfl
  refine ev_bk 2 (S' := (7, [some (.ref 367), some (vI x1), none, none, none, none, none, none, none, none, none, none, none], [vI x1, .ref 367], hp (wI S 367 0 0), 0, 0)) rfl ?_
  obtain ⟨z4, S2, e3, F⟩ := F
  refine mv_calv (as := [vI x1]) (rest := []) e3 (sh_367) rfl rfl rfl ⟨rfl, rfl⟩ rfl rfl rfl rfl rfl ?_
  refine mv_if 15 rfl rfl (fun c => ?_) (fun c => ?_)
  · have F := F.1 c
    refine ev_bk 1 (S' := (16, [some (.ref 367), some (vI x1), none, none, none, none, none, none, none, none, none, none, none], [.ref 367], hp S2, 0, 0)) rfl ?_
    obtain ⟨z7, S5, e6, F⟩ := F
    refine mv_calv (as := []) (rest := []) e6 (sh_367) rfl rfl rfl ⟨rfl, rfl⟩ rfl rfl rfl rfl rfl ?_
    refine mv_if 25 rfl rfl (fun c => ?_) (fun c => ?_)
    · have F := F.1 c
      refine ev_bk 1 (S' := (26, [some (.ref 367), some (vI x1), none, none, none, none, none, none, none, none, none, none, none], [.ref 367], hp S5, 0, 0)) rfl ?_
      obtain ⟨S8, e9, F⟩ := F
      refine mv_calv (as := []) (rest := []) e9 (sh_367) rfl rfl rfl ⟨rfl, rfl⟩ rfl rfl rfl rfl rfl ?_
      refine ev_bk 1 (S' := (30, [some (.ref 367), some (vI x1), none, none, none, none, none, none, none, none, none, none, none], [.ref 367], hp S8, 0, 0)) rfl ?_
      obtain ⟨z12, S10, e11, F⟩ := F
      refine mv_calv (as := []) (rest := []) e11 (sh_367) rfl rfl rfl ⟨rfl, rfl⟩ rfl rfl rfl rfl rfl ?_
      refine ev_bk 2 (S' := (35, [some (.ref 367), some (vI x1), some (vL z12), none, none, none, none, none, none, none, none, none, none], [.ref 367], hp S10, 0, 0)) rfl ?_
      obtain ⟨z15, S13, e14, F⟩ := F
      refine mv_calv (as := []) (rest := []) e14 (sh_367) rfl rfl rfl ⟨rfl, rfl⟩ rfl rfl rfl rfl rfl ?_
      refine mv_if 55 rfl rfl (fun c => ?_) (fun c => ?_)
      · have F := F.1 c
        exact F
      · have F := F.2 c
        refine ev_bk 2 (S' := (45, [some (.ref 367), some (vI x1), some (vL z12), none, none, none, none, none, none, none, none, none, none], [vL 12000, vL z12], hp S13, 0, 0)) rfl ?_
        refine mv_lif 55 rfl rfl rfl (fun c => ?_) (fun c => ?_)
        · have F := F.1 c
          exact F
        · have F := F.2 c
          refine ev_bk 2 (S' := (52, [some (.ref 367), some (vI x1), some (vL z12), none, none, none, none, none, none, none, none, none, none], [vI 13, .ref 367], hp S13, 0, 0)) rfl ?_
          obtain ⟨S16, e17, F⟩ := F
          refine mv_calv (as := [vI 13]) (rest := []) e17 (sh_367) rfl rfl rfl ⟨rfl, rfl⟩ rfl rfl rfl rfl rfl ?_
          exact F
    · have F := F.2 c
      refine ev_bk 1 (S' := (24, [some (.ref 367), some (vI x1), none, none, none, none, none, none, none, none, none, none, none], [vI ((-4))], hp S5, 0, 0)) rfl ?_
      obtain ⟨rfl, rfl⟩ := F
      exact ev_ret rfl rfl
  · have F := F.2 c
    refine ev_bk 1 (S' := (14, [some (.ref 367), some (vI x1), none, none, none, none, none, none, none, none, none, none, none], [vI ((-1))], hp S2, 0, 0)) rfl ?_
    obtain ⟨rfl, rfl⟩ := F
    exact ev_ret rfl rfl
theorem vc_MD_apply_55 {q : Nat × (Nat → Int32)} {S S' : ms} {r : Option Value} (x1 x2 : Int)
    (F : ∃ (z3 : Int) (S1 : ms), EV q 345 0 [some (.ref 367), some (vI 4), none, none, none] [] S (some (vL z3)) S1 ∧ ∃ (z6 : Int) (S4 : ms), EV q 333 0 [some (.ref 367)] [] S1 (some (vI z6)) S4 ∧ ((w32 z6 = 0) → EV q 406 106 [some (.ref 367), some (vI x1), some (vL x2), none, some (vL z3), none, none, none, none, none, none, none, none] [] S4 r S') ∧ ((¬ w32 z6 = 0) → (0 ≤ w32 x1 ∧ w32 x1 < (13 : Nat)) ∧ ∃ (z10 : Int) (S8 : ms), EV q 264 0 [some (.ref 367), some (.ref 369), some (vI (12000 * x1)), some (vI (S4.1 370 (w32 x1))), none, none] [] S4 (some (vI z10)) S8 ∧ ((w64 z3 = w64 ((w32 z10) % 4294967296)) → EV q 406 106 [some (.ref 367), some (vI x1), some (vL x2), none, some (vL z3), none, none, none, none, none, none, none, none] [] S8 r S') ∧ ((¬ w64 z3 = w64 ((w32 z10) % 4294967296)) → ∃ (S11 : ms), EV q 337 0 [some (.ref 367), some (vI 131)] [] S8 none S11 ∧ EV q 406 106 [some (.ref 367), some (vI x1), some (vL x2), none, some (vL z3), none, none, none, none, none, none, none, none] [] S11 r S'))) : EV q 406 55 [some (.ref 367), some (vI x1), some (vL x2), none, none, none, none, none, none, none, none, none, none] [] S r S' := by
  unfold EV
  refine ev_bk 2 (S' := (57, [some (.ref 367), some (vI x1), some (vL x2), none, none, none, none, none, none, none, none, none, none], [vI 4, .ref 367], hp S, 0, 0)) rfl ?_
  obtain ⟨z3, S1, e2, F⟩ := F
  refine mv_calv (as := [vI 4]) (rest := []) e2 (sh_367) rfl rfl rfl ⟨rfl, rfl⟩ rfl rfl rfl rfl rfl ?_
  refine ev_bk 2 (S' := (63, [some (.ref 367), some (vI x1), some (vL x2), none, some (vL z3), none, none, none, none, none, none, none, none], [.ref 367], hp S1, 0, 0)) rfl ?_
  obtain ⟨z6, S4, e5, F⟩ := F
  refine mv_calv (as := []) (rest := []) e5 (sh_367) rfl rfl rfl ⟨rfl, rfl⟩ rfl rfl rfl rfl rfl ?_
  refine mv_if 106 rfl rfl (fun c => ?_) (fun c => ?_)
  · have F := F.1 c
    exact F
  · have F := F.2 c
    refine ev_bk 3 (S' := (73, [some (.ref 367), some (vI x1), some (vL x2), none, some (vL z3), none, none, none, none, none, none, none, none], [.ref 367, .ref 367, vL z3], hp S4, 0, 0)) rfl ?_
    refine mv_gfR rfl rfl (sh_367) (by decide) rfl ?_
    refine ev_bk 2 (S' := (80, [some (.ref 367), some (vI x1), some (vL x2), none, some (vL z3), none, none, none, none, none, none, none, none], [vI x1, vI 12000, .ref 369, .ref 367, vL z3], hp S4, 0, 0)) rfl ?_
    refine mv_imul rfl ?_
    refine ev_bk 1 (S' := (82, [some (.ref 367), some (vI x1), some (vL x2), none, some (vL z3), none, none, none, none, none, none, none, none], [.ref 367, vI (12000 * x1), .ref 369, .ref 367, vL z3], hp S4, 0, 0)) rfl ?_
    refine mv_gfR rfl rfl (sh_367) (by decide) rfl ?_
    refine ev_bk 1 (S' := (86, [some (.ref 367), some (vI x1), some (vL x2), none, some (vL z3), none, none, none, none, none, none, none, none], [vI x1, .ref 370, vI (12000 * x1), .ref 369, .ref 367, vL z3], hp S4, 0, 0)) rfl ?_
    obtain ⟨b7, F⟩ := F
    refine mv_ial rfl (sh_370) b7 ?_
    obtain ⟨z10, S8, e9, F⟩ := F
    refine mv_calv (as := [.ref 369, vI (12000 * x1), vI (S4.1 370 (w32 x1))]) (rest := [vL z3]) e9 (sh_367) rfl rfl rfl ⟨rfl, rfl⟩ rfl rfl rfl rfl rfl ?_
    refine mv_i2l rfl ?_
    refine ev_bk 1 (S' := (94, [some (.ref 367), some (vI x1), some (vL x2), none, some (vL z3), none, none, none, none, none, none, none, none], [vL 4294967295, vL (w32 z10), vL z3], hp S8, 0, 0)) rfl ?_
    refine mv_landm 4294967296 32 (by decide) rfl rfl rfl ?_
    refine mv_lif 106 rfl rfl rfl (fun c => ?_) (fun c => ?_)
    · have F := F.1 c
      exact F
    · have F := F.2 c
      refine ev_bk 2 (S' := (103, [some (.ref 367), some (vI x1), some (vL x2), none, some (vL z3), none, none, none, none, none, none, none, none], [vI 131, .ref 367], hp S8, 0, 0)) rfl ?_
      obtain ⟨S11, e12, F⟩ := F
      refine mv_calv (as := [vI 131]) (rest := []) e12 (sh_367) rfl rfl rfl ⟨rfl, rfl⟩ rfl rfl rfl rfl rfl ?_
      exact F
theorem vc_MD_apply_106 {q : Nat × (Nat → Int32)} {S S' : ms} {r : Option Value} (x1 x2 x4 : Int)
    (F : ∃ (z3 : Int) (S1 : ms), EV q 333 0 [some (.ref 367)] [] S (some (vI z3)) S1 ∧ ((w32 z3 = 0) → EV q 406 359 [some (.ref 367), some (vI x1), some (vL x2), none, some (vL x4), none, none, none, none, none, none, none, none] [] S1 r S') ∧ ((¬ w32 z3 = 0) → ((w32 (S1.1 367 15) ≤ w32 (S1.1 367 16)) → EV q 406 359 [some (.ref 367), some (vI x1), some (vL x2), none, some (vL x4), none, none, none, none, none, none, none, none] [] S1 r S') ∧ ((¬ w32 (S1.1 367 15) ≤ w32 (S1.1 367 16)) → ∃ (z6 : Int) (S4 : ms), EV q 334 0 [some (.ref 367)] [] S1 (some (vI z6)) S4 ∧ ((w32 z6 ≤ 1) → ((¬ w32 z6 = 1) → ∃ (z9 : Int) (S7 : ms), EV q 334 0 [some (.ref 367)] [] S4 (some (vI z9)) S7 ∧ EV q 406 164 [some (.ref 367), some (vI x1), some (vL x2), none, some (vL x4), none, some (vI z6), none, none, none, none, none, none] [vL (w32 z9)] S7 r S') ∧ ((¬ (¬ w32 z6 = 1)) → ∃ (z12 : Int) (S10 : ms), EV q 361 0 [some (.ref 367), none, none, none, none] [] S4 (some (vL z12)) S10 ∧ EV q 406 164 [some (.ref 367), some (vI x1), some (vL x2), none, some (vL x4), none, some (vI z6), none, none, none, none, none, none] [vL z12] S10 r S')) ∧ ((¬ w32 z6 ≤ 1) → ∃ (S13 : ms), EV q 337 0 [some (.ref 367), some (vI 132)] [] S4 none S13 ∧ EV q 406 359 [some (.ref 367), some (vI x1), some (vL x2), none, some (vL x4), none, none, none, none, none, none, none, none] [] S13 r S')))) : EV q 406 106 [some (.ref 367), some (vI x1), some (vL x2), none, some (vL x4), none, none, none, none, none, none, none, none] [] S r S' := by
  unfold EV
  refine ev_bk 1 (S' := (107, [some (.ref 367), some (vI x1), some (vL x2), none, some (vL x4), none, none, none, none, none, none, none, none], [.ref 367], hp S, 0, 0)) rfl ?_
  obtain ⟨z3, S1, e2, F⟩ := F
  refine mv_calv (as := []) (rest := []) e2 (sh_367) rfl rfl rfl ⟨rfl, rfl⟩ rfl rfl rfl rfl rfl ?_
  refine mv_if 359 rfl rfl (fun c => ?_) (fun c => ?_)
  · have F := F.1 c
    exact F
  · have F := F.2 c
    refine ev_bk 1 (S' := (114, [some (.ref 367), some (vI x1), some (vL x2), none, some (vL x4), none, none, none, none, none, none, none, none], [.ref 367], hp S1, 0, 0)) rfl ?_
    refine mv_gfI rfl rfl (sh_367) (by decide) rfl ?_
    refine ev_bk 1 (S' := (118, [some (.ref 367), some (vI x1), some (vL x2), none, some (vL x4), none, none, none, none, none, none, none, none], [.ref 367, vI (S1.1 367 16)], hp S1, 0, 0)) rfl ?_
    refine mv_gfI rfl rfl (sh_367) (by decide) rfl ?_
    refine mv_icmp 359 rfl rfl (fun c => ?_) (fun c => ?_)
    · have F := F.1 c
      exact F
    · have F := F.2 c
      refine ev_bk 1 (S' := (125, [some (.ref 367), some (vI x1), some (vL x2), none, some (vL x4), none, none, none, none, none, none, none, none], [.ref 367], hp S1, 0, 0)) rfl ?_
      obtain ⟨z6, S4, e5, F⟩ := F
      refine mv_calv (as := []) (rest := []) e5 (sh_367) rfl rfl rfl ⟨rfl, rfl⟩ rfl rfl rfl rfl rfl ?_
      refine ev_bk 3 (S' := (133, [some (.ref 367), some (vI x1), some (vL x2), none, some (vL x4), none, some (vI z6), none, none, none, none, none, none], [vI 1, vI z6], hp S4, 0, 0)) rfl ?_
      refine mv_icmp 146 rfl rfl (fun c => ?_) (fun c => ?_)
      · have F := F.1 c
        refine ev_bk 2 (S' := (149, [some (.ref 367), some (vI x1), some (vL x2), none, some (vL x4), none, some (vI z6), none, none, none, none, none, none], [vI 1, vI z6], hp S4, 0, 0)) rfl ?_
        refine mv_icmp 159 rfl rfl (fun c => ?_) (fun c => ?_)
        · have F := F.1 c
          refine ev_bk 1 (S' := (160, [some (.ref 367), some (vI x1), some (vL x2), none, some (vL x4), none, some (vI z6), none, none, none, none, none, none], [.ref 367], hp S4, 0, 0)) rfl ?_
          obtain ⟨z9, S7, e8, F⟩ := F
          refine mv_calv (as := []) (rest := []) e8 (sh_367) rfl rfl rfl ⟨rfl, rfl⟩ rfl rfl rfl rfl rfl ?_
          refine mv_i2l rfl ?_
          exact F
        · have F := F.2 c
          refine ev_bk 1 (S' := (153, [some (.ref 367), some (vI x1), some (vL x2), none, some (vL x4), none, some (vI z6), none, none, none, none, none, none], [.ref 367], hp S4, 0, 0)) rfl ?_
          obtain ⟨z12, S10, e11, F⟩ := F
          refine mv_calv (as := []) (rest := []) e11 (sh_367) rfl rfl rfl ⟨rfl, rfl⟩ rfl rfl rfl rfl rfl ?_
          refine mv_goto 164 rfl rfl ?_
          exact F
      · have F := F.2 c
        refine ev_bk 2 (S' := (140, [some (.ref 367), some (vI x1), some (vL x2), none, some (vL x4), none, some (vI z6), none, none, none, none, none, none], [vI 132, .ref 367], hp S4, 0, 0)) rfl ?_
        obtain ⟨S13, e14, F⟩ := F
        refine mv_calv (as := [vI 132]) (rest := []) e14 (sh_367) rfl rfl rfl ⟨rfl, rfl⟩ rfl rfl rfl rfl rfl ?_
        refine mv_goto 359 rfl rfl ?_
        exact ev_wk (le_s (le_s (le_s (le_s (le_s (le_s (le_n (le_s (le_s (le_s (le_s (le_s (le_s le_0))))))))))))) F
theorem vc_MD_apply_164 {q : Nat × (Nat → Int32)} {S S' : ms} {r : Option Value} (x1 x2 x4 x6 y0 : Int)
    (F : ∃ (z3 : Int) (S1 : ms), EV q 333 0 [some (.ref 367)] [] S (some (vI z3)) S1 ∧ ((w32 z3 = 0) → EV q 406 187 [some (.ref 367), some (vI x1), some (vL x2), none, some (vL x4), none, some (vI x6), some (vL y0), none, none, none, none, none] [] S1 r S') ∧ ((¬ w32 z3 = 0) → ((¬ w64 y0 = w64 0) → EV q 406 187 [some (.ref 367), some (vI x1), some (vL x2), none, some (vL x4), none, some (vI x6), some (vL y0), none, none, none, none, none] [] S1 r S') ∧ ((¬ (¬ w64 y0 = w64 0)) → ∃ (S4 : ms), EV q 337 0 [some (.ref 367), some (vI 133)] [] S1 none S4 ∧ EV q 406 187 [some (.ref 367), some (vI x1), some (vL x2), none, some (vL x4), none, some (vI x6), some (vL y0), none, none, none, none, none] [] S4 r S'))) : EV q 406 164 [some (.ref 367), some (vI x1), some (vL x2), none, some (vL x4), none, some (vI x6), none, none, none, none, none, none] [vL y0] S r S' := by
  unfold EV
  refine ev_bk 2 (S' := (167, [some (.ref 367), some (vI x1), some (vL x2), none, some (vL x4), none, some (vI x6), some (vL y0), none, none, none, none, none], [.ref 367], hp S, 0, 0)) rfl ?_
  obtain ⟨z3, S1, e2, F⟩ := F
  refine mv_calv (as := []) (rest := []) e2 (sh_367) rfl rfl rfl ⟨rfl, rfl⟩ rfl rfl rfl rfl rfl ?_
  refine mv_if 187 rfl rfl (fun c => ?_) (fun c => ?_)
  · have F := F.1 c
    exact F
  · have F := F.2 c
    refine ev_bk 2 (S' := (176, [some (.ref 367), some (vI x1), some (vL x2), none, some (vL x4), none, some (vI x6), some (vL y0), none, none, none, none, none], [vL 0, vL y0], hp S1, 0, 0)) rfl ?_
    refine mv_lif 187 rfl rfl rfl (fun c => ?_) (fun c => ?_)
    · have F := F.1 c
      exact F
    · have F := F.2 c
      refine ev_bk 2 (S' := (184, [some (.ref 367), some (vI x1), some (vL x2), none, some (vL x4), none, some (vI x6), some (vL y0), none, none, none, none, none], [vI 133, .ref 367], hp S1, 0, 0)) rfl ?_
      obtain ⟨S4, e5, F⟩ := F
      refine mv_calv (as := [vI 133]) (rest := []) e5 (sh_367) rfl rfl rfl ⟨rfl, rfl⟩ rfl rfl rfl rfl rfl ?_
      exact F
theorem vc_MD_apply_187 {q : Nat × (Nat → Int32)} {S S' : ms} {r : Option Value} (x1 x2 x4 x6 x7 : Int)
    (F : ∃ (z3 : Int) (S1 : ms), EV q 333 0 [some (.ref 367)] [] S (some (vI z3)) S1 ∧ ((w32 z3 = 0) → EV q 406 214 [some (.ref 367), some (vI x1), some (vL x2), none, some (vL x4), none, some (vI x6), some (vL x7), none, none, none, none, none] [] S1 r S') ∧ ((¬ w32 z3 = 0) → ((w64 x7 ≤ w64 (x2 - (w32 (S1.1 367 22)))) → EV q 406 214 [some (.ref 367), some (vI x1), some (vL x2), none, some (vL x4), none, some (vI x6), some (vL x7), none, none, none, none, none] [] S1 r S') ∧ ((¬ w64 x7 ≤ w64 (x2 - (w32 (S1.1 367 22)))) → ∃ (S4 : ms), EV q 337 0 [some (.ref 367), some (vI 134)] [] S1 none S4 ∧ EV q 406 214 [some (.ref 367), some (vI x1), some (vL x2), none, some (vL x4), none, some (vI x6), some (vL x7), none, none, none, none, none] [] S4 r S'))) : EV q 406 187 [some (.ref 367), some (vI x1), some (vL x2), none, some (vL x4), none, some (vI x6), some (vL x7), none, none, none, none, none] [] S r S' := by
  unfold EV
  refine ev_bk 1 (S' := (188, [some (.ref 367), some (vI x1), some (vL x2), none, some (vL x4), none, some (vI x6), some (vL x7), none, none, none, none, none], [.ref 367], hp S, 0, 0)) rfl ?_
  obtain ⟨z3, S1, e2, F⟩ := F
  refine mv_calv (as := []) (rest := []) e2 (sh_367) rfl rfl rfl ⟨rfl, rfl⟩ rfl rfl rfl rfl rfl ?_
  refine mv_if 214 rfl rfl (fun c => ?_) (fun c => ?_)
  · have F := F.1 c
    exact F
  · have F := F.2 c
    refine ev_bk 3 (S' := (198, [some (.ref 367), some (vI x1), some (vL x2), none, some (vL x4), none, some (vI x6), some (vL x7), none, none, none, none, none], [.ref 367, vL x2, vL x7], hp S1, 0, 0)) rfl ?_
    refine mv_gfI rfl rfl (sh_367) (by decide) rfl ?_
    refine mv_i2l rfl ?_
    refine mv_lsub rfl ?_
    refine mv_lif 214 rfl rfl rfl (fun c => ?_) (fun c => ?_)
    · have F := F.1 c
      exact F
    · have F := F.2 c
      refine ev_bk 2 (S' := (211, [some (.ref 367), some (vI x1), some (vL x2), none, some (vL x4), none, some (vI x6), some (vL x7), none, none, none, none, none], [vI 134, .ref 367], hp S1, 0, 0)) rfl ?_
      obtain ⟨S4, e5, F⟩ := F
      refine mv_calv (as := [vI 134]) (rest := []) e5 (sh_367) rfl rfl rfl ⟨rfl, rfl⟩ rfl rfl rfl rfl rfl ?_
      exact F
theorem vc_MD_apply_214 {q : Nat × (Nat → Int32)} {S S' : ms} {r : Option Value} (x1 x2 x4 x6 x7 : Int)
    (F : ((¬ w32 x6 = 0) → ∃ (z3 : Int) (S1 : ms), EV q 333 0 [some (.ref 367)] [] S (some (vI z3)) S1 ∧ ((w32 z3 = 0) → EV q 406 276 [some (.ref 367), some (vI x1), some (vL x2), none, some (vL x4), none, some (vI x6), some (vL x7), none, none, none, none, none] [vL 0] S1 r S') ∧ ((¬ w32 z3 = 0) → ∃ (z6 : Int) (S4 : ms), EV q 361 0 [some (.ref 367), none, none, none, none] [] S1 (some (vL z6)) S4 ∧ EV q 406 276 [some (.ref 367), some (vI x1), some (vL x2), none, some (vL x4), none, some (vI x6), some (vL x7), none, none, none, none, none] [vL z6] S4 r S')) ∧ ((¬ (¬ w32 x6 = 0)) → EV q 406 222 [some (.ref 367), some (vI x1), some (vL x2), none, some (vL x4), none, some (vI x6), some (vL x7), none, some (vL 0), none, none, none] [] S r S')) : EV q 406 214 [some (.ref 367), some (vI x1), some (vL x2), none, some (vL x4), none, some (vI x6), some (vL x7), none, none, none, none, none] [] S r S' := by
  unfold EV
  refine ev_bk 1 (S' := (216, [some (.ref 367), some (vI x1), some (vL x2), none, some (vL x4), none, some (vI x6), some (vL x7), none, none, none, none, none], [vI x6], hp S, 0, 0)) rfl ?_
  refine mv_if 261 rfl rfl (fun c => ?_) (fun c => ?_)
  · have F := F.1 c
    refine ev_bk 1 (S' := (262, [some (.ref 367), some (vI x1), some (vL x2), none, some (vL x4), none, some (vI x6), some (vL x7), none, none, none, none, none], [.ref 367], hp S, 0, 0)) rfl ?_
    obtain ⟨z3, S1, e2, F⟩ := F
    refine mv_calv (as := []) (rest := []) e2 (sh_367) rfl rfl rfl ⟨rfl, rfl⟩ rfl rfl rfl rfl rfl ?_
    refine mv_if 275 rfl rfl (fun c => ?_) (fun c => ?_)
    · have F := F.1 c
      refine ev_bk 1 (S' := (276, [some (.ref 367), some (vI x1), some (vL x2), none, some (vL x4), none, some (vI x6), some (vL x7), none, none, none, none, none], [vL 0], hp S1, 0, 0)) rfl ?_
      exact F
    · have F := F.2 c
      refine ev_bk 1 (S' := (269, [some (.ref 367), some (vI x1), some (vL x2), none, some (vL x4), none, some (vI x6), some (vL x7), none, none, none, none, none], [.ref 367], hp S1, 0, 0)) rfl ?_
      obtain ⟨z6, S4, e5, F⟩ := F
      refine mv_calv (as := []) (rest := []) e5 (sh_367) rfl rfl rfl ⟨rfl, rfl⟩ rfl rfl rfl rfl rfl ?_
      refine mv_goto 276 rfl rfl ?_
      exact F
  · have F := F.2 c
    refine ev_bk 2 (S' := (222, [some (.ref 367), some (vI x1), some (vL x2), none, some (vL x4), none, some (vI x6), some (vL x7), none, some (vL 0), none, none, none], [], hp S, 0, 0)) rfl ?_
    exact F
theorem vc_MD_apply_222 {q : Nat × (Nat → Int32)} {S S' : ms} {r : Option Value} (x1 x2 x4 x6 x7 x9 : Int)
    (F : ((w64 x7 ≤ w64 x9) → EV q 406 258 [some (.ref 367), some (vI x1), some (vL x2), none, some (vL x4), none, some (vI x6), some (vL x7), none, some (vL x9), none, none, none] [] S r S') ∧ ((¬ w64 x7 ≤ w64 x9) → ∃ (z3 : Int) (S1 : ms), EV q 333 0 [some (.ref 367)] [] S (some (vI z3)) S1 ∧ ((w32 z3 = 0) → EV q 406 258 [some (.ref 367), some (vI x1), some (vL x2), none, some (vL x4), none, some (vI x6), some (vL x7), none, some (vL x9), none, none, none] [] S1 r S') ∧ ((¬ w32 z3 = 0) → ∃ (z6 : Int) (S4 : ms), EV q 334 0 [some (.ref 367)] [] S1 (some (vI z6)) S4 ∧ ∃ (S7 : ms), EV q 336 0 [some (.ref 367), some (vI z6)] [] S4 none S7 ∧ EV q 406 222 [some (.ref 367), some (vI x1), some (vL x2), none, some (vL x4), none, some (vI x6), some (vL x7), none, some (vL (x9 + 1)), none, none, none] [] S7 r S'))) : EV q 406 222 [some (.ref 367), some (vI x1), some (vL x2), none, some (vL x4), none, some (vI x6), some (vL x7), none, some (vL x9), none, none, none] [] S r S' := by
  unfold EV
  refine ev_bk 2 (S' := (226, [some (.ref 367), some (vI x1), some (vL x2), none, some (vL x4), none, some (vI x6), some (vL x7), none, some (vL x9), none, none, none], [vL x7, vL x9], hp S, 0, 0)) rfl ?_
  refine mv_lif 258 rfl rfl rfl (fun c => ?_) (fun c => ?_)
  · have F := F.1 c
    exact F
  · have F := F.2 c
    refine ev_bk 1 (S' := (231, [some (.ref 367), some (vI x1), some (vL x2), none, some (vL x4), none, some (vI x6), some (vL x7), none, some (vL x9), none, none, none], [.ref 367], hp S, 0, 0)) rfl ?_
    obtain ⟨z3, S1, e2, F⟩ := F
    refine mv_calv (as := []) (rest := []) e2 (sh_367) rfl rfl rfl ⟨rfl, rfl⟩ rfl rfl rfl rfl rfl ?_
    refine mv_if 258 rfl rfl (fun c => ?_) (fun c => ?_)
    · have F := F.1 c
      exact F
    · have F := F.2 c
      refine ev_bk 1 (S' := (238, [some (.ref 367), some (vI x1), some (vL x2), none, some (vL x4), none, some (vI x6), some (vL x7), none, some (vL x9), none, none, none], [.ref 367], hp S1, 0, 0)) rfl ?_
      obtain ⟨z6, S4, e5, F⟩ := F
      refine mv_calv (as := []) (rest := []) e5 (sh_367) rfl rfl rfl ⟨rfl, rfl⟩ rfl rfl rfl rfl rfl ?_
      refine ev_bk 3 (S' := (246, [some (.ref 367), some (vI x1), some (vL x2), none, some (vL x4), none, some (vI x6), some (vL x7), none, some (vL x9), none, some (vI z6), none], [vI z6, .ref 367], hp S4, 0, 0)) rfl ?_
      obtain ⟨S7, e8, F⟩ := F
      refine mv_calv (as := [vI z6]) (rest := []) e8 (sh_367) rfl rfl rfl ⟨rfl, rfl⟩ rfl rfl rfl rfl rfl ?_
      refine ev_bk 2 (S' := (252, [some (.ref 367), some (vI x1), some (vL x2), none, some (vL x4), none, some (vI x6), some (vL x7), none, some (vL x9), none, some (vI z6), none], [vL 1, vL x9], hp S7, 0, 0)) rfl ?_
      refine mv_ladd rfl ?_
      refine ev_bk 1 (S' := (255, [some (.ref 367), some (vI x1), some (vL x2), none, some (vL x4), none, some (vI x6), some (vL x7), none, some (vL (x9 + 1)), none, some (vI z6), none], [], hp S7, 0, 0)) rfl ?_
      refine mv_goto 222 rfl rfl ?_
      exact ev_wk (le_s (le_s (le_s (le_s (le_s (le_s (le_s (le_s (le_s (le_s (le_s (le_n (le_s le_0))))))))))))) F
theorem vc_MD_apply_258 {q : Nat × (Nat → Int32)} {S S' : ms} {r : Option Value} (x1 x2 x4 x6 x7 x9 : Int)
    (F : EV q 406 106 [some (.ref 367), some (vI x1), some (vL x2), none, some (vL x4), none, none, none, none, none, none, none, none] [] S r S') : EV q 406 258 [some (.ref 367), some (vI x1), some (vL x2), none, some (vL x4), none, some (vI x6), some (vL x7), none, some (vL x9), none, none, none] [] S r S' := by
  unfold EV
  refine mv_goto 106 rfl rfl ?_
  exact ev_wk (le_s (le_s (le_s (le_s (le_s (le_s (le_n (le_n (le_s (le_n (le_s (le_s (le_s le_0))))))))))))) F
theorem vc_MD_apply_276 {q : Nat × (Nat → Int32)} {S S' : ms} {r : Option Value} (x1 x2 x4 x6 x7 y0 : Int)
    (F : ∃ (z3 : Int) (S1 : ms), EV q 333 0 [some (.ref 367)] [] S (some (vI z3)) S1 ∧ ((w32 z3 = 0) → EV q 406 308 [some (.ref 367), some (vI x1), some (vL x2), none, some (vL x4), none, some (vI x6), some (vL x7), none, some (vL y0), none, none, none] [] S1 r S') ∧ ((¬ w32 z3 = 0) → (0 ≤ w32 x1 ∧ w32 x1 < (13 : Nat)) ∧ ((w64 (y0 + x7) ≤ w64 (w32 (S1.1 370 (w32 x1)))) → EV q 406 308 [some (.ref 367), some (vI x1), some (vL x2), none, some (vL x4), none, some (vI x6), some (vL x7), none, some (vL y0), none, none, none] [] S1 r S') ∧ ((¬ w64 (y0 + x7) ≤ w64 (w32 (S1.1 370 (w32 x1)))) → ∃ (S5 : ms), EV q 337 0 [some (.ref 367), some (vI 133)] [] S1 none S5 ∧ EV q 406 308 [some (.ref 367), some (vI x1), some (vL x2), none, some (vL x4), none, some (vI x6), some (vL x7), none, some (vL y0), none, none, none] [] S5 r S'))) : EV q 406 276 [some (.ref 367), some (vI x1), some (vL x2), none, some (vL x4), none, some (vI x6), some (vL x7), none, none, none, none, none] [vL y0] S r S' := by
  unfold EV
  refine ev_bk 2 (S' := (279, [some (.ref 367), some (vI x1), some (vL x2), none, some (vL x4), none, some (vI x6), some (vL x7), none, some (vL y0), none, none, none], [.ref 367], hp S, 0, 0)) rfl ?_
  obtain ⟨z3, S1, e2, F⟩ := F
  refine mv_calv (as := []) (rest := []) e2 (sh_367) rfl rfl rfl ⟨rfl, rfl⟩ rfl rfl rfl rfl rfl ?_
  refine mv_if 308 rfl rfl (fun c => ?_) (fun c => ?_)
  · have F := F.1 c
    exact F
  · have F := F.2 c
    refine ev_bk 2 (S' := (289, [some (.ref 367), some (vI x1), some (vL x2), none, some (vL x4), none, some (vI x6), some (vL x7), none, some (vL y0), none, none, none], [vL x7, vL y0], hp S1, 0, 0)) rfl ?_
    refine mv_ladd rfl ?_
    refine ev_bk 1 (S' := (291, [some (.ref 367), some (vI x1), some (vL x2), none, some (vL x4), none, some (vI x6), some (vL x7), none, some (vL y0), none, none, none], [.ref 367, vL (y0 + x7)], hp S1, 0, 0)) rfl ?_
    refine mv_gfR rfl rfl (sh_367) (by decide) rfl ?_
    refine ev_bk 1 (S' := (295, [some (.ref 367), some (vI x1), some (vL x2), none, some (vL x4), none, some (vI x6), some (vL x7), none, some (vL y0), none, none, none], [vI x1, .ref 370, vL (y0 + x7)], hp S1, 0, 0)) rfl ?_
    obtain ⟨b4, F⟩ := F
    refine mv_ial rfl (sh_370) b4 ?_
    refine mv_i2l rfl ?_
    refine mv_lif 308 rfl rfl rfl (fun c => ?_) (fun c => ?_)
    · have F := F.1 c
      exact F
    · have F := F.2 c
      refine ev_bk 2 (S' := (305, [some (.ref 367), some (vI x1), some (vL x2), none, some (vL x4), none, some (vI x6), some (vL x7), none, some (vL y0), none, none, none], [vI 133, .ref 367], hp S1, 0, 0)) rfl ?_
      obtain ⟨S5, e6, F⟩ := F
      refine mv_calv (as := [vI 133]) (rest := []) e6 (sh_367) rfl rfl rfl ⟨rfl, rfl⟩ rfl rfl rfl rfl rfl ?_
      exact F
theorem vc_MD_apply_308 {q : Nat × (Nat → Int32)} {S S' : ms} {r : Option Value} (x1 x2 x4 x6 x7 x9 : Int)
    (F : EV q 406 311 [some (.ref 367), some (vI x1), some (vL x2), none, some (vL x4), none, some (vI x6), some (vL x7), none, some (vL x9), none, some (vL 0), none] [] S r S') : EV q 406 308 [some (.ref 367), some (vI x1), some (vL x2), none, some (vL x4), none, some (vI x6), some (vL x7), none, some (vL x9), none, none, none] [] S r S' := by
  unfold EV
  refine ev_bk 2 (S' := (311, [some (.ref 367), some (vI x1), some (vL x2), none, some (vL x4), none, some (vI x6), some (vL x7), none, some (vL x9), none, some (vL 0), none], [], hp S, 0, 0)) rfl ?_
  exact F
theorem vc_MD_apply_311 {q : Nat × (Nat → Int32)} {S S' : ms} {r : Option Value} (x1 x2 x4 x6 x7 x9 x11 : Int)
    (F : ((w64 x7 ≤ w64 x11) → EV q 406 356 [some (.ref 367), some (vI x1), some (vL x2), none, some (vL x4), none, some (vI x6), some (vL x7), none, some (vL x9), none, some (vL x11), none] [] S r S') ∧ ((¬ w64 x7 ≤ w64 x11) → ∃ (z3 : Int) (S1 : ms), EV q 333 0 [some (.ref 367)] [] S (some (vI z3)) S1 ∧ ((w32 z3 = 0) → EV q 406 356 [some (.ref 367), some (vI x1), some (vL x2), none, some (vL x4), none, some (vI x6), some (vL x7), none, some (vL x9), none, some (vL x11), none] [] S1 r S') ∧ ((¬ w32 z3 = 0) → (0 ≤ w32 ((12000 * x1) + (x9 + x11)) ∧ w32 ((12000 * x1) + (x9 + x11)) < (156000 : Nat)) ∧ ∃ (S5 : ms), EV q 336 0 [some (.ref 367), some (vI (S1.1 369 (w32 ((12000 * x1) + (x9 + x11)))))] [] S1 none S5 ∧ EV q 406 311 [some (.ref 367), some (vI x1), some (vL x2), none, some (vL x4), none, some (vI x6), some (vL x7), none, some (vL x9), none, some (vL (x11 + 1)), none] [] S5 r S'))) : EV q 406 311 [some (.ref 367), some (vI x1), some (vL x2), none, some (vL x4), none, some (vI x6), some (vL x7), none, some (vL x9), none, some (vL x11), none] [] S r S' := by
  unfold EV
  refine ev_bk 2 (S' := (315, [some (.ref 367), some (vI x1), some (vL x2), none, some (vL x4), none, some (vI x6), some (vL x7), none, some (vL x9), none, some (vL x11), none], [vL x7, vL x11], hp S, 0, 0)) rfl ?_
  refine mv_lif 356 rfl rfl rfl (fun c => ?_) (fun c => ?_)
  · have F := F.1 c
    exact F
  · have F := F.2 c
    refine ev_bk 1 (S' := (320, [some (.ref 367), some (vI x1), some (vL x2), none, some (vL x4), none, some (vI x6), some (vL x7), none, some (vL x9), none, some (vL x11), none], [.ref 367], hp S, 0, 0)) rfl ?_
    obtain ⟨z3, S1, e2, F⟩ := F
    refine mv_calv (as := []) (rest := []) e2 (sh_367) rfl rfl rfl ⟨rfl, rfl⟩ rfl rfl rfl rfl rfl ?_
    refine mv_if 356 rfl rfl (fun c => ?_) (fun c => ?_)
    · have F := F.1 c
      exact F
    · have F := F.2 c
      refine ev_bk 2 (S' := (328, [some (.ref 367), some (vI x1), some (vL x2), none, some (vL x4), none, some (vI x6), some (vL x7), none, some (vL x9), none, some (vL x11), none], [.ref 367, .ref 367], hp S1, 0, 0)) rfl ?_
      refine mv_gfR rfl rfl (sh_367) (by decide) rfl ?_
      refine ev_bk 2 (S' := (335, [some (.ref 367), some (vI x1), some (vL x2), none, some (vL x4), none, some (vI x6), some (vL x7), none, some (vL x9), none, some (vL x11), none], [vI x1, vI 12000, .ref 369, .ref 367], hp S1, 0, 0)) rfl ?_
      refine mv_imul rfl ?_
      refine ev_bk 2 (S' := (340, [some (.ref 367), some (vI x1), some (vL x2), none, some (vL x4), none, some (vI x6), some (vL x7), none, some (vL x9), none, some (vL x11), none], [vL x11, vL x9, vI (12000 * x1), .ref 369, .ref 367], hp S1, 0, 0)) rfl ?_
      refine mv_ladd rfl ?_
      refine mv_l2i rfl ?_
      refine mv_iadd rfl ?_
      obtain ⟨b4, F⟩ := F
      refine mv_bal rfl (sh_369) b4 ?_
      obtain ⟨S5, e6, F⟩ := F
      refine mv_calv (as := [vI (S1.1 369 (w32 ((12000 * x1) + (x9 + x11))))]) (rest := []) e6 (sh_367) rfl rfl rfl ⟨rfl, rfl⟩ rfl rfl rfl rfl rfl ?_
      refine ev_bk 2 (S' := (350, [some (.ref 367), some (vI x1), some (vL x2), none, some (vL x4), none, some (vI x6), some (vL x7), none, some (vL x9), none, some (vL x11), none], [vL 1, vL x11], hp S5, 0, 0)) rfl ?_
      refine mv_ladd rfl ?_
      refine ev_bk 1 (S' := (353, [some (.ref 367), some (vI x1), some (vL x2), none, some (vL x4), none, some (vI x6), some (vL x7), none, some (vL x9), none, some (vL (x11 + 1)), none], [], hp S5, 0, 0)) rfl ?_
      refine mv_goto 311 rfl rfl ?_
      exact F
theorem vc_MD_apply_356 {q : Nat × (Nat → Int32)} {S S' : ms} {r : Option Value} (x1 x2 x4 x6 x7 x9 x11 : Int)
    (F : EV q 406 106 [some (.ref 367), some (vI x1), some (vL x2), none, some (vL x4), none, none, none, none, none, none, none, none] [] S r S') : EV q 406 356 [some (.ref 367), some (vI x1), some (vL x2), none, some (vL x4), none, some (vI x6), some (vL x7), none, some (vL x9), none, some (vL x11), none] [] S r S' := by
  unfold EV
  refine mv_goto 106 rfl rfl ?_
  exact ev_wk (le_s (le_s (le_s (le_s (le_s (le_s (le_n (le_n (le_s (le_n (le_s (le_n (le_s le_0))))))))))))) F
theorem vc_MD_apply_359 {q : Nat × (Nat → Int32)} {S S' : ms} {r : Option Value} (x1 x2 x4 : Int)
    (F : ∃ (z3 : Int) (S1 : ms), EV q 333 0 [some (.ref 367)] [] S (some (vI z3)) S1 ∧ ((w32 z3 = 0) → EV q 406 387 [some (.ref 367), some (vI x1), some (vL x2), none, some (vL x4), none, none, none, none, none, none, none, none] [] S1 r S') ∧ ((¬ w32 z3 = 0) → ((w64 x2 ≤ w64 (w32 (S1.1 367 22))) → EV q 406 387 [some (.ref 367), some (vI x1), some (vL x2), none, some (vL x4), none, none, none, none, none, none, none, none] [] S1 r S') ∧ ((¬ w64 x2 ≤ w64 (w32 (S1.1 367 22))) → ∃ (S4 : ms), EV q 335 0 [some (.ref 367), some (vI 135), some (vI (S1.1 367 15))] [] S1 none S4 ∧ EV q 406 387 [some (.ref 367), some (vI x1), some (vL x2), none, some (vL x4), none, none, none, none, none, none, none, none] [] S4 r S'))) : EV q 406 359 [some (.ref 367), some (vI x1), some (vL x2), none, some (vL x4), none, none, none, none, none, none, none, none] [] S r S' := by
  unfold EV
  refine ev_bk 1 (S' := (360, [some (.ref 367), some (vI x1), some (vL x2), none, some (vL x4), none, none, none, none, none, none, none, none], [.ref 367], hp S, 0, 0)) rfl ?_
  obtain ⟨z3, S1, e2, F⟩ := F
  refine mv_calv (as := []) (rest := []) e2 (sh_367) rfl rfl rfl ⟨rfl, rfl⟩ rfl rfl rfl rfl rfl ?_
  refine mv_if 387 rfl rfl (fun c => ?_) (fun c => ?_)
  · have F := F.1 c
    exact F
  · have F := F.2 c
    refine ev_bk 1 (S' := (367, [some (.ref 367), some (vI x1), some (vL x2), none, some (vL x4), none, none, none, none, none, none, none, none], [.ref 367], hp S1, 0, 0)) rfl ?_
    refine mv_gfI rfl rfl (sh_367) (by decide) rfl ?_
    refine mv_i2l rfl ?_
    refine ev_bk 1 (S' := (372, [some (.ref 367), some (vI x1), some (vL x2), none, some (vL x4), none, none, none, none, none, none, none, none], [vL x2, vL (w32 (S1.1 367 22))], hp S1, 0, 0)) rfl ?_
    refine mv_lif 387 rfl rfl rfl (fun c => ?_) (fun c => ?_)
    · have F := F.1 c
      exact F
    · have F := F.2 c
      refine ev_bk 3 (S' := (381, [some (.ref 367), some (vI x1), some (vL x2), none, some (vL x4), none, none, none, none, none, none, none, none], [.ref 367, vI 135, .ref 367], hp S1, 0, 0)) rfl ?_
      refine mv_gfI rfl rfl (sh_367) (by decide) rfl ?_
      obtain ⟨S4, e5, F⟩ := F
      refine mv_calv (as := [vI 135, vI (S1.1 367 15)]) (rest := []) e5 (sh_367) rfl rfl rfl ⟨rfl, rfl⟩ rfl rfl rfl rfl rfl ?_
      exact F
theorem vc_MD_apply_387 {q : Nat × (Nat → Int32)} {S S' : ms} {r : Option Value} (x1 x2 x4 : Int)
    (F : ∃ (z3 : Int) (S1 : ms), EV q 368 0 [some (.ref 367), some (vI (S.1 367 22))] [] S (some (vI z3)) S1 ∧ ((w32 (S1.1 367 19) ≤ 0) → ∃ (z6 : Int) (S4 : ms), EV q 328 0 [some (.ref 367), some (.ref 375), some (vI 0), some (vI (S1.1 367 22)), none, none] [] S1 (some (vI z6)) S4 ∧ r = some (vI z6) ∧ S' = S4) ∧ ((¬ w32 (S1.1 367 19) ≤ 0) → r = some (vI z3) ∧ S' = S1)) : EV q 406 387 [some (.ref 367), some (vI x1), some (vL x2), none, some (vL x4), none, none, none, none, none, none, none, none] [] S r S' := by
  unfold EV
  refine ev_bk 2 (S' := (389, [some (.ref 367), some (vI x1), some (vL x2), none, some (vL x4), none, none, none, none, none, none, none, none], [.ref 367, .ref 367], hp S, 0, 0)) rfl ?_
  refine mv_gfI rfl rfl (sh_367) (by decide) rfl ?_
  obtain ⟨z3, S1, e2, F⟩ := F
  refine mv_calv (as := [vI (S.1 367 22)]) (rest := []) e2 (sh_367) rfl rfl rfl ⟨rfl, rfl⟩ rfl rfl rfl rfl rfl ?_
  refine ev_bk 2 (S' := (398, [some (.ref 367), some (vI x1), some (vL x2), none, some (vL x4), none, some (vI z3), none, none, none, none, none, none], [.ref 367], hp S1, 0, 0)) rfl ?_
  refine mv_gfI rfl rfl (sh_367) (by decide) rfl ?_
  refine mv_if 409 rfl rfl (fun c => ?_) (fun c => ?_)
  · have F := F.1 c
    refine ev_bk 2 (S' := (411, [some (.ref 367), some (vI x1), some (vL x2), none, some (vL x4), none, some (vI z3), none, none, none, none, none, none], [.ref 367, .ref 367], hp S1, 0, 0)) rfl ?_
    refine mv_gfR rfl rfl (sh_367) (by decide) rfl ?_
    refine ev_bk 2 (S' := (416, [some (.ref 367), some (vI x1), some (vL x2), none, some (vL x4), none, some (vI z3), none, none, none, none, none, none], [.ref 367, vI 0, .ref 375, .ref 367], hp S1, 0, 0)) rfl ?_
    refine mv_gfI rfl rfl (sh_367) (by decide) rfl ?_
    obtain ⟨z6, S4, e5, F⟩ := F
    refine mv_calv (as := [.ref 375, vI 0, vI (S1.1 367 22)]) (rest := []) e5 (sh_367) rfl rfl rfl ⟨rfl, rfl⟩ rfl rfl rfl rfl rfl ?_
    obtain ⟨rfl, rfl⟩ := F
    exact ev_ret rfl rfl
  · have F := F.2 c
    refine ev_bk 1 (S' := (406, [some (.ref 367), some (vI x1), some (vL x2), none, some (vL x4), none, some (vI z3), none, none, none, none, none, none], [vI z3], hp S1, 0, 0)) rfl ?_
    refine mv_goto 422 rfl rfl ?_
    obtain ⟨rfl, rfl⟩ := F
    exact ev_ret rfl rfl
theorem vc_MD_protect {q : Nat × (Nat → Int32)} {S S' : ms} {r : Option Value} (x1 x2 : Int)
    (F : ∀ S1 : ms, S1 = wI S 367 0 0 → ∃ (z4 : Int) (S2 : ms), EV q 257 0 [some (vI x1), some (vI 1), some (vI 32)] [] S1 (some (vI z4)) S2 ∧ ((w32 z4 = 0) → r = some (vI ((-2))) ∧ S' = S2) ∧ ((¬ w32 z4 = 0) → ∃ (z7 : Int) (S5 : ms), EV q 257 0 [some (vI x2), some (vI 0), some (vI 16)] [] S2 (some (vI z7)) S5 ∧ ((¬ w32 z7 = 0) → ∀ S8 : ms, S8 = wI S5 367 112 x1 → ∀ S9 : ms, S9 = wI S8 367 113 x2 → (¬ w32 x1 = 0) ∧ ∀ S11 : ms, S11 = wI S9 367 114 (Int.tdiv (w32 ((S9.1 367 2 + x1) - 1)) (w32 x1)) → ((1 ≤ w32 (S11.1 367 114)) → EV q 407 69 [some (.ref 367), some (vI x1), some (vI x2), none] [vI (S11.1 367 114), .ref 367] S11 r S') ∧ ((¬ 1 ≤ w32 (S11.1 367 114)) → EV q 407 69 [some (.ref 367), some (vI x1), some (vI x2), none] [vI 1, .ref 367] S11 r S')) ∧ ((¬ (¬ w32 z7 = 0)) → r = some (vI ((-2))) ∧ S' = S5))) : EV q 407 0 [some (.ref 367), some (vI x1), some (vI x2), none] [] S r S' := by
  unfold EV
  refine ev_bk 2 (S' := (2, [some (.ref 367), some (vI x1), some (vI x2), none], [vI 0, .ref 367], hp S, 0, 0)) rfl ?_
  refine mv_pfI rfl rfl (sh_367) (by decide) rfl rfl ?_
  have F := F _ rfl
  refine ev_bk 3 (S' := (9, [some (.ref 367), some (vI x1), some (vI x2), none], [vI 32, vI 1, vI x1], hp (wI S 367 0 0), 0, 0)) rfl ?_
  obtain ⟨z4, S2, e3, F⟩ := F
  refine mv_cals (as := [vI x1, vI 1, vI 32]) (rest := []) e3 rfl rfl rfl ⟨rfl, rfl, rfl⟩ rfl rfl rfl rfl ?_
  refine mv_if 25 rfl rfl (fun c => ?_) (fun c => ?_)
  · have F := F.1 c
    refine ev_bk 1 (S' := (27, [some (.ref 367), some (vI x1), some (vI x2), none], [vI ((-2))], hp S2, 0, 0)) rfl ?_
    obtain ⟨rfl, rfl⟩ := F
    exact ev_ret rfl rfl
  · have F := F.2 c
    refine ev_bk 3 (S' := (19, [some (.ref 367), some (vI x1), some (vI x2), none], [vI 16, vI 0, vI x2], hp S2, 0, 0)) rfl ?_
    obtain ⟨z7, S5, e6, F⟩ := F
    refine mv_cals (as := [vI x2, vI 0, vI 16]) (rest := []) e6 rfl rfl rfl ⟨rfl, rfl, rfl⟩ rfl rfl rfl rfl ?_
    refine mv_if 28 rfl rfl (fun c => ?_) (fun c => ?_)
    · have F := F.1 c
      refine ev_bk 2 (S' := (30, [some (.ref 367), some (vI x1), some (vI x2), none], [vI x1, .ref 367], hp S5, 0, 0)) rfl ?_
      refine mv_pfI rfl rfl (sh_367) (by decide) rfl rfl ?_
      have F := F _ rfl
      refine ev_bk 2 (S' := (35, [some (.ref 367), some (vI x1), some (vI x2), none], [vI x2, .ref 367], hp (wI S5 367 112 x1), 0, 0)) rfl ?_
      refine mv_pfI rfl rfl (sh_367) (by decide) rfl rfl ?_
      have F := F _ rfl
      refine ev_bk 2 (S' := (40, [some (.ref 367), some (vI x1), some (vI x2), none], [.ref 367, .ref 367], hp (wI (wI S5 367 112 x1) 367 113 x2), 0, 0)) rfl ?_
      refine mv_gfI rfl rfl (sh_367) (by decide) rfl ?_
      refine ev_bk 1 (S' := (44, [some (.ref 367), some (vI x1), some (vI x2), none], [vI x1, vI ((wI (wI S5 367 112 x1) 367 113 x2).1 367 2), .ref 367], hp (wI (wI S5 367 112 x1) 367 113 x2), 0, 0)) rfl ?_
      refine mv_iadd rfl ?_
      refine ev_bk 1 (S' := (46, [some (.ref 367), some (vI x1), some (vI x2), none], [vI 1, vI ((wI (wI S5 367 112 x1) 367 113 x2).1 367 2 + x1), .ref 367], hp (wI (wI S5 367 112 x1) 367 113 x2), 0, 0)) rfl ?_
      refine mv_isub rfl ?_
      refine ev_bk 1 (S' := (48, [some (.ref 367), some (vI x1), some (vI x2), none], [vI x1, vI (((wI (wI S5 367 112 x1) 367 113 x2).1 367 2 + x1) - 1), .ref 367], hp (wI (wI S5 367 112 x1) 367 113 x2), 0, 0)) rfl ?_
      obtain ⟨b10, F⟩ := F
      refine mv_idiv b10 rfl ?_
      refine mv_pfI rfl rfl (sh_367) (by decide) rfl rfl ?_
      have F := F _ rfl
      refine ev_bk 2 (S' := (54, [some (.ref 367), some (vI x1), some (vI x2), none], [.ref 367, .ref 367], hp (wI (wI (wI S5 367 112 x1) 367 113 x2) 367 114 (Int.tdiv (w32 (((wI (wI S5 367 112 x1) 367 113 x2).1 367 2 + x1) - 1)) (w32 x1))), 0, 0)) rfl ?_
      refine mv_gfI rfl rfl (sh_367) (by decide) rfl ?_
      refine ev_bk 1 (S' := (58, [some (.ref 367), some (vI x1), some (vI x2), none], [vI 1, vI ((wI (wI (wI S5 367 112 x1) 367 113 x2) 367 114 (Int.tdiv (w32 (((wI (wI S5 367 112 x1) 367 113 x2).1 367 2 + x1) - 1)) (w32 x1))).1 367 114), .ref 367], hp (wI (wI (wI S5 367 112 x1) 367 113 x2) 367 114 (Int.tdiv (w32 (((wI (wI S5 367 112 x1) 367 113 x2).1 367 2 + x1) - 1)) (w32 x1))), 0, 0)) rfl ?_
      refine mv_icmp 65 rfl rfl (fun c => ?_) (fun c => ?_)
      · have F := F.1 c
        refine ev_bk 1 (S' := (66, [some (.ref 367), some (vI x1), some (vI x2), none], [.ref 367, .ref 367], hp (wI (wI (wI S5 367 112 x1) 367 113 x2) 367 114 (Int.tdiv (w32 (((wI (wI S5 367 112 x1) 367 113 x2).1 367 2 + x1) - 1)) (w32 x1))), 0, 0)) rfl ?_
        refine mv_gfI rfl rfl (sh_367) (by decide) rfl ?_
        exact F
      · have F := F.2 c
        refine ev_bk 1 (S' := (62, [some (.ref 367), some (vI x1), some (vI x2), none], [vI 1, .ref 367], hp (wI (wI (wI S5 367 112 x1) 367 113 x2) 367 114 (Int.tdiv (w32 (((wI (wI S5 367 112 x1) 367 113 x2).1 367 2 + x1) - 1)) (w32 x1))), 0, 0)) rfl ?_
        refine mv_goto 69 rfl rfl ?_
        exact F
    · have F := F.2 c
      refine ev_bk 1 (S' := (27, [some (.ref 367), some (vI x1), some (vI x2), none], [vI ((-2))], hp S5, 0, 0)) rfl ?_
      obtain ⟨rfl, rfl⟩ := F
      exact ev_ret rfl rfl
theorem vc_MD_protect_69 {q : Nat × (Nat → Int32)} {S S' : ms} {r : Option Value} (x1 x2 y0 : Int)
    (F : ∀ S1 : ms, S1 = wI S 367 114 y0 → ∀ S2 : ms, S2 = wI S1 367 115 (S1.1 367 2) → EV q 407 82 [some (.ref 367), some (vI x1), some (vI x2), some (vI 0)] [] S2 r S') : EV q 407 69 [some (.ref 367), some (vI x1), some (vI x2), none] [vI y0, .ref 367] S r S' := by
  unfold EV
  refine mv_pfI rfl rfl (sh_367) (by decide) rfl rfl ?_
  have F := F _ rfl
  refine ev_bk 2 (S' := (74, [some (.ref 367), some (vI x1), some (vI x2), none], [.ref 367, .ref 367], hp (wI S 367 114 y0), 0, 0)) rfl ?_
  refine mv_gfI rfl rfl (sh_367) (by decide) rfl ?_
  refine mv_pfI rfl rfl (sh_367) (by decide) rfl rfl ?_
  have F := F _ rfl
  refine ev_bk 2 (S' := (82, [some (.ref 367), some (vI x1), some (vI x2), some (vI 0)], [], hp (wI (wI S 367 114 y0) 367 115 ((wI S 367 114 y0).1 367 2)), 0, 0)) rfl ?_
  exact F
theorem vc_MD_protect_82 {q : Nat × (Nat → Int32)} {S S' : ms} {r : Option Value} (x1 x2 x3 : Int)
    (F : ((w32 ((S.1 367 114) * x1) ≤ w32 x3) → EV q 407 124 [some (.ref 367), some (vI x1), some (vI x2), some (vI 0)] [] S r S') ∧ ((¬ w32 ((S.1 367 114) * x1) ≤ w32 x3) → ((w32 (S.1 367 2) ≤ w32 x3) → EV q 407 115 [some (.ref 367), some (vI x1), some (vI x2), some (vI x3)] [vI 0, vI x3, .ref 439] S r S') ∧ ((¬ w32 (S.1 367 2) ≤ w32 x3) → (0 ≤ w32 x3 ∧ w32 x3 < (6000 : Nat)) ∧ EV q 407 115 [some (.ref 367), some (vI x1), some (vI x2), some (vI x3)] [vI (S.1 368 (w32 x3)), vI x3, .ref 439] S r S'))) : EV q 407 82 [some (.ref 367), some (vI x1), some (vI x2), some (vI x3)] [] S r S' := by
  unfold EV
  refine ev_bk 2 (S' := (84, [some (.ref 367), some (vI x1), some (vI x2), some (vI x3)], [.ref 367, vI x3], hp S, 0, 0)) rfl ?_
  refine mv_gfI rfl rfl (sh_367) (by decide) rfl ?_
  refine ev_bk 1 (S' := (88, [some (.ref 367), some (vI x1), some (vI x2), some (vI x3)], [vI x1, vI (S.1 367 114), vI x3], hp S, 0, 0)) rfl ?_
  refine mv_imul rfl ?_
  refine mv_icmp 122 rfl rfl (fun c => ?_) (fun c => ?_)
  · have F := F.1 c
    refine ev_bk 2 (S' := (124, [some (.ref 367), some (vI x1), some (vI x2), some (vI 0)], [], hp S, 0, 0)) rfl ?_
    exact F
  · have F := F.2 c
    refine ev_bk 1 (S' := (93, [some (.ref 367), some (vI x1), some (vI x2), some (vI x3)], [.ref 367], hp S, 0, 0)) rfl ?_
    refine mv_gfR rfl rfl (sh_367) (by decide) rfl ?_
    refine ev_bk 3 (S' := (99, [some (.ref 367), some (vI x1), some (vI x2), some (vI x3)], [.ref 367, vI x3, vI x3, .ref 439], hp S, 0, 0)) rfl ?_
    refine mv_gfI rfl rfl (sh_367) (by decide) rfl ?_
    refine mv_icmp 114 rfl rfl (fun c => ?_) (fun c => ?_)
    · have F := F.1 c
      refine ev_bk 1 (S' := (115, [some (.ref 367), some (vI x1), some (vI x2), some (vI x3)], [vI 0, vI x3, .ref 439], hp S, 0, 0)) rfl ?_
      exact F
    · have F := F.2 c
      refine ev_bk 1 (S' := (106, [some (.ref 367), some (vI x1), some (vI x2), some (vI x3)], [.ref 367, vI x3, .ref 439], hp S, 0, 0)) rfl ?_
      refine mv_gfR rfl rfl (sh_367) (by decide) rfl ?_
      refine ev_bk 1 (S' := (110, [some (.ref 367), some (vI x1), some (vI x2), some (vI x3)], [vI x3, .ref 368, vI x3, .ref 439], hp S, 0, 0)) rfl ?_
      obtain ⟨b1, F⟩ := F
      refine mv_bal rfl (sh_368) b1 ?_
      refine mv_goto 115 rfl rfl ?_
      exact F
theorem vc_MD_protect_115 {q : Nat × (Nat → Int32)} {S S' : ms} {r : Option Value} (x1 x2 x3 y0 y1 : Int)
    (F : (0 ≤ w32 y1 ∧ w32 y1 < (102032 : Nat)) ∧ ∀ S2 : ms, S2 = wI S 439 (w32 y1) (b8 y0) → EV q 407 82 [some (.ref 367), some (vI x1), some (vI x2), some (vI (x3 + 1))] [] S2 r S') : EV q 407 115 [some (.ref 367), some (vI x1), some (vI x2), some (vI x3)] [vI y0, vI y1, .ref 439] S r S' := by
  unfold EV
  obtain ⟨b1, F⟩ := F
  refine mv_bas rfl (sh_439) b1 ?_
  have F := F _ rfl
  refine mv_inc (lv' := [some (.ref 367), some (vI x1), some (vI x2), some (vI (x3 + 1))]) 3 1 rfl rfl rfl rfl ?_
  refine mv_goto 82 rfl rfl ?_
  exact F
theorem vc_MD_protect_124 {q : Nat × (Nat → Int32)} {S S' : ms} {r : Option Value} (x1 x2 x3 : Int)
    (F : ((w32 x2 ≤ w32 x3) → EV q 407 142 [some (.ref 367), some (vI x1), some (vI x2), some (vI 0)] [] S r S') ∧ ((¬ w32 x2 ≤ w32 x3) → ∃ (S1 : ms), EV q 408 0 [some (.ref 367), some (vI x3), none, none, none, none] [] S none S1 ∧ EV q 407 124 [some (.ref 367), some (vI x1), some (vI x2), some (vI (x3 + 1))] [] S1 r S')) : EV q 407 124 [some (.ref 367), some (vI x1), some (vI x2), some (vI x3)] [] S r S' := by
  unfold EV
  refine ev_bk 2 (S' := (126, [some (.ref 367), some (vI x1), some (vI x2), some (vI x3)], [vI x2, vI x3], hp S, 0, 0)) rfl ?_
  refine mv_icmp 140 rfl rfl (fun c => ?_) (fun c => ?_)
  · have F := F.1 c
    refine ev_bk 2 (S' := (142, [some (.ref 367), some (vI x1), some (vI x2), some (vI 0)], [], hp S, 0, 0)) rfl ?_
    exact F
  · have F := F.2 c
    refine ev_bk 2 (S' := (131, [some (.ref 367), some (vI x1), some (vI x2), some (vI x3)], [vI x3, .ref 367], hp S, 0, 0)) rfl ?_
    obtain ⟨S1, e2, F⟩ := F
    refine mv_calv (as := [vI x3]) (rest := []) e2 (sh_367) rfl rfl rfl ⟨rfl, rfl⟩ rfl rfl rfl rfl rfl ?_
    refine mv_inc (lv' := [some (.ref 367), some (vI x1), some (vI x2), some (vI (x3 + 1))]) 3 1 rfl rfl rfl rfl ?_
    refine mv_goto 124 rfl rfl ?_
    exact F
theorem vc_MD_protect_142 {q : Nat × (Nat → Int32)} {S S' : ms} {r : Option Value} (x1 x2 x3 : Int)
    (F : ((w32 (x1 + x2) ≤ w32 x3) → r = some (vI (S.1 367 114)) ∧ S' = S) ∧ ((¬ w32 (x1 + x2) ≤ w32 x3) → (0 ≤ w32 x3 ∧ w32 x3 < (48 : Nat)) ∧ ∀ S2 : ms, S2 = wI S 441 (w32 x3) (0 % 2) → ∃ (z5 : Int) (S3 : ms), EV q 409 0 [some (.ref 367), some (vI x3)] [] S2 (some (vI z5)) S3 ∧ ∃ (z8 : Int) (S6 : ms), EV q 264 0 [some (.ref 367), some (.ref 439), some (vI z5), some (vI (S3.1 367 114)), none, none] [] S3 (some (vI z8)) S6 ∧ (0 ≤ w32 x3 ∧ w32 x3 < (48 : Nat)) ∧ ∀ S10 : ms, S10 = wI S6 440 (w32 x3) z8 → EV q 407 142 [some (.ref 367), some (vI x1), some (vI x2), some (vI (x3 + 1))] [] S10 r S')) : EV q 407 142 [some (.ref 367), some (vI x1), some (vI x2), some (vI x3)] [] S r S' := by
  unfold EV
  refine ev_bk 3 (S' := (145, [some (.ref 367), some (vI x1), some (vI x2), some (vI x3)], [vI x2, vI x1, vI x3], hp S, 0, 0)) rfl ?_
  refine mv_iadd rfl ?_
  refine mv_icmp 185 rfl rfl (fun c => ?_) (fun c => ?_)
  · have F := F.1 c
    refine ev_bk 1 (S' := (186, [some (.ref 367), some (vI x1), some (vI x2), some (vI x3)], [.ref 367], hp S, 0, 0)) rfl ?_
    refine mv_gfI rfl rfl (sh_367) (by decide) rfl ?_
    obtain ⟨rfl, rfl⟩ := F
    exact ev_ret rfl rfl
  · have F := F.2 c
    refine ev_bk 1 (S' := (150, [some (.ref 367), some (vI x1), some (vI x2), some (vI x3)], [.ref 367], hp S, 0, 0)) rfl ?_
    refine mv_gfR rfl rfl (sh_367) (by decide) rfl ?_
    refine ev_bk 2 (S' := (155, [some (.ref 367), some (vI x1), some (vI x2), some (vI x3)], [vI 0, vI x3, .ref 441], hp S, 0, 0)) rfl ?_
    obtain ⟨b1, F⟩ := F
    refine mv_zas rfl (sh_441) b1 ?_
    have F := F _ rfl
    refine ev_bk 1 (S' := (157, [some (.ref 367), some (vI x1), some (vI x2), some (vI x3)], [.ref 367], hp (wI S 441 (w32 x3) (0 % 2)), 0, 0)) rfl ?_
    refine mv_gfR rfl rfl (sh_367) (by decide) rfl ?_
    refine ev_bk 3 (S' := (163, [some (.ref 367), some (vI x1), some (vI x2), some (vI x3)], [.ref 367, .ref 367, vI x3, .ref 440], hp (wI S 441 (w32 x3) (0 % 2)), 0, 0)) rfl ?_
    refine mv_gfR rfl rfl (sh_367) (by decide) rfl ?_
    refine ev_bk 2 (S' := (168, [some (.ref 367), some (vI x1), some (vI x2), some (vI x3)], [vI x3, .ref 367, .ref 439, .ref 367, vI x3, .ref 440], hp (wI S 441 (w32 x3) (0 % 2)), 0, 0)) rfl ?_
    obtain ⟨z5, S3, e4, F⟩ := F
    refine mv_calv (as := [vI x3]) (rest := [.ref 439, .ref 367, vI x3, .ref 440]) e4 (sh_367) rfl rfl rfl ⟨rfl, rfl⟩ rfl rfl rfl rfl rfl ?_
    refine ev_bk 1 (S' := (172, [some (.ref 367), some (vI x1), some (vI x2), some (vI x3)], [.ref 367, vI z5, .ref 439, .ref 367, vI x3, .ref 440], hp S3, 0, 0)) rfl ?_
    refine mv_gfI rfl rfl (sh_367) (by decide) rfl ?_
    obtain ⟨z8, S6, e7, F⟩ := F
    refine mv_calv (as := [.ref 439, vI z5, vI (S3.1 367 114)]) (rest := [vI x3, .ref 440]) e7 (sh_367) rfl rfl rfl ⟨rfl, rfl⟩ rfl rfl rfl rfl rfl ?_
    obtain ⟨b9, F⟩ := F
    refine mv_ias rfl (sh_440) b9 ?_
    have F := F _ rfl
    refine mv_inc (lv' := [some (.ref 367), some (vI x1), some (vI x2), some (vI (x3 + 1))]) 3 1 rfl rfl rfl rfl ?_
    refine mv_goto 142 rfl rfl ?_
    exact F
theorem vc_MD_makeCheck {q : Nat × (Nat → Int32)} {S S' : ms} {r : Option Value} (x1 : Int)
    (F : ∃ (z3 : Int) (S1 : ms), EV q 409 0 [some (.ref 367), some (vI (S.1 367 112 + x1))] [] S (some (vI z3)) S1 ∧ EV q 408 13 [some (.ref 367), some (vI x1), some (vI z3), some (vI 0), none, none] [] S1 r S') : EV q 408 0 [some (.ref 367), some (vI x1), none, none, none, none] [] S r S' := by
  unfold EV
  refine ev_bk 2 (S' := (2, [some (.ref 367), some (vI x1), none, none, none, none], [.ref 367, .ref 367], hp S, 0, 0)) rfl ?_
  refine mv_gfI rfl rfl (sh_367) (by decide) rfl ?_
  refine ev_bk 1 (S' := (6, [some (.ref 367), some (vI x1), none, none, none, none], [vI x1, vI (S.1 367 112), .ref 367], hp S, 0, 0)) rfl ?_
  refine mv_iadd rfl ?_
  obtain ⟨z3, S1, e2, F⟩ := F
  refine mv_calv (as := [vI (S.1 367 112 + x1)]) (rest := []) e2 (sh_367) rfl rfl rfl ⟨rfl, rfl⟩ rfl rfl rfl rfl rfl ?_
  refine ev_bk 3 (S' := (13, [some (.ref 367), some (vI x1), some (vI z3), some (vI 0), none, none], [], hp S1, 0, 0)) rfl ?_
  exact F
theorem vc_MD_makeCheck_13 {q : Nat × (Nat → Int32)} {S S' : ms} {r : Option Value} (x1 x2 x3 : Int)
    (F : ((w32 (S.1 367 114) ≤ w32 x3) → r = none ∧ S' = S) ∧ ((¬ w32 (S.1 367 114) ≤ w32 x3) → EV q 408 27 [some (.ref 367), some (vI x1), some (vI x2), some (vI x3), some (vI 0), some (vI 0)] [] S r S')) : EV q 408 13 [some (.ref 367), some (vI x1), some (vI x2), some (vI x3), none, none] [] S r S' := by
  unfold EV
  refine ev_bk 2 (S' := (15, [some (.ref 367), some (vI x1), some (vI x2), some (vI x3), none, none], [.ref 367, vI x3], hp S, 0, 0)) rfl ?_
  refine mv_gfI rfl rfl (sh_367) (by decide) rfl ?_
  refine mv_icmp 95 rfl rfl (fun c => ?_) (fun c => ?_)
  · have F := F.1 c
    obtain ⟨rfl, rfl⟩ := F
    exact ev_ret rfl rfl
  · have F := F.2 c
    refine ev_bk 4 (S' := (27, [some (.ref 367), some (vI x1), some (vI x2), some (vI x3), some (vI 0), some (vI 0)], [], hp S, 0, 0)) rfl ?_
    exact F
theorem vc_MD_makeCheck_27 {q : Nat × (Nat → Int32)} {S S' : ms} {r : Option Value} (x1 x2 x3 x4 x5 : Int)
    (F : ((w32 (S.1 367 112) ≤ w32 x5) → (0 ≤ w32 (x2 + x3) ∧ w32 (x2 + x3) < (102032 : Nat)) ∧ ∀ S2 : ms, S2 = wI S 439 (w32 (x2 + x3)) (b8 (b8 x4)) → EV q 408 13 [some (.ref 367), some (vI x1), some (vI x2), some (vI (x3 + 1)), none, none] [] S2 r S') ∧ ((¬ w32 (S.1 367 112) ≤ w32 x5) → ∃ (z5 : Int) (S3 : ms), EV q 409 0 [some (.ref 367), some (vI x5)] [] S (some (vI z5)) S3 ∧ (0 ≤ w32 (z5 + x3) ∧ w32 (z5 + x3) < (102032 : Nat)) ∧ ∃ (z9 : Int) (S7 : ms), EV q 410 0 [some (vI x5), some (vI x1)] [] S3 (some (vI z9)) S7 ∧ ∃ (z12 : Int) (S10 : ms), EV q 411 0 [some (.ref 367), some (vI z9)] [] S7 (some (vI z12)) S10 ∧ ∃ (z15 : Int) (S13 : ms), EV q 412 0 [some (.ref 367), some (vI ((S3.1 439 (w32 (z5 + x3))) % 256)), some (vI z12)] [] S10 (some (vI z15)) S13 ∧ EV q 408 27 [some (.ref 367), some (vI x1), some (vI x2), some (vI x3), some (vI (bX x4 z15)), some (vI (x5 + 1))] [] S13 r S')) : EV q 408 27 [some (.ref 367), some (vI x1), some (vI x2), some (vI x3), some (vI x4), some (vI x5)] [] S r S' := by
  unfold EV
  refine ev_bk 2 (S' := (30, [some (.ref 367), some (vI x1), some (vI x2), some (vI x3), some (vI x4), some (vI x5)], [.ref 367, vI x5], hp S, 0, 0)) rfl ?_
  refine mv_gfI rfl rfl (sh_367) (by decide) rfl ?_
  refine mv_icmp 78 rfl rfl (fun c => ?_) (fun c => ?_)
  · have F := F.1 c
    refine ev_bk 1 (S' := (79, [some (.ref 367), some (vI x1), some (vI x2), some (vI x3), some (vI x4), some (vI x5)], [.ref 367], hp S, 0, 0)) rfl ?_
    refine mv_gfR rfl rfl (sh_367) (by decide) rfl ?_
    refine ev_bk 2 (S' := (84, [some (.ref 367), some (vI x1), some (vI x2), some (vI x3), some (vI x4), some (vI x5)], [vI x3, vI x2, .ref 439], hp S, 0, 0)) rfl ?_
    refine mv_iadd rfl ?_
    refine ev_bk 1 (S' := (87, [some (.ref 367), some (vI x1), some (vI x2), some (vI x3), some (vI x4), some (vI x5)], [vI x4, vI (x2 + x3), .ref 439], hp S, 0, 0)) rfl ?_
    refine mv_i2b rfl ?_
    obtain ⟨b1, F⟩ := F
    refine mv_bas rfl (sh_439) b1 ?_
    have F := F _ rfl
    refine mv_inc (lv' := [some (.ref 367), some (vI x1), some (vI x2), some (vI (x3 + 1)), some (vI x4), some (vI x5)]) 3 1 rfl rfl rfl rfl ?_
    refine mv_goto 13 rfl rfl ?_
    exact ev_wk (le_s (le_s (le_s (le_s (le_n (le_n le_0)))))) F
  · have F := F.2 c
    refine ev_bk 3 (S' := (40, [some (.ref 367), some (vI x1), some (vI x2), some (vI x3), some (vI x4), some (vI x5)], [.ref 367, .ref 367, vI x4], hp S, 0, 0)) rfl ?_
    refine mv_gfR rfl rfl (sh_367) (by decide) rfl ?_
    refine ev_bk 2 (S' := (46, [some (.ref 367), some (vI x1), some (vI x2), some (vI x3), some (vI x4), some (vI x5)], [vI x5, .ref 367, .ref 439, .ref 367, vI x4], hp S, 0, 0)) rfl ?_
    obtain ⟨z5, S3, e4, F⟩ := F
    refine mv_calv (as := [vI x5]) (rest := [.ref 439, .ref 367, vI x4]) e4 (sh_367) rfl rfl rfl ⟨rfl, rfl⟩ rfl rfl rfl rfl rfl ?_
    refine ev_bk 1 (S' := (50, [some (.ref 367), some (vI x1), some (vI x2), some (vI x3), some (vI x4), some (vI x5)], [vI x3, vI z5, .ref 439, .ref 367, vI x4], hp S3, 0, 0)) rfl ?_
    refine mv_iadd rfl ?_
    obtain ⟨b6, F⟩ := F
    refine mv_bal rfl (sh_439) b6 ?_
    refine ev_bk 1 (S' := (55, [some (.ref 367), some (vI x1), some (vI x2), some (vI x3), some (vI x4), some (vI x5)], [vI 255, vI (S3.1 439 (w32 (z5 + x3))), .ref 367, vI x4], hp S3, 0, 0)) rfl ?_
    refine mv_iandm 256 8 (by decide) rfl rfl rfl ?_
    refine ev_bk 3 (S' := (60, [some (.ref 367), some (vI x1), some (vI x2), some (vI x3), some (vI x4), some (vI x5)], [vI x1, vI x5, .ref 367, vI ((S3.1 439 (w32 (z5 + x3))) % 256), .ref 367, vI x4], hp S3, 0, 0)) rfl ?_
    obtain ⟨z9, S7, e8, F⟩ := F
    refine mv_cals (as := [vI x5, vI x1]) (rest := [.ref 367, vI ((S3.1 439 (w32 (z5 + x3))) % 256), .ref 367, vI x4]) e8 rfl rfl rfl ⟨rfl, rfl, rfl⟩ rfl rfl rfl rfl ?_
    obtain ⟨z12, S10, e11, F⟩ := F
    refine mv_calv (as := [vI z9]) (rest := [vI ((S3.1 439 (w32 (z5 + x3))) % 256), .ref 367, vI x4]) e11 (sh_367) rfl rfl rfl ⟨rfl, rfl⟩ rfl rfl rfl rfl rfl ?_
    obtain ⟨z15, S13, e14, F⟩ := F
    refine mv_calv (as := [vI ((S3.1 439 (w32 (z5 + x3))) % 256), vI z12]) (rest := [vI x4]) e14 (sh_367) rfl rfl rfl ⟨rfl, rfl⟩ rfl rfl rfl rfl rfl ?_
    refine mv_ixor rfl ?_
    refine ev_bk 1 (S' := (72, [some (.ref 367), some (vI x1), some (vI x2), some (vI x3), some (vI (bX x4 z15)), some (vI x5)], [], hp S13, 0, 0)) rfl ?_
    refine mv_inc (lv' := [some (.ref 367), some (vI x1), some (vI x2), some (vI x3), some (vI (bX x4 z15)), some (vI (x5 + 1))]) 5 1 rfl rfl rfl rfl ?_
    refine mv_goto 27 rfl rfl ?_
    exact F
theorem vc_MD_partAt {q : Nat × (Nat → Int32)} {S S' : ms} {r : Option Value} (x1 : Int)
    (F : r = some (vI ((S.1 367 114) * x1)) ∧ S' = S) : EV q 409 0 [some (.ref 367), some (vI x1)] [] S r S' := by
  unfold EV
  refine ev_bk 1 (S' := (1, [some (.ref 367), some (vI x1)], [.ref 367], hp S, 0, 0)) rfl ?_
  refine mv_gfI rfl rfl (sh_367) (by decide) rfl ?_
  refine ev_bk 1 (S' := (5, [some (.ref 367), some (vI x1)], [vI x1, vI (S.1 367 114)], hp S, 0, 0)) rfl ?_
  refine mv_imul rfl ?_
  obtain ⟨rfl, rfl⟩ := F
  exact ev_ret rfl rfl
theorem vc_MD_factorPlace {q : Nat × (Nat → Int32)} {S S' : ms} {r : Option Value} (x0 x1 : Int)
    (F : r = some (vI (bX x0 (255 - x1))) ∧ S' = S) : EV q 410 0 [some (vI x0), some (vI x1)] [] S r S' := by
  unfold EV
  refine ev_bk 3 (S' := (5, [some (vI x0), some (vI x1)], [vI x1, vI 255, vI x0], hp S, 0, 0)) rfl ?_
  refine mv_isub rfl ?_
  refine mv_ixor rfl ?_
  obtain ⟨rfl, rfl⟩ := F
  exact ev_ret rfl rfl
theorem vc_MD_inverse {q : Nat × (Nat → Int32)} {S S' : ms} {r : Option Value} (x1 : Int)
    (F : (0 ≤ w32 x1 ∧ w32 x1 < (256 : Nat)) ∧ (0 ≤ w32 (255 - (S.1 438 (w32 x1))) ∧ w32 (255 - (S.1 438 (w32 x1))) < (510 : Nat)) ∧ r = some (vI (S.1 437 (w32 (255 - (S.1 438 (w32 x1)))))) ∧ S' = S) : EV q 411 0 [some (.ref 367), some (vI x1)] [] S r S' := by
  unfold EV
  refine ev_bk 1 (S' := (1, [some (.ref 367), some (vI x1)], [.ref 367], hp S, 0, 0)) rfl ?_
  refine mv_gfR rfl rfl (sh_367) (by decide) rfl ?_
  refine ev_bk 2 (S' := (8, [some (.ref 367), some (vI x1)], [.ref 367, vI 255, .ref 437], hp S, 0, 0)) rfl ?_
  refine mv_gfR rfl rfl (sh_367) (by decide) rfl ?_
  refine ev_bk 1 (S' := (12, [some (.ref 367), some (vI x1)], [vI x1, .ref 438, vI 255, .ref 437], hp S, 0, 0)) rfl ?_
  obtain ⟨b1, F⟩ := F
  refine mv_ial rfl (sh_438) b1 ?_
  refine mv_isub rfl ?_
  obtain ⟨b2, F⟩ := F
  refine mv_ial rfl (sh_437) b2 ?_
  obtain ⟨rfl, rfl⟩ := F
  exact ev_ret rfl rfl
theorem vc_MD_times {q : Nat × (Nat → Int32)} {S S' : ms} {r : Option Value} (x1 x2 : Int)
    (F : ((w32 x1 = 0) → EV q 412 8 [some (.ref 367), some (vI x1), some (vI x2)] [] S r S') ∧ ((¬ w32 x1 = 0) → ((¬ w32 x2 = 0) → (0 ≤ w32 x1 ∧ w32 x1 < (256 : Nat)) ∧ (0 ≤ w32 x2 ∧ w32 x2 < (256 : Nat)) ∧ (0 ≤ w32 ((S.1 438 (w32 x1)) + (S.1 438 (w32 x2))) ∧ w32 ((S.1 438 (w32 x1)) + (S.1 438 (w32 x2))) < (510 : Nat)) ∧ r = some (vI (S.1 437 (w32 ((S.1 438 (w32 x1)) + (S.1 438 (w32 x2)))))) ∧ S' = S) ∧ ((¬ (¬ w32 x2 = 0)) → EV q 412 8 [some (.ref 367), some (vI x1), some (vI x2)] [] S r S'))) : EV q 412 0 [some (.ref 367), some (vI x1), some (vI x2)] [] S r S' := by
  unfold EV
  refine ev_bk 1 (S' := (1, [some (.ref 367), some (vI x1), some (vI x2)], [vI x1], hp S, 0, 0)) rfl ?_
  refine mv_if 8 rfl rfl (fun c => ?_) (fun c => ?_)
  · have F := F.1 c
    exact F
  · have F := F.2 c
    refine ev_bk 1 (S' := (5, [some (.ref 367), some (vI x1), some (vI x2)], [vI x2], hp S, 0, 0)) rfl ?_
    refine mv_if 12 rfl rfl (fun c => ?_) (fun c => ?_)
    · have F := F.1 c
      refine ev_bk 1 (S' := (13, [some (.ref 367), some (vI x1), some (vI x2)], [.ref 367], hp S, 0, 0)) rfl ?_
      refine mv_gfR rfl rfl (sh_367) (by decide) rfl ?_
      refine ev_bk 1 (S' := (17, [some (.ref 367), some (vI x1), some (vI x2)], [.ref 367, .ref 437], hp S, 0, 0)) rfl ?_
      refine mv_gfR rfl rfl (sh_367) (by decide) rfl ?_
      refine ev_bk 1 (S' := (21, [some (.ref 367), some (vI x1), some (vI x2)], [vI x1, .ref 438, .ref 437], hp S, 0, 0)) rfl ?_
      obtain ⟨b1, F⟩ := F
      refine mv_ial rfl (sh_438) b1 ?_
      refine ev_bk 1 (S' := (23, [some (.ref 367), some (vI x1), some (vI x2)], [.ref 367, vI (S.1 438 (w32 x1)), .ref 437], hp S, 0, 0)) rfl ?_
      refine mv_gfR rfl rfl (sh_367) (by decide) rfl ?_
      refine ev_bk 1 (S' := (27, [some (.ref 367), some (vI x1), some (vI x2)], [vI x2, .ref 438, vI (S.1 438 (w32 x1)), .ref 437], hp S, 0, 0)) rfl ?_
      obtain ⟨b2, F⟩ := F
      refine mv_ial rfl (sh_438) b2 ?_
      refine mv_iadd rfl ?_
      obtain ⟨b3, F⟩ := F
      refine mv_ial rfl (sh_437) b3 ?_
      obtain ⟨rfl, rfl⟩ := F
      exact ev_ret rfl rfl
    · have F := F.2 c
      exact F
theorem vc_MD_times_8 {q : Nat × (Nat → Int32)} {S S' : ms} {r : Option Value} (x1 x2 : Int)
    (F : r = some (vI 0) ∧ S' = S) : EV q 412 8 [some (.ref 367), some (vI x1), some (vI x2)] [] S r S' := by
  unfold EV
  refine ev_bk 1 (S' := (9, [some (.ref 367), some (vI x1), some (vI x2)], [vI 0], hp S, 0, 0)) rfl ?_
  refine mv_goto 30 rfl rfl ?_
  obtain ⟨rfl, rfl⟩ := F
  exact ev_ret rfl rfl
theorem vc_MD_part {q : Nat × (Nat → Int32)} {S S' : ms} {r : Option Value} (x1 x2 : Int)
    (F : ∀ S1 : ms, S1 = wI S 367 0 0 → ∃ (z4 : Int) (S2 : ms), EV q 414 0 [some (.ref 367), some (vI x1)] [] S1 (some (vI z4)) S2 ∧ ((¬ w32 z4 = 0) → r = some (vI ((-1))) ∧ S' = S2) ∧ ((¬ (¬ w32 z4 = 0)) → ((w32 x2 < 0) → r = some (vI ((-1))) ∧ S' = S2) ∧ ((¬ w32 x2 < 0) → ((w32 x2 < w32 (S2.1 367 114)) → (0 ≤ w32 x1 ∧ w32 x1 < (48 : Nat)) ∧ ((w32 (S2.1 441 (w32 x1)) = 0) → ∃ (z8 : Int) (S6 : ms), EV q 409 0 [some (.ref 367), some (vI x1)] [] S2 (some (vI z8)) S6 ∧ (0 ≤ w32 (z8 + x2) ∧ w32 (z8 + x2) < (102032 : Nat)) ∧ r = some (vI ((S6.1 439 (w32 (z8 + x2))) % 256)) ∧ S' = S6) ∧ ((¬ w32 (S2.1 441 (w32 x1)) = 0) → r = some (vI 0) ∧ S' = S2)) ∧ ((¬ w32 x2 < w32 (S2.1 367 114)) → r = some (vI ((-1))) ∧ S' = S2)))) : EV q 413 0 [some (.ref 367), some (vI x1), some (vI x2)] [] S r S' := by
  unfold EV
  refine ev_bk 2 (S' := (2, [some (.ref 367), some (vI x1), some (vI x2)], [vI 0, .ref 367], hp S, 0, 0)) rfl ?_
  refine mv_pfI rfl rfl (sh_367) (by decide) rfl rfl ?_
  have F := F _ rfl
  refine ev_bk 2 (S' := (7, [some (.ref 367), some (vI x1), some (vI x2)], [vI x1, .ref 367], hp (wI S 367 0 0), 0, 0)) rfl ?_
  obtain ⟨z4, S2, e3, F⟩ := F
  refine mv_calv (as := [vI x1]) (rest := []) e3 (sh_367) rfl rfl rfl ⟨rfl, rfl⟩ rfl rfl rfl rfl rfl ?_
  refine mv_if 25 rfl rfl (fun c => ?_) (fun c => ?_)
  · have F := F.1 c
    refine ev_bk 1 (S' := (26, [some (.ref 367), some (vI x1), some (vI x2)], [vI ((-1))], hp S2, 0, 0)) rfl ?_
    obtain ⟨rfl, rfl⟩ := F
    exact ev_ret rfl rfl
  · have F := F.2 c
    refine ev_bk 1 (S' := (14, [some (.ref 367), some (vI x1), some (vI x2)], [vI x2], hp S2, 0, 0)) rfl ?_
    refine mv_if 25 rfl rfl (fun c => ?_) (fun c => ?_)
    · have F := F.1 c
      refine ev_bk 1 (S' := (26, [some (.ref 367), some (vI x1), some (vI x2)], [vI ((-1))], hp S2, 0, 0)) rfl ?_
      obtain ⟨rfl, rfl⟩ := F
      exact ev_ret rfl rfl
    · have F := F.2 c
      refine ev_bk 2 (S' := (19, [some (.ref 367), some (vI x1), some (vI x2)], [.ref 367, vI x2], hp S2, 0, 0)) rfl ?_
      refine mv_gfI rfl rfl (sh_367) (by decide) rfl ?_
      refine mv_icmp 27 rfl rfl (fun c => ?_) (fun c => ?_)
      · have F := F.1 c
        refine ev_bk 1 (S' := (28, [some (.ref 367), some (vI x1), some (vI x2)], [.ref 367], hp S2, 0, 0)) rfl ?_
        refine mv_gfR rfl rfl (sh_367) (by decide) rfl ?_
        refine ev_bk 1 (S' := (32, [some (.ref 367), some (vI x1), some (vI x2)], [vI x1, .ref 441], hp S2, 0, 0)) rfl ?_
        obtain ⟨b5, F⟩ := F
        refine mv_zal rfl (sh_441) b5 ?_
        refine mv_if 40 rfl rfl (fun c => ?_) (fun c => ?_)
        · have F := F.1 c
          refine ev_bk 1 (S' := (41, [some (.ref 367), some (vI x1), some (vI x2)], [.ref 367], hp S2, 0, 0)) rfl ?_
          refine mv_gfR rfl rfl (sh_367) (by decide) rfl ?_
          refine ev_bk 2 (S' := (46, [some (.ref 367), some (vI x1), some (vI x2)], [vI x1, .ref 367, .ref 439], hp S2, 0, 0)) rfl ?_
          obtain ⟨z8, S6, e7, F⟩ := F
          refine mv_calv (as := [vI x1]) (rest := [.ref 439]) e7 (sh_367) rfl rfl rfl ⟨rfl, rfl⟩ rfl rfl rfl rfl rfl ?_
          refine ev_bk 1 (S' := (50, [some (.ref 367), some (vI x1), some (vI x2)], [vI x2, vI z8, .ref 439], hp S6, 0, 0)) rfl ?_
          refine mv_iadd rfl ?_
          obtain ⟨b9, F⟩ := F
          refine mv_bal rfl (sh_439) b9 ?_
          refine ev_bk 1 (S' := (55, [some (.ref 367), some (vI x1), some (vI x2)], [vI 255, vI (S6.1 439 (w32 (z8 + x2)))], hp S6, 0, 0)) rfl ?_
          refine mv_iandm 256 8 (by decide) rfl rfl rfl ?_
          obtain ⟨rfl, rfl⟩ := F
          exact ev_ret rfl rfl
        · have F := F.2 c
          refine ev_bk 1 (S' := (37, [some (.ref 367), some (vI x1), some (vI x2)], [vI 0], hp S2, 0, 0)) rfl ?_
          refine mv_goto 56 rfl rfl ?_
          obtain ⟨rfl, rfl⟩ := F
          exact ev_ret rfl rfl
      · have F := F.2 c
        refine ev_bk 1 (S' := (26, [some (.ref 367), some (vI x1), some (vI x2)], [vI ((-1))], hp S2, 0, 0)) rfl ?_
        obtain ⟨rfl, rfl⟩ := F
        exact ev_ret rfl rfl
theorem vc_MD_noPart {q : Nat × (Nat → Int32)} {S S' : ms} {r : Option Value} (x1 : Int)
    (F : ((w32 x1 < 0) → EV q 414 17 [some (.ref 367), some (vI x1)] [] S r S') ∧ ((¬ w32 x1 < 0) → ((w32 x1 < w32 (S.1 367 112 + (S.1 367 113))) → r = some (vI 0) ∧ S' = S) ∧ ((¬ w32 x1 < w32 (S.1 367 112 + (S.1 367 113))) → EV q 414 17 [some (.ref 367), some (vI x1)] [] S r S'))) : EV q 414 0 [some (.ref 367), some (vI x1)] [] S r S' := by
  unfold EV
  refine ev_bk 1 (S' := (1, [some (.ref 367), some (vI x1)], [vI x1], hp S, 0, 0)) rfl ?_
  refine mv_if 17 rfl rfl (fun c => ?_) (fun c => ?_)
  · have F := F.1 c
    exact F
  · have F := F.2 c
    refine ev_bk 2 (S' := (6, [some (.ref 367), some (vI x1)], [.ref 367, vI x1], hp S, 0, 0)) rfl ?_
    refine mv_gfI rfl rfl (sh_367) (by decide) rfl ?_
    refine ev_bk 1 (S' := (10, [some (.ref 367), some (vI x1)], [.ref 367, vI (S.1 367 112), vI x1], hp S, 0, 0)) rfl ?_
    refine mv_gfI rfl rfl (sh_367) (by decide) rfl ?_
    refine mv_iadd rfl ?_
    refine mv_icmp 21 rfl rfl (fun c => ?_) (fun c => ?_)
    · have F := F.1 c
      refine ev_bk 1 (S' := (22, [some (.ref 367), some (vI x1)], [vI 0], hp S, 0, 0)) rfl ?_
      obtain ⟨rfl, rfl⟩ := F
      exact ev_ret rfl rfl
    · have F := F.2 c
      exact F
theorem vc_MD_noPart_17 {q : Nat × (Nat → Int32)} {S S' : ms} {r : Option Value} (x1 : Int)
    (F : r = some (vI 1) ∧ S' = S) : EV q 414 17 [some (.ref 367), some (vI x1)] [] S r S' := by
  unfold EV
  refine ev_bk 1 (S' := (18, [some (.ref 367), some (vI x1)], [vI 1], hp S, 0, 0)) rfl ?_
  refine mv_goto 22 rfl rfl ?_
  obtain ⟨rfl, rfl⟩ := F
  exact ev_ret rfl rfl
theorem vc_MD_lose {q : Nat × (Nat → Int32)} {S S' : ms} {r : Option Value} (x1 : Int)
    (F : ∀ S1 : ms, S1 = wI S 367 0 0 → ∃ (z4 : Int) (S2 : ms), EV q 414 0 [some (.ref 367), some (vI x1)] [] S1 (some (vI z4)) S2 ∧ ((w32 z4 = 0) → (0 ≤ w32 x1 ∧ w32 x1 < (48 : Nat)) ∧ ((w32 (S2.1 441 (w32 x1)) = 0) → EV q 415 29 [some (.ref 367), some (vI x1), none] [vI 1] S2 r S') ∧ ((¬ w32 (S2.1 441 (w32 x1)) = 0) → EV q 415 29 [some (.ref 367), some (vI x1), none] [vI 0] S2 r S')) ∧ ((¬ w32 z4 = 0) → r = some (vI ((-1))) ∧ S' = S2)) : EV q 415 0 [some (.ref 367), some (vI x1), none] [] S r S' := by
  unfold EV
  refine ev_bk 2 (S' := (2, [some (.ref 367), some (vI x1), none], [vI 0, .ref 367], hp S, 0, 0)) rfl ?_
  refine mv_pfI rfl rfl (sh_367) (by decide) rfl rfl ?_
  have F := F _ rfl
  refine ev_bk 2 (S' := (7, [some (.ref 367), some (vI x1), none], [vI x1, .ref 367], hp (wI S 367 0 0), 0, 0)) rfl ?_
  obtain ⟨z4, S2, e3, F⟩ := F
  refine mv_calv (as := [vI x1]) (rest := []) e3 (sh_367) rfl rfl rfl ⟨rfl, rfl⟩ rfl rfl rfl rfl rfl ?_
  refine mv_if 15 rfl rfl (fun c => ?_) (fun c => ?_)
  · have F := F.1 c
    refine ev_bk 1 (S' := (16, [some (.ref 367), some (vI x1), none], [.ref 367], hp S2, 0, 0)) rfl ?_
    refine mv_gfR rfl rfl (sh_367) (by decide) rfl ?_
    refine ev_bk 1 (S' := (20, [some (.ref 367), some (vI x1), none], [vI x1, .ref 441], hp S2, 0, 0)) rfl ?_
    obtain ⟨b5, F⟩ := F
    refine mv_zal rfl (sh_441) b5 ?_
    refine mv_if 28 rfl rfl (fun c => ?_) (fun c => ?_)
    · have F := F.1 c
      refine ev_bk 1 (S' := (29, [some (.ref 367), some (vI x1), none], [vI 1], hp S2, 0, 0)) rfl ?_
      exact F
    · have F := F.2 c
      refine ev_bk 1 (S' := (25, [some (.ref 367), some (vI x1), none], [vI 0], hp S2, 0, 0)) rfl ?_
      refine mv_goto 29 rfl rfl ?_
      exact F
  · have F := F.2 c
    refine ev_bk 1 (S' := (14, [some (.ref 367), some (vI x1), none], [vI ((-1))], hp S2, 0, 0)) rfl ?_
    obtain ⟨rfl, rfl⟩ := F
    exact ev_ret rfl rfl
theorem vc_MD_lose_29 {q : Nat × (Nat → Int32)} {S S' : ms} {r : Option Value} (x1 y0 : Int)
    (F : (0 ≤ w32 x1 ∧ w32 x1 < (48 : Nat)) ∧ ∀ S2 : ms, S2 = wI S 441 (w32 x1) (1 % 2) → r = some (vI y0) ∧ S' = S2) : EV q 415 29 [some (.ref 367), some (vI x1), none] [vI y0] S r S' := by
  unfold EV
  refine ev_bk 2 (S' := (31, [some (.ref 367), some (vI x1), some (vI y0)], [.ref 367], hp S, 0, 0)) rfl ?_
  refine mv_gfR rfl rfl (sh_367) (by decide) rfl ?_
  refine ev_bk 2 (S' := (36, [some (.ref 367), some (vI x1), some (vI y0)], [vI 1, vI x1, .ref 441], hp S, 0, 0)) rfl ?_
  obtain ⟨b1, F⟩ := F
  refine mv_zas rfl (sh_441) b1 ?_
  have F := F _ rfl
  refine ev_bk 1 (S' := (38, [some (.ref 367), some (vI x1), some (vI y0)], [vI y0], hp (wI S 441 (w32 x1) (1 % 2)), 0, 0)) rfl ?_
  obtain ⟨rfl, rfl⟩ := F
  exact ev_ret rfl rfl
theorem vc_MD_spoil {q : Nat × (Nat → Int32)} {S S' : ms} {r : Option Value} (x1 x2 x3 : Int)
    (F : ∀ S1 : ms, S1 = wI S 367 0 0 → ∃ (z4 : Int) (S2 : ms), EV q 414 0 [some (.ref 367), some (vI x1)] [] S1 (some (vI z4)) S2 ∧ ((¬ w32 z4 = 0) → r = some (vI ((-1))) ∧ S' = S2) ∧ ((¬ (¬ w32 z4 = 0)) → ((w32 x2 < 0) → r = some (vI ((-1))) ∧ S' = S2) ∧ ((¬ w32 x2 < 0) → ((w32 x2 < w32 (S2.1 367 114)) → ∃ (z7 : Int) (S5 : ms), EV q 257 0 [some (vI x3), some (vI 0), some (vI 255)] [] S2 (some (vI z7)) S5 ∧ ((¬ w32 z7 = 0) → (0 ≤ w32 x1 ∧ w32 x1 < (48 : Nat)) ∧ ((w32 (S5.1 441 (w32 x1)) = 0) → ∃ (z11 : Int) (S9 : ms), EV q 409 0 [some (.ref 367), some (vI x1)] [] S5 (some (vI z11)) S9 ∧ (0 ≤ w32 (z11 + x2) ∧ w32 (z11 + x2) < (102032 : Nat)) ∧ ∃ (z15 : Int) (S13 : ms), EV q 409 0 [some (.ref 367), some (vI x1)] [] S9 (some (vI z15)) S13 ∧ (0 ≤ w32 (z15 + x2) ∧ w32 (z15 + x2) < (102032 : Nat)) ∧ ∀ S17 : ms, S17 = wI S13 439 (w32 (z15 + x2)) (b8 (b8 (bX ((S9.1 439 (w32 (z11 + x2))) % 256) x3))) → r = some (vI ((S9.1 439 (w32 (z11 + x2))) % 256)) ∧ S' = S17) ∧ ((¬ w32 (S5.1 441 (w32 x1)) = 0) → r = some (vI ((-3))) ∧ S' = S5)) ∧ ((¬ (¬ w32 z7 = 0)) → r = some (vI ((-2))) ∧ S' = S5)) ∧ ((¬ w32 x2 < w32 (S2.1 367 114)) → r = some (vI ((-1))) ∧ S' = S2)))) : EV q 416 0 [some (.ref 367), some (vI x1), some (vI x2), some (vI x3), none] [] S r S' := by
  unfold EV
  refine ev_bk 2 (S' := (2, [some (.ref 367), some (vI x1), some (vI x2), some (vI x3), none], [vI 0, .ref 367], hp S, 0, 0)) rfl ?_
  refine mv_pfI rfl rfl (sh_367) (by decide) rfl rfl ?_
  have F := F _ rfl
  refine ev_bk 2 (S' := (7, [some (.ref 367), some (vI x1), some (vI x2), some (vI x3), none], [vI x1, .ref 367], hp (wI S 367 0 0), 0, 0)) rfl ?_
  obtain ⟨z4, S2, e3, F⟩ := F
  refine mv_calv (as := [vI x1]) (rest := []) e3 (sh_367) rfl rfl rfl ⟨rfl, rfl⟩ rfl rfl rfl rfl rfl ?_
  refine mv_if 25 rfl rfl (fun c => ?_) (fun c => ?_)
  · have F := F.1 c
    refine ev_bk 1 (S' := (26, [some (.ref 367), some (vI x1), some (vI x2), some (vI x3), none], [vI ((-1))], hp S2, 0, 0)) rfl ?_
    obtain ⟨rfl, rfl⟩ := F
    exact ev_ret rfl rfl
  · have F := F.2 c
    refine ev_bk 1 (S' := (14, [some (.ref 367), some (vI x1), some (vI x2), some (vI x3), none], [vI x2], hp S2, 0, 0)) rfl ?_
    refine mv_if 25 rfl rfl (fun c => ?_) (fun c => ?_)
    · have F := F.1 c
      refine ev_bk 1 (S' := (26, [some (.ref 367), some (vI x1), some (vI x2), some (vI x3), none], [vI ((-1))], hp S2, 0, 0)) rfl ?_
      obtain ⟨rfl, rfl⟩ := F
      exact ev_ret rfl rfl
    · have F := F.2 c
      refine ev_bk 2 (S' := (19, [some (.ref 367), some (vI x1), some (vI x2), some (vI x3), none], [.ref 367, vI x2], hp S2, 0, 0)) rfl ?_
      refine mv_gfI rfl rfl (sh_367) (by decide) rfl ?_
      refine mv_icmp 27 rfl rfl (fun c => ?_) (fun c => ?_)
      · have F := F.1 c
        refine ev_bk 3 (S' := (32, [some (.ref 367), some (vI x1), some (vI x2), some (vI x3), none], [vI 255, vI 0, vI x3], hp S2, 0, 0)) rfl ?_
        obtain ⟨z7, S5, e6, F⟩ := F
        refine mv_cals (as := [vI x3, vI 0, vI 255]) (rest := []) e6 rfl rfl rfl ⟨rfl, rfl, rfl⟩ rfl rfl rfl rfl ?_
        refine mv_if 41 rfl rfl (fun c => ?_) (fun c => ?_)
        · have F := F.1 c
          refine ev_bk 1 (S' := (42, [some (.ref 367), some (vI x1), some (vI x2), some (vI x3), none], [.ref 367], hp S5, 0, 0)) rfl ?_
          refine mv_gfR rfl rfl (sh_367) (by decide) rfl ?_
          refine ev_bk 1 (S' := (46, [some (.ref 367), some (vI x1), some (vI x2), some (vI x3), none], [vI x1, .ref 441], hp S5, 0, 0)) rfl ?_
          obtain ⟨bb8, F⟩ := F
          refine mv_zal rfl (sh_441) bb8 ?_
          refine mv_if 53 rfl rfl (fun c => ?_) (fun c => ?_)
          · have F := F.1 c
            refine ev_bk 1 (S' := (54, [some (.ref 367), some (vI x1), some (vI x2), some (vI x3), none], [.ref 367], hp S5, 0, 0)) rfl ?_
            refine mv_gfR rfl rfl (sh_367) (by decide) rfl ?_
            refine ev_bk 2 (S' := (59, [some (.ref 367), some (vI x1), some (vI x2), some (vI x3), none], [vI x1, .ref 367, .ref 439], hp S5, 0, 0)) rfl ?_
            obtain ⟨z11, S9, e10, F⟩ := F
            refine mv_calv (as := [vI x1]) (rest := [.ref 439]) e10 (sh_367) rfl rfl rfl ⟨rfl, rfl⟩ rfl rfl rfl rfl rfl ?_
            refine ev_bk 1 (S' := (63, [some (.ref 367), some (vI x1), some (vI x2), some (vI x3), none], [vI x2, vI z11, .ref 439], hp S9, 0, 0)) rfl ?_
            refine mv_iadd rfl ?_
            obtain ⟨b12, F⟩ := F
            refine mv_bal rfl (sh_439) b12 ?_
            refine ev_bk 1 (S' := (68, [some (.ref 367), some (vI x1), some (vI x2), some (vI x3), none], [vI 255, vI (S9.1 439 (w32 (z11 + x2)))], hp S9, 0, 0)) rfl ?_
            refine mv_iandm 256 8 (by decide) rfl rfl rfl ?_
            refine ev_bk 2 (S' := (72, [some (.ref 367), some (vI x1), some (vI x2), some (vI x3), some (vI ((S9.1 439 (w32 (z11 + x2))) % 256))], [.ref 367], hp S9, 0, 0)) rfl ?_
            refine mv_gfR rfl rfl (sh_367) (by decide) rfl ?_
            refine ev_bk 2 (S' := (77, [some (.ref 367), some (vI x1), some (vI x2), some (vI x3), some (vI ((S9.1 439 (w32 (z11 + x2))) % 256))], [vI x1, .ref 367, .ref 439], hp S9, 0, 0)) rfl ?_
            obtain ⟨z15, S13, e14, F⟩ := F
            refine mv_calv (as := [vI x1]) (rest := [.ref 439]) e14 (sh_367) rfl rfl rfl ⟨rfl, rfl⟩ rfl rfl rfl rfl rfl ?_
            refine ev_bk 1 (S' := (81, [some (.ref 367), some (vI x1), some (vI x2), some (vI x3), some (vI ((S9.1 439 (w32 (z11 + x2))) % 256))], [vI x2, vI z15, .ref 439], hp S13, 0, 0)) rfl ?_
            refine mv_iadd rfl ?_
            refine ev_bk 2 (S' := (85, [some (.ref 367), some (vI x1), some (vI x2), some (vI x3), some (vI ((S9.1 439 (w32 (z11 + x2))) % 256))], [vI x3, vI ((S9.1 439 (w32 (z11 + x2))) % 256), vI (z15 + x2), .ref 439], hp S13, 0, 0)) rfl ?_
            refine mv_ixor rfl ?_
            refine mv_i2b rfl ?_
            obtain ⟨b16, F⟩ := F
            refine mv_bas rfl (sh_439) b16 ?_
            have F := F _ rfl
            refine ev_bk 1 (S' := (90, [some (.ref 367), some (vI x1), some (vI x2), some (vI x3), some (vI ((S9.1 439 (w32 (z11 + x2))) % 256))], [vI ((S9.1 439 (w32 (z11 + x2))) % 256)], hp (wI S13 439 (w32 (z15 + x2)) (b8 (b8 (bX ((S9.1 439 (w32 (z11 + x2))) % 256) x3)))), 0, 0)) rfl ?_
            obtain ⟨rfl, rfl⟩ := F
            exact ev_ret rfl rfl
          · have F := F.2 c
            refine ev_bk 1 (S' := (52, [some (.ref 367), some (vI x1), some (vI x2), some (vI x3), none], [vI ((-3))], hp S5, 0, 0)) rfl ?_
            obtain ⟨rfl, rfl⟩ := F
            exact ev_ret rfl rfl
        · have F := F.2 c
          refine ev_bk 1 (S' := (40, [some (.ref 367), some (vI x1), some (vI x2), some (vI x3), none], [vI ((-2))], hp S5, 0, 0)) rfl ?_
          obtain ⟨rfl, rfl⟩ := F
          exact ev_ret rfl rfl
      · have F := F.2 c
        refine ev_bk 1 (S' := (26, [some (.ref 367), some (vI x1), some (vI x2), some (vI x3), none], [vI ((-1))], hp S2, 0, 0)) rfl ?_
        obtain ⟨rfl, rfl⟩ := F
        exact ev_ret rfl rfl
theorem vc_MD_repair {q : Nat × (Nat → Int32)} {S S' : ms} {r : Option Value}
    (F : ∀ S1 : ms, S1 = wI S 367 0 0 → ((¬ w32 (S1.1 367 112) = 0) → ∃ (z4 : Int) (S2 : ms), EV q 418 0 [some (.ref 367), none, none] [] S1 (some (vI z4)) S2 ∧ ((w32 z4 ≤ w32 (S2.1 367 113)) → EV q 417 34 [some (.ref 367), some (vI z4), some (vI 0), some (vI 0), none] [] S2 r S') ∧ ((¬ w32 z4 ≤ w32 (S2.1 367 113)) → r = some (vI ((-3))) ∧ S' = S2)) ∧ ((¬ (¬ w32 (S1.1 367 112) = 0)) → r = some (vI ((-1))) ∧ S' = S1)) : EV q 417 0 [some (.ref 367), none, none, none, none] [] S r S' := by
  unfold EV
  refine ev_bk 2 (S' := (2, [some (.ref 367), none, none, none, none], [vI 0, .ref 367], hp S, 0, 0)) rfl ?_
  refine mv_pfI rfl rfl (sh_367) (by decide) rfl rfl ?_
  have F := F _ rfl
  refine ev_bk 1 (S' := (6, [some (.ref 367), none, none, none, none], [.ref 367], hp (wI S 367 0 0), 0, 0)) rfl ?_
  refine mv_gfI rfl rfl (sh_367) (by decide) rfl ?_
  refine mv_if 14 rfl rfl (fun c => ?_) (fun c => ?_)
  · have F := F.1 c
    refine ev_bk 1 (S' := (15, [some (.ref 367), none, none, none, none], [.ref 367], hp (wI S 367 0 0), 0, 0)) rfl ?_
    obtain ⟨z4, S2, e3, F⟩ := F
    refine mv_calv (as := []) (rest := []) e3 (sh_367) rfl rfl rfl ⟨rfl, rfl⟩ rfl rfl rfl rfl rfl ?_
    refine ev_bk 3 (S' := (21, [some (.ref 367), some (vI z4), none, none, none], [.ref 367, vI z4], hp S2, 0, 0)) rfl ?_
    refine mv_gfI rfl rfl (sh_367) (by decide) rfl ?_
    refine mv_icmp 30 rfl rfl (fun c => ?_) (fun c => ?_)
    · have F := F.1 c
      refine ev_bk 4 (S' := (34, [some (.ref 367), some (vI z4), some (vI 0), some (vI 0), none], [], hp S2, 0, 0)) rfl ?_
      exact F
    · have F := F.2 c
      refine ev_bk 1 (S' := (29, [some (.ref 367), some (vI z4), none, none, none], [vI ((-3))], hp S2, 0, 0)) rfl ?_
      obtain ⟨rfl, rfl⟩ := F
      exact ev_ret rfl rfl
  · have F := F.2 c
    refine ev_bk 1 (S' := (13, [some (.ref 367), none, none, none, none], [vI ((-1))], hp (wI S 367 0 0), 0, 0)) rfl ?_
    obtain ⟨rfl, rfl⟩ := F
    exact ev_ret rfl rfl
theorem vc_MD_repair_34 {q : Nat × (Nat → Int32)} {S S' : ms} {r : Option Value} (x1 x2 x3 : Int)
    (F : ((w32 (S.1 367 112) ≤ w32 x3) → EV q 417 72 [some (.ref 367), some (vI x1), some (vI x2), some (vI 0), some (vI 0)] [] S r S') ∧ ((¬ w32 (S.1 367 112) ≤ w32 x3) → (0 ≤ w32 x3 ∧ w32 x3 < (48 : Nat)) ∧ ((w32 (S.1 442 (w32 x3)) = 0) → EV q 417 61 [some (.ref 367), some (vI x1), some (vI x2), some (vI x3), none] [] S r S') ∧ ((¬ w32 (S.1 442 (w32 x3)) = 0) → (0 ≤ w32 x2 ∧ w32 x2 < (32 : Nat)) ∧ ∀ S3 : ms, S3 = wI S 445 (w32 x2) x3 → EV q 417 61 [some (.ref 367), some (vI x1), some (vI (x2 + 1)), some (vI x3), none] [] S3 r S'))) : EV q 417 34 [some (.ref 367), some (vI x1), some (vI x2), some (vI x3), none] [] S r S' := by
  unfold EV
  refine ev_bk 2 (S' := (36, [some (.ref 367), some (vI x1), some (vI x2), some (vI x3), none], [.ref 367, vI x3], hp S, 0, 0)) rfl ?_
  refine mv_gfI rfl rfl (sh_367) (by decide) rfl ?_
  refine mv_icmp 67 rfl rfl (fun c => ?_) (fun c => ?_)
  · have F := F.1 c
    refine ev_bk 4 (S' := (72, [some (.ref 367), some (vI x1), some (vI x2), some (vI 0), some (vI 0)], [], hp S, 0, 0)) rfl ?_
    exact F
  · have F := F.2 c
    refine ev_bk 1 (S' := (43, [some (.ref 367), some (vI x1), some (vI x2), some (vI x3), none], [.ref 367], hp S, 0, 0)) rfl ?_
    refine mv_gfR rfl rfl (sh_367) (by decide) rfl ?_
    refine ev_bk 1 (S' := (47, [some (.ref 367), some (vI x1), some (vI x2), some (vI x3), none], [vI x3, .ref 442], hp S, 0, 0)) rfl ?_
    obtain ⟨b1, F⟩ := F
    refine mv_zal rfl (sh_442) b1 ?_
    refine mv_if 61 rfl rfl (fun c => ?_) (fun c => ?_)
    · have F := F.1 c
      exact F
    · have F := F.2 c
      refine ev_bk 1 (S' := (52, [some (.ref 367), some (vI x1), some (vI x2), some (vI x3), none], [.ref 367], hp S, 0, 0)) rfl ?_
      refine mv_gfR rfl rfl (sh_367) (by decide) rfl ?_
      refine ev_bk 2 (S' := (57, [some (.ref 367), some (vI x1), some (vI x2), some (vI x3), none], [vI x3, vI x2, .ref 445], hp S, 0, 0)) rfl ?_
      obtain ⟨b2, F⟩ := F
      refine mv_ias rfl (sh_445) b2 ?_
      have F := F _ rfl
      refine mv_inc (lv' := [some (.ref 367), some (vI x1), some (vI (x2 + 1)), some (vI x3), none]) 2 1 rfl rfl rfl rfl ?_
      exact F
theorem vc_MD_repair_61 {q : Nat × (Nat → Int32)} {S S' : ms} {r : Option Value} (x1 x2 x3 : Int)
    (F : EV q 417 34 [some (.ref 367), some (vI x1), some (vI x2), some (vI (x3 + 1)), none] [] S r S') : EV q 417 61 [some (.ref 367), some (vI x1), some (vI x2), some (vI x3), none] [] S r S' := by
  unfold EV
  refine mv_inc (lv' := [some (.ref 367), some (vI x1), some (vI x2), some (vI (x3 + 1)), none]) 3 1 rfl rfl rfl rfl ?_
  refine mv_goto 34 rfl rfl ?_
  exact F
theorem vc_MD_repair_72 {q : Nat × (Nat → Int32)} {S S' : ms} {r : Option Value} (x1 x2 x3 x4 : Int)
    (F : ((w32 (S.1 367 113) ≤ w32 x4) → EV q 417 118 [some (.ref 367), some (vI x1), some (vI x2), some (vI x3), some (vI x4)] [] S r S') ∧ ((¬ w32 (S.1 367 113) ≤ w32 x4) → ((w32 x2 ≤ w32 x3) → EV q 417 118 [some (.ref 367), some (vI x1), some (vI x2), some (vI x3), some (vI x4)] [] S r S') ∧ ((¬ w32 x2 ≤ w32 x3) → (0 ≤ w32 (S.1 367 112 + x4) ∧ w32 (S.1 367 112 + x4) < (48 : Nat)) ∧ ((¬ w32 (S.1 442 (w32 (S.1 367 112 + x4))) = 0) → EV q 417 112 [some (.ref 367), some (vI x1), some (vI x2), some (vI x3), some (vI x4)] [] S r S') ∧ ((¬ (¬ w32 (S.1 442 (w32 (S.1 367 112 + x4))) = 0)) → (0 ≤ w32 x3 ∧ w32 x3 < (16 : Nat)) ∧ ∀ S3 : ms, S3 = wI S 444 (w32 x3) x4 → EV q 417 112 [some (.ref 367), some (vI x1), some (vI x2), some (vI (x3 + 1)), some (vI x4)] [] S3 r S')))) : EV q 417 72 [some (.ref 367), some (vI x1), some (vI x2), some (vI x3), some (vI x4)] [] S r S' := by
  unfold EV
  refine ev_bk 2 (S' := (75, [some (.ref 367), some (vI x1), some (vI x2), some (vI x3), some (vI x4)], [.ref 367, vI x4], hp S, 0, 0)) rfl ?_
  refine mv_gfI rfl rfl (sh_367) (by decide) rfl ?_
  refine mv_icmp 118 rfl rfl (fun c => ?_) (fun c => ?_)
  · have F := F.1 c
    exact F
  · have F := F.2 c
    refine ev_bk 2 (S' := (83, [some (.ref 367), some (vI x1), some (vI x2), some (vI x3), some (vI x4)], [vI x2, vI x3], hp S, 0, 0)) rfl ?_
    refine mv_icmp 118 rfl rfl (fun c => ?_) (fun c => ?_)
    · have F := F.1 c
      exact F
    · have F := F.2 c
      refine ev_bk 1 (S' := (87, [some (.ref 367), some (vI x1), some (vI x2), some (vI x3), some (vI x4)], [.ref 367], hp S, 0, 0)) rfl ?_
      refine mv_gfR rfl rfl (sh_367) (by decide) rfl ?_
      refine ev_bk 1 (S' := (91, [some (.ref 367), some (vI x1), some (vI x2), some (vI x3), some (vI x4)], [.ref 367, .ref 442], hp S, 0, 0)) rfl ?_
      refine mv_gfI rfl rfl (sh_367) (by decide) rfl ?_
      refine ev_bk 1 (S' := (96, [some (.ref 367), some (vI x1), some (vI x2), some (vI x3), some (vI x4)], [vI x4, vI (S.1 367 112), .ref 442], hp S, 0, 0)) rfl ?_
      refine mv_iadd rfl ?_
      obtain ⟨b1, F⟩ := F
      refine mv_zal rfl (sh_442) b1 ?_
      refine mv_if 112 rfl rfl (fun c => ?_) (fun c => ?_)
      · have F := F.1 c
        exact F
      · have F := F.2 c
        refine ev_bk 1 (S' := (102, [some (.ref 367), some (vI x1), some (vI x2), some (vI x3), some (vI x4)], [.ref 367], hp S, 0, 0)) rfl ?_
        refine mv_gfR rfl rfl (sh_367) (by decide) rfl ?_
        refine ev_bk 2 (S' := (108, [some (.ref 367), some (vI x1), some (vI x2), some (vI x3), some (vI x4)], [vI x4, vI x3, .ref 444], hp S, 0, 0)) rfl ?_
        obtain ⟨b2, F⟩ := F
        refine mv_ias rfl (sh_444) b2 ?_
        have F := F _ rfl
        refine mv_inc (lv' := [some (.ref 367), some (vI x1), some (vI x2), some (vI (x3 + 1)), some (vI x4)]) 3 1 rfl rfl rfl rfl ?_
        exact F
theorem vc_MD_repair_112 {q : Nat × (Nat → Int32)} {S S' : ms} {r : Option Value} (x1 x2 x3 x4 : Int)
    (F : EV q 417 72 [some (.ref 367), some (vI x1), some (vI x2), some (vI x3), some (vI (x4 + 1))] [] S r S') : EV q 417 112 [some (.ref 367), some (vI x1), some (vI x2), some (vI x3), some (vI x4)] [] S r S' := by
  unfold EV
  refine mv_inc (lv' := [some (.ref 367), some (vI x1), some (vI x2), some (vI x3), some (vI (x4 + 1))]) 4 1 rfl rfl rfl rfl ?_
  refine mv_goto 72 rfl rfl ?_
  exact F
theorem vc_MD_repair_118 {q : Nat × (Nat → Int32)} {S S' : ms} {r : Option Value} (x1 x2 x3 x4 : Int)
    (F : ∃ (S1 : ms), EV q 419 0 [some (.ref 367), some (vI x2), none, none, none, none, none, none, none] [] S none S1 ∧ EV q 417 126 [some (.ref 367), some (vI x1), some (vI x2), some (vI x3), some (vI 0)] [] S1 r S') : EV q 417 118 [some (.ref 367), some (vI x1), some (vI x2), some (vI x3), some (vI x4)] [] S r S' := by
  unfold EV
  refine ev_bk 2 (S' := (120, [some (.ref 367), some (vI x1), some (vI x2), some (vI x3), some (vI x4)], [vI x2, .ref 367], hp S, 0, 0)) rfl ?_
  obtain ⟨S1, e2, F⟩ := F
  refine mv_calv (as := [vI x2]) (rest := []) e2 (sh_367) rfl rfl rfl ⟨rfl, rfl⟩ rfl rfl rfl rfl rfl ?_
  refine ev_bk 2 (S' := (126, [some (.ref 367), some (vI x1), some (vI x2), some (vI x3), some (vI 0)], [], hp S1, 0, 0)) rfl ?_
  exact F
theorem vc_MD_repair_126 {q : Nat × (Nat → Int32)} {S S' : ms} {r : Option Value} (x1 x2 x3 x4 : Int)
    (F : ((w32 (S.1 367 113) ≤ w32 x4) → EV q 417 165 [some (.ref 367), some (vI x1), some (vI x2), some (vI x3), some (vI 0)] [] S r S') ∧ ((¬ w32 (S.1 367 113) ≤ w32 x4) → (0 ≤ w32 (S.1 367 112 + x4) ∧ w32 (S.1 367 112 + x4) < (48 : Nat)) ∧ ((w32 (S.1 442 (w32 (S.1 367 112 + x4))) = 0) → EV q 417 156 [some (.ref 367), some (vI x1), some (vI x2), some (vI x3), some (vI x4)] [] S r S') ∧ ((¬ w32 (S.1 442 (w32 (S.1 367 112 + x4))) = 0) → ∃ (S2 : ms), EV q 408 0 [some (.ref 367), some (vI x4), none, none, none, none] [] S none S2 ∧ EV q 417 156 [some (.ref 367), some (vI x1), some (vI x2), some (vI x3), some (vI x4)] [] S2 r S'))) : EV q 417 126 [some (.ref 367), some (vI x1), some (vI x2), some (vI x3), some (vI x4)] [] S r S' := by
  unfold EV
  refine ev_bk 2 (S' := (129, [some (.ref 367), some (vI x1), some (vI x2), some (vI x3), some (vI x4)], [.ref 367, vI x4], hp S, 0, 0)) rfl ?_
  refine mv_gfI rfl rfl (sh_367) (by decide) rfl ?_
  refine mv_icmp 162 rfl rfl (fun c => ?_) (fun c => ?_)
  · have F := F.1 c
    refine ev_bk 2 (S' := (165, [some (.ref 367), some (vI x1), some (vI x2), some (vI x3), some (vI 0)], [], hp S, 0, 0)) rfl ?_
    exact F
  · have F := F.2 c
    refine ev_bk 1 (S' := (136, [some (.ref 367), some (vI x1), some (vI x2), some (vI x3), some (vI x4)], [.ref 367], hp S, 0, 0)) rfl ?_
    refine mv_gfR rfl rfl (sh_367) (by decide) rfl ?_
    refine ev_bk 1 (S' := (140, [some (.ref 367), some (vI x1), some (vI x2), some (vI x3), some (vI x4)], [.ref 367, .ref 442], hp S, 0, 0)) rfl ?_
    refine mv_gfI rfl rfl (sh_367) (by decide) rfl ?_
    refine ev_bk 1 (S' := (145, [some (.ref 367), some (vI x1), some (vI x2), some (vI x3), some (vI x4)], [vI x4, vI (S.1 367 112), .ref 442], hp S, 0, 0)) rfl ?_
    refine mv_iadd rfl ?_
    obtain ⟨b1, F⟩ := F
    refine mv_zal rfl (sh_442) b1 ?_
    refine mv_if 156 rfl rfl (fun c => ?_) (fun c => ?_)
    · have F := F.1 c
      exact F
    · have F := F.2 c
      refine ev_bk 2 (S' := (153, [some (.ref 367), some (vI x1), some (vI x2), some (vI x3), some (vI x4)], [vI x4, .ref 367], hp S, 0, 0)) rfl ?_
      obtain ⟨S2, e3, F⟩ := F
      refine mv_calv (as := [vI x4]) (rest := []) e3 (sh_367) rfl rfl rfl ⟨rfl, rfl⟩ rfl rfl rfl rfl rfl ?_
      exact F
theorem vc_MD_repair_156 {q : Nat × (Nat → Int32)} {S S' : ms} {r : Option Value} (x1 x2 x3 x4 : Int)
    (F : EV q 417 126 [some (.ref 367), some (vI x1), some (vI x2), some (vI x3), some (vI (x4 + 1))] [] S r S') : EV q 417 156 [some (.ref 367), some (vI x1), some (vI x2), some (vI x3), some (vI x4)] [] S r S' := by
  unfold EV
  refine mv_inc (lv' := [some (.ref 367), some (vI x1), some (vI x2), some (vI x3), some (vI (x4 + 1))]) 4 1 rfl rfl rfl rfl ?_
  refine mv_goto 126 rfl rfl ?_
  exact F
theorem vc_MD_repair_165 {q : Nat × (Nat → Int32)} {S S' : ms} {r : Option Value} (x1 x2 x3 x4 : Int)
    (F : ((w32 (S.1 367 112 + (S.1 367 113)) ≤ w32 x4) → r = some (vI x1) ∧ S' = S) ∧ ((¬ w32 (S.1 367 112 + (S.1 367 113)) ≤ w32 x4) → (0 ≤ w32 x4 ∧ w32 x4 < (48 : Nat)) ∧ ∀ S2 : ms, S2 = wI S 441 (w32 x4) (0 % 2) → EV q 417 165 [some (.ref 367), some (vI x1), some (vI x2), some (vI x3), some (vI (x4 + 1))] [] S2 r S')) : EV q 417 165 [some (.ref 367), some (vI x1), some (vI x2), some (vI x3), some (vI x4)] [] S r S' := by
  unfold EV
  refine ev_bk 2 (S' := (168, [some (.ref 367), some (vI x1), some (vI x2), some (vI x3), some (vI x4)], [.ref 367, vI x4], hp S, 0, 0)) rfl ?_
  refine mv_gfI rfl rfl (sh_367) (by decide) rfl ?_
  refine ev_bk 1 (S' := (172, [some (.ref 367), some (vI x1), some (vI x2), some (vI x3), some (vI x4)], [.ref 367, vI (S.1 367 112), vI x4], hp S, 0, 0)) rfl ?_
  refine mv_gfI rfl rfl (sh_367) (by decide) rfl ?_
  refine mv_iadd rfl ?_
  refine mv_icmp 193 rfl rfl (fun c => ?_) (fun c => ?_)
  · have F := F.1 c
    refine ev_bk 1 (S' := (194, [some (.ref 367), some (vI x1), some (vI x2), some (vI x3), some (vI x4)], [vI x1], hp S, 0, 0)) rfl ?_
    obtain ⟨rfl, rfl⟩ := F
    exact ev_ret rfl rfl
  · have F := F.2 c
    refine ev_bk 1 (S' := (180, [some (.ref 367), some (vI x1), some (vI x2), some (vI x3), some (vI x4)], [.ref 367], hp S, 0, 0)) rfl ?_
    refine mv_gfR rfl rfl (sh_367) (by decide) rfl ?_
    refine ev_bk 2 (S' := (186, [some (.ref 367), some (vI x1), some (vI x2), some (vI x3), some (vI x4)], [vI 0, vI x4, .ref 441], hp S, 0, 0)) rfl ?_
    obtain ⟨b1, F⟩ := F
    refine mv_zas rfl (sh_441) b1 ?_
    have F := F _ rfl
    refine mv_inc (lv' := [some (.ref 367), some (vI x1), some (vI x2), some (vI x3), some (vI (x4 + 1))]) 4 1 rfl rfl rfl rfl ?_
    refine mv_goto 165 rfl rfl ?_
    exact F
theorem vc_MD_findGone {q : Nat × (Nat → Int32)} {S S' : ms} {r : Option Value}
    (F : EV q 418 4 [some (.ref 367), some (vI 0), some (vI 0)] [] S r S') : EV q 418 0 [some (.ref 367), none, none] [] S r S' := by
  unfold EV
  refine ev_bk 4 (S' := (4, [some (.ref 367), some (vI 0), some (vI 0)], [], hp S, 0, 0)) rfl ?_
  exact F
theorem vc_MD_findGone_4 {q : Nat × (Nat → Int32)} {S S' : ms} {r : Option Value} (x1 x2 : Int)
    (F : ((w32 (S.1 367 112 + (S.1 367 113)) ≤ w32 x2) → r = some (vI x1) ∧ S' = S) ∧ ((¬ w32 (S.1 367 112 + (S.1 367 113)) ≤ w32 x2) → (0 ≤ w32 x2 ∧ w32 x2 < (48 : Nat)) ∧ ((¬ w32 (S.1 441 (w32 x2)) = 0) → EV q 418 57 [some (.ref 367), some (vI x1), some (vI x2)] [vI x2, .ref 442] S r S') ∧ ((¬ (¬ w32 (S.1 441 (w32 x2)) = 0)) → ∃ (z4 : Int) (S2 : ms), EV q 409 0 [some (.ref 367), some (vI x2)] [] S (some (vI z4)) S2 ∧ ∃ (z7 : Int) (S5 : ms), EV q 264 0 [some (.ref 367), some (.ref 439), some (vI z4), some (vI (S2.1 367 114)), none, none] [] S2 (some (vI z7)) S5 ∧ (0 ≤ w32 x2 ∧ w32 x2 < (48 : Nat)) ∧ ((w32 z7 = w32 (S5.1 440 (w32 x2))) → EV q 418 62 [some (.ref 367), some (vI x1), some (vI x2)] [vI 0, vI x2, .ref 442] S5 r S') ∧ ((¬ w32 z7 = w32 (S5.1 440 (w32 x2))) → EV q 418 57 [some (.ref 367), some (vI x1), some (vI x2)] [vI x2, .ref 442] S5 r S')))) : EV q 418 4 [some (.ref 367), some (vI x1), some (vI x2)] [] S r S' := by
  unfold EV
  refine ev_bk 2 (S' := (6, [some (.ref 367), some (vI x1), some (vI x2)], [.ref 367, vI x2], hp S, 0, 0)) rfl ?_
  refine mv_gfI rfl rfl (sh_367) (by decide) rfl ?_
  refine ev_bk 1 (S' := (10, [some (.ref 367), some (vI x1), some (vI x2)], [.ref 367, vI (S.1 367 112), vI x2], hp S, 0, 0)) rfl ?_
  refine mv_gfI rfl rfl (sh_367) (by decide) rfl ?_
  refine mv_iadd rfl ?_
  refine mv_icmp 86 rfl rfl (fun c => ?_) (fun c => ?_)
  · have F := F.1 c
    refine ev_bk 1 (S' := (87, [some (.ref 367), some (vI x1), some (vI x2)], [vI x1], hp S, 0, 0)) rfl ?_
    obtain ⟨rfl, rfl⟩ := F
    exact ev_ret rfl rfl
  · have F := F.2 c
    refine ev_bk 1 (S' := (18, [some (.ref 367), some (vI x1), some (vI x2)], [.ref 367], hp S, 0, 0)) rfl ?_
    refine mv_gfR rfl rfl (sh_367) (by decide) rfl ?_
    refine ev_bk 2 (S' := (23, [some (.ref 367), some (vI x1), some (vI x2)], [.ref 367, vI x2, .ref 442], hp S, 0, 0)) rfl ?_
    refine mv_gfR rfl rfl (sh_367) (by decide) rfl ?_
    refine ev_bk 1 (S' := (27, [some (.ref 367), some (vI x1), some (vI x2)], [vI x2, .ref 441, vI x2, .ref 442], hp S, 0, 0)) rfl ?_
    obtain ⟨b1, F⟩ := F
    refine mv_zal rfl (sh_441) b1 ?_
    refine mv_if 57 rfl rfl (fun c => ?_) (fun c => ?_)
    · have F := F.1 c
      exact F
    · have F := F.2 c
      refine ev_bk 2 (S' := (33, [some (.ref 367), some (vI x1), some (vI x2)], [.ref 367, .ref 367, vI x2, .ref 442], hp S, 0, 0)) rfl ?_
      refine mv_gfR rfl rfl (sh_367) (by decide) rfl ?_
      refine ev_bk 2 (S' := (38, [some (.ref 367), some (vI x1), some (vI x2)], [vI x2, .ref 367, .ref 439, .ref 367, vI x2, .ref 442], hp S, 0, 0)) rfl ?_
      obtain ⟨z4, S2, e3, F⟩ := F
      refine mv_calv (as := [vI x2]) (rest := [.ref 439, .ref 367, vI x2, .ref 442]) e3 (sh_367) rfl rfl rfl ⟨rfl, rfl⟩ rfl rfl rfl rfl rfl ?_
      refine ev_bk 1 (S' := (42, [some (.ref 367), some (vI x1), some (vI x2)], [.ref 367, vI z4, .ref 439, .ref 367, vI x2, .ref 442], hp S2, 0, 0)) rfl ?_
      refine mv_gfI rfl rfl (sh_367) (by decide) rfl ?_
      obtain ⟨z7, S5, e6, F⟩ := F
      refine mv_calv (as := [.ref 439, vI z4, vI (S2.1 367 114)]) (rest := [vI x2, .ref 442]) e6 (sh_367) rfl rfl rfl ⟨rfl, rfl⟩ rfl rfl rfl rfl rfl ?_
      refine ev_bk 1 (S' := (49, [some (.ref 367), some (vI x1), some (vI x2)], [.ref 367, vI z7, vI x2, .ref 442], hp S5, 0, 0)) rfl ?_
      refine mv_gfR rfl rfl (sh_367) (by decide) rfl ?_
      refine ev_bk 1 (S' := (53, [some (.ref 367), some (vI x1), some (vI x2)], [vI x2, .ref 440, vI z7, vI x2, .ref 442], hp S5, 0, 0)) rfl ?_
      obtain ⟨b8, F⟩ := F
      refine mv_ial rfl (sh_440) b8 ?_
      refine mv_icmp 61 rfl rfl (fun c => ?_) (fun c => ?_)
      · have F := F.1 c
        refine ev_bk 1 (S' := (62, [some (.ref 367), some (vI x1), some (vI x2)], [vI 0, vI x2, .ref 442], hp S5, 0, 0)) rfl ?_
        exact F
      · have F := F.2 c
        exact F
theorem vc_MD_findGone_57 {q : Nat × (Nat → Int32)} {S S' : ms} {r : Option Value} (x1 x2 y0 : Int)
    (F : EV q 418 62 [some (.ref 367), some (vI x1), some (vI x2)] [vI 1, vI y0, .ref 442] S r S') : EV q 418 57 [some (.ref 367), some (vI x1), some (vI x2)] [vI y0, .ref 442] S r S' := by
  unfold EV
  refine ev_bk 1 (S' := (58, [some (.ref 367), some (vI x1), some (vI x2)], [vI 1, vI y0, .ref 442], hp S, 0, 0)) rfl ?_
  refine mv_goto 62 rfl rfl ?_
  exact F
theorem vc_MD_findGone_62 {q : Nat × (Nat → Int32)} {S S' : ms} {r : Option Value} (x1 x2 y0 y1 : Int)
    (F : (0 ≤ w32 y1 ∧ w32 y1 < (48 : Nat)) ∧ ∀ S2 : ms, S2 = wI S 442 (w32 y1) (y0 % 2) → (0 ≤ w32 x2 ∧ w32 x2 < (48 : Nat)) ∧ ((w32 (S2.1 442 (w32 x2)) = 0) → EV q 418 78 [some (.ref 367), some (vI x1), some (vI x2)] [vI 0, vI x1] S2 r S') ∧ ((¬ w32 (S2.1 442 (w32 x2)) = 0) → EV q 418 78 [some (.ref 367), some (vI x1), some (vI x2)] [vI 1, vI x1] S2 r S')) : EV q 418 62 [some (.ref 367), some (vI x1), some (vI x2)] [vI y0, vI y1, .ref 442] S r S' := by
  unfold EV
  obtain ⟨b1, F⟩ := F
  refine mv_zas rfl (sh_442) b1 ?_
  have F := F _ rfl
  refine ev_bk 2 (S' := (65, [some (.ref 367), some (vI x1), some (vI x2)], [.ref 367, vI x1], hp (wI S 442 (w32 y1) (y0 % 2)), 0, 0)) rfl ?_
  refine mv_gfR rfl rfl (sh_367) (by decide) rfl ?_
  refine ev_bk 1 (S' := (69, [some (.ref 367), some (vI x1), some (vI x2)], [vI x2, .ref 442, vI x1], hp (wI S 442 (w32 y1) (y0 % 2)), 0, 0)) rfl ?_
  obtain ⟨b3, F⟩ := F
  refine mv_zal rfl (sh_442) b3 ?_
  refine mv_if 77 rfl rfl (fun c => ?_) (fun c => ?_)
  · have F := F.1 c
    refine ev_bk 1 (S' := (78, [some (.ref 367), some (vI x1), some (vI x2)], [vI 0, vI x1], hp (wI S 442 (w32 y1) (y0 % 2)), 0, 0)) rfl ?_
    exact F
  · have F := F.2 c
    refine ev_bk 1 (S' := (74, [some (.ref 367), some (vI x1), some (vI x2)], [vI 1, vI x1], hp (wI S 442 (w32 y1) (y0 % 2)), 0, 0)) rfl ?_
    refine mv_goto 78 rfl rfl ?_
    exact F
theorem vc_MD_findGone_78 {q : Nat × (Nat → Int32)} {S S' : ms} {r : Option Value} (x1 x2 y0 y1 : Int)
    (F : EV q 418 4 [some (.ref 367), some (vI (y1 + y0)), some (vI (x2 + 1))] [] S r S') : EV q 418 78 [some (.ref 367), some (vI x1), some (vI x2)] [vI y0, vI y1] S r S' := by
  unfold EV
  refine mv_iadd rfl ?_
  refine ev_bk 1 (S' := (80, [some (.ref 367), some (vI (y1 + y0)), some (vI x2)], [], hp S, 0, 0)) rfl ?_
  refine mv_inc (lv' := [some (.ref 367), some (vI (y1 + y0)), some (vI (x2 + 1))]) 2 1 rfl rfl rfl rfl ?_
  refine mv_goto 4 rfl rfl ?_
  exact F
theorem vc_MD_solve {q : Nat × (Nat → Int32)} {S S' : ms} {r : Option Value} (x1 : Int)
    (F : EV q 419 6 [some (.ref 367), some (vI x1), some (vI (2 * x1)), some (vI 0), none, none, none, none, none] [] S r S') : EV q 419 0 [some (.ref 367), some (vI x1), none, none, none, none, none, none, none] [] S r S' := by
  unfold EV
  refine ev_bk 2 (S' := (2, [some (.ref 367), some (vI x1), none, none, none, none, none, none, none], [vI x1, vI 2], hp S, 0, 0)) rfl ?_
  refine mv_imul rfl ?_
  refine ev_bk 3 (S' := (6, [some (.ref 367), some (vI x1), some (vI (2 * x1)), some (vI 0), none, none, none, none, none], [], hp S, 0, 0)) rfl ?_
  exact F
theorem vc_MD_solve_6 {q : Nat × (Nat → Int32)} {S S' : ms} {r : Option Value} (x1 x2 x3 : Int)
    (F : ((w32 x1 ≤ w32 x3) → EV q 419 89 [some (.ref 367), some (vI x1), some (vI x2), some (vI 0), none, none, none, none, none] [] S r S') ∧ ((¬ w32 x1 ≤ w32 x3) → EV q 419 14 [some (.ref 367), some (vI x1), some (vI x2), some (vI x3), some (vI 0), none, none, none, none] [] S r S')) : EV q 419 6 [some (.ref 367), some (vI x1), some (vI x2), some (vI x3), none, none, none, none, none] [] S r S' := by
  unfold EV
  refine ev_bk 2 (S' := (8, [some (.ref 367), some (vI x1), some (vI x2), some (vI x3), none, none, none, none, none], [vI x1, vI x3], hp S, 0, 0)) rfl ?_
  refine mv_icmp 87 rfl rfl (fun c => ?_) (fun c => ?_)
  · have F := F.1 c
    refine ev_bk 2 (S' := (89, [some (.ref 367), some (vI x1), some (vI x2), some (vI 0), none, none, none, none, none], [], hp S, 0, 0)) rfl ?_
    exact F
  · have F := F.2 c
    refine ev_bk 2 (S' := (14, [some (.ref 367), some (vI x1), some (vI x2), some (vI x3), some (vI 0), none, none, none, none], [], hp S, 0, 0)) rfl ?_
    exact F
theorem vc_MD_solve_14 {q : Nat × (Nat → Int32)} {S S' : ms} {r : Option Value} (x1 x2 x3 x4 : Int)
    (F : ((w32 x1 ≤ w32 x4) → EV q 419 6 [some (.ref 367), some (vI x1), some (vI x2), some (vI (x3 + 1)), none, none, none, none, none] [] S r S') ∧ ((¬ w32 x1 ≤ w32 x4) → (0 ≤ w32 x4 ∧ w32 x4 < (32 : Nat)) ∧ (0 ≤ w32 x3 ∧ w32 x3 < (16 : Nat)) ∧ ∃ (z5 : Int) (S3 : ms), EV q 410 0 [some (vI (S.1 445 (w32 x4))), some (vI (S.1 444 (w32 x3)))] [] S (some (vI z5)) S3 ∧ ∃ (z8 : Int) (S6 : ms), EV q 411 0 [some (.ref 367), some (vI z5)] [] S3 (some (vI z8)) S6 ∧ (0 ≤ w32 ((x3 * x2) + x4) ∧ w32 ((x3 * x2) + x4) < (512 : Nat)) ∧ ∀ S10 : ms, S10 = wI S6 443 (w32 ((x3 * x2) + x4)) z8 → ((¬ w32 x3 = w32 x4) → EV q 419 74 [some (.ref 367), some (vI x1), some (vI x2), some (vI x3), some (vI x4), none, none, none, none] [vI 0, vI (((x3 * x2) + x1) + x4), .ref 443] S10 r S') ∧ ((¬ (¬ w32 x3 = w32 x4)) → EV q 419 74 [some (.ref 367), some (vI x1), some (vI x2), some (vI x3), some (vI x4), none, none, none, none] [vI 1, vI (((x3 * x2) + x1) + x4), .ref 443] S10 r S'))) : EV q 419 14 [some (.ref 367), some (vI x1), some (vI x2), some (vI x3), some (vI x4), none, none, none, none] [] S r S' := by
  unfold EV
  refine ev_bk 2 (S' := (17, [some (.ref 367), some (vI x1), some (vI x2), some (vI x3), some (vI x4), none, none, none, none], [vI x1, vI x4], hp S, 0, 0)) rfl ?_
  refine mv_icmp 81 rfl rfl (fun c => ?_) (fun c => ?_)
  · have F := F.1 c
    refine mv_inc (lv' := [some (.ref 367), some (vI x1), some (vI x2), some (vI (x3 + 1)), some (vI x4), none, none, none, none]) 3 1 rfl rfl rfl rfl ?_
    refine mv_goto 6 rfl rfl ?_
    exact ev_wk (le_s (le_s (le_s (le_s (le_n (le_s (le_s (le_s (le_s le_0))))))))) F
  · have F := F.2 c
    refine ev_bk 1 (S' := (21, [some (.ref 367), some (vI x1), some (vI x2), some (vI x3), some (vI x4), none, none, none, none], [.ref 367], hp S, 0, 0)) rfl ?_
    refine mv_gfR rfl rfl (sh_367) (by decide) rfl ?_
    refine ev_bk 2 (S' := (26, [some (.ref 367), some (vI x1), some (vI x2), some (vI x3), some (vI x4), none, none, none, none], [vI x2, vI x3, .ref 443], hp S, 0, 0)) rfl ?_
    refine mv_imul rfl ?_
    refine ev_bk 1 (S' := (29, [some (.ref 367), some (vI x1), some (vI x2), some (vI x3), some (vI x4), none, none, none, none], [vI x4, vI (x3 * x2), .ref 443], hp S, 0, 0)) rfl ?_
    refine mv_iadd rfl ?_
    refine ev_bk 2 (S' := (32, [some (.ref 367), some (vI x1), some (vI x2), some (vI x3), some (vI x4), none, none, none, none], [.ref 367, .ref 367, vI ((x3 * x2) + x4), .ref 443], hp S, 0, 0)) rfl ?_
    refine mv_gfR rfl rfl (sh_367) (by decide) rfl ?_
    refine ev_bk 1 (S' := (37, [some (.ref 367), some (vI x1), some (vI x2), some (vI x3), some (vI x4), none, none, none, none], [vI x4, .ref 445, .ref 367, vI ((x3 * x2) + x4), .ref 443], hp S, 0, 0)) rfl ?_
    obtain ⟨b1, F⟩ := F
    refine mv_ial rfl (sh_445) b1 ?_
    refine ev_bk 1 (S' := (39, [some (.ref 367), some (vI x1), some (vI x2), some (vI x3), some (vI x4), none, none, none, none], [.ref 367, vI (S.1 445 (w32 x4)), .ref 367, vI ((x3 * x2) + x4), .ref 443], hp S, 0, 0)) rfl ?_
    refine mv_gfR rfl rfl (sh_367) (by decide) rfl ?_
    refine ev_bk 1 (S' := (43, [some (.ref 367), some (vI x1), some (vI x2), some (vI x3), some (vI x4), none, none, none, none], [vI x3, .ref 444, vI (S.1 445 (w32 x4)), .ref 367, vI ((x3 * x2) + x4), .ref 443], hp S, 0, 0)) rfl ?_
    obtain ⟨b2, F⟩ := F
    refine mv_ial rfl (sh_444) b2 ?_
    obtain ⟨z5, S3, e4, F⟩ := F
    refine mv_cals (as := [vI (S.1 445 (w32 x4)), vI (S.1 444 (w32 x3))]) (rest := [.ref 367, vI ((x3 * x2) + x4), .ref 443]) e4 rfl rfl rfl ⟨rfl, rfl, rfl⟩ rfl rfl rfl rfl ?_
    obtain ⟨z8, S6, e7, F⟩ := F
    refine mv_calv (as := [vI z5]) (rest := [vI ((x3 * x2) + x4), .ref 443]) e7 (sh_367) rfl rfl rfl ⟨rfl, rfl⟩ rfl rfl rfl rfl rfl ?_
    obtain ⟨b9, F⟩ := F
    refine mv_ias rfl (sh_443) b9 ?_
    have F := F _ rfl
    refine ev_bk 1 (S' := (52, [some (.ref 367), some (vI x1), some (vI x2), some (vI x3), some (vI x4), none, none, none, none], [.ref 367], hp (wI S6 443 (w32 ((x3 * x2) + x4)) z8), 0, 0)) rfl ?_
    refine mv_gfR rfl rfl (sh_367) (by decide) rfl ?_
    refine ev_bk 2 (S' := (57, [some (.ref 367), some (vI x1), some (vI x2), some (vI x3), some (vI x4), none, none, none, none], [vI x2, vI x3, .ref 443], hp (wI S6 443 (w32 ((x3 * x2) + x4)) z8), 0, 0)) rfl ?_
    refine mv_imul rfl ?_
    refine ev_bk 1 (S' := (59, [some (.ref 367), some (vI x1), some (vI x2), some (vI x3), some (vI x4), none, none, none, none], [vI x1, vI (x3 * x2), .ref 443], hp (wI S6 443 (w32 ((x3 * x2) + x4)) z8), 0, 0)) rfl ?_
    refine mv_iadd rfl ?_
    refine ev_bk 1 (S' := (62, [some (.ref 367), some (vI x1), some (vI x2), some (vI x3), some (vI x4), none, none, none, none], [vI x4, vI ((x3 * x2) + x1), .ref 443], hp (wI S6 443 (w32 ((x3 * x2) + x4)) z8), 0, 0)) rfl ?_
    refine mv_iadd rfl ?_
    refine ev_bk 2 (S' := (66, [some (.ref 367), some (vI x1), some (vI x2), some (vI x3), some (vI x4), none, none, none, none], [vI x4, vI x3, vI (((x3 * x2) + x1) + x4), .ref 443], hp (wI S6 443 (w32 ((x3 * x2) + x4)) z8), 0, 0)) rfl ?_
    refine mv_icmp 73 rfl rfl (fun c => ?_) (fun c => ?_)
    · have F := F.1 c
      refine ev_bk 1 (S' := (74, [some (.ref 367), some (vI x1), some (vI x2), some (vI x3), some (vI x4), none, none, none, none], [vI 0, vI (((x3 * x2) + x1) + x4), .ref 443], hp (wI S6 443 (w32 ((x3 * x2) + x4)) z8), 0, 0)) rfl ?_
      exact F
    · have F := F.2 c
      refine ev_bk 1 (S' := (70, [some (.ref 367), some (vI x1), some (vI x2), some (vI x3), some (vI x4), none, none, none, none], [vI 1, vI (((x3 * x2) + x1) + x4), .ref 443], hp (wI S6 443 (w32 ((x3 * x2) + x4)) z8), 0, 0)) rfl ?_
      refine mv_goto 74 rfl rfl ?_
      exact F
theorem vc_MD_solve_74 {q : Nat × (Nat → Int32)} {S S' : ms} {r : Option Value} (x1 x2 x3 x4 y0 y1 : Int)
    (F : (0 ≤ w32 y1 ∧ w32 y1 < (512 : Nat)) ∧ ∀ S2 : ms, S2 = wI S 443 (w32 y1) y0 → EV q 419 14 [some (.ref 367), some (vI x1), some (vI x2), some (vI x3), some (vI (x4 + 1)), none, none, none, none] [] S2 r S') : EV q 419 74 [some (.ref 367), some (vI x1), some (vI x2), some (vI x3), some (vI x4), none, none, none, none] [vI y0, vI y1, .ref 443] S r S' := by
  unfold EV
  obtain ⟨b1, F⟩ := F
  refine mv_ias rfl (sh_443) b1 ?_
  have F := F _ rfl
  refine mv_inc (lv' := [some (.ref 367), some (vI x1), some (vI x2), some (vI x3), some (vI (x4 + 1)), none, none, none, none]) 4 1 rfl rfl rfl rfl ?_
  refine mv_goto 14 rfl rfl ?_
  exact F
theorem vc_MD_solve_89 {q : Nat × (Nat → Int32)} {S S' : ms} {r : Option Value} (x1 x2 x3 : Int)
    (F : ((w32 x1 ≤ w32 x3) → EV q 419 330 [some (.ref 367), some (vI x1), some (vI x2), some (vI 0), none, none, none, none, none] [] S r S') ∧ ((¬ w32 x1 ≤ w32 x3) → EV q 419 97 [some (.ref 367), some (vI x1), some (vI x2), some (vI x3), some (vI x3), none, none, none, none] [] S r S')) : EV q 419 89 [some (.ref 367), some (vI x1), some (vI x2), some (vI x3), none, none, none, none, none] [] S r S' := by
  unfold EV
  refine ev_bk 2 (S' := (91, [some (.ref 367), some (vI x1), some (vI x2), some (vI x3), none, none, none, none, none], [vI x1, vI x3], hp S, 0, 0)) rfl ?_
  refine mv_icmp 328 rfl rfl (fun c => ?_) (fun c => ?_)
  · have F := F.1 c
    refine ev_bk 2 (S' := (330, [some (.ref 367), some (vI x1), some (vI x2), some (vI 0), none, none, none, none, none], [], hp S, 0, 0)) rfl ?_
    exact F
  · have F := F.2 c
    refine ev_bk 2 (S' := (97, [some (.ref 367), some (vI x1), some (vI x2), some (vI x3), some (vI x3), none, none, none, none], [], hp S, 0, 0)) rfl ?_
    exact F
theorem vc_MD_solve_97 {q : Nat × (Nat → Int32)} {S S' : ms} {r : Option Value} (x1 x2 x3 x4 : Int)
    (F : (0 ≤ w32 ((x4 * x2) + x3) ∧ w32 ((x4 * x2) + x3) < (512 : Nat)) ∧ ((¬ w32 (S.1 443 (w32 ((x4 * x2) + x3))) = 0) → EV q 419 120 [some (.ref 367), some (vI x1), some (vI x2), some (vI x3), some (vI x4), some (vI 0), none, none, none] [] S r S') ∧ ((¬ (¬ w32 (S.1 443 (w32 ((x4 * x2) + x3))) = 0)) → EV q 419 97 [some (.ref 367), some (vI x1), some (vI x2), some (vI x3), some (vI (x4 + 1)), none, none, none, none] [] S r S')) : EV q 419 97 [some (.ref 367), some (vI x1), some (vI x2), some (vI x3), some (vI x4), none, none, none, none] [] S r S' := by
  unfold EV
  refine ev_bk 1 (S' := (98, [some (.ref 367), some (vI x1), some (vI x2), some (vI x3), some (vI x4), none, none, none, none], [.ref 367], hp S, 0, 0)) rfl ?_
  refine mv_gfR rfl rfl (sh_367) (by decide) rfl ?_
  refine ev_bk 2 (S' := (104, [some (.ref 367), some (vI x1), some (vI x2), some (vI x3), some (vI x4), none, none, none, none], [vI x2, vI x4, .ref 443], hp S, 0, 0)) rfl ?_
  refine mv_imul rfl ?_
  refine ev_bk 1 (S' := (106, [some (.ref 367), some (vI x1), some (vI x2), some (vI x3), some (vI x4), none, none, none, none], [vI x3, vI (x4 * x2), .ref 443], hp S, 0, 0)) rfl ?_
  refine mv_iadd rfl ?_
  obtain ⟨b1, F⟩ := F
  refine mv_ial rfl (sh_443) b1 ?_
  refine mv_if 117 rfl rfl (fun c => ?_) (fun c => ?_)
  · have F := F.1 c
    refine ev_bk 2 (S' := (120, [some (.ref 367), some (vI x1), some (vI x2), some (vI x3), some (vI x4), some (vI 0), none, none, none], [], hp S, 0, 0)) rfl ?_
    exact F
  · have F := F.2 c
    refine mv_inc (lv' := [some (.ref 367), some (vI x1), some (vI x2), some (vI x3), some (vI (x4 + 1)), none, none, none, none]) 4 1 rfl rfl rfl rfl ?_
    refine mv_goto 97 rfl rfl ?_
    exact F
theorem vc_MD_solve_120 {q : Nat × (Nat → Int32)} {S S' : ms} {r : Option Value} (x1 x2 x3 x4 x5 : Int)
    (F : ((w32 x2 ≤ w32 x5) → (0 ≤ w32 ((x3 * x2) + x3) ∧ w32 ((x3 * x2) + x3) < (512 : Nat)) ∧ ∃ (z4 : Int) (S2 : ms), EV q 411 0 [some (.ref 367), some (vI (S.1 443 (w32 ((x3 * x2) + x3))))] [] S (some (vI z4)) S2 ∧ EV q 419 201 [some (.ref 367), some (vI x1), some (vI x2), some (vI x3), some (vI x4), some (vI z4), some (vI 0), none, none] [] S2 r S') ∧ ((¬ w32 x2 ≤ w32 x5) → (0 ≤ w32 ((x3 * x2) + x5) ∧ w32 ((x3 * x2) + x5) < (512 : Nat)) ∧ (0 ≤ w32 ((x4 * x2) + x5) ∧ w32 ((x4 * x2) + x5) < (512 : Nat)) ∧ (0 ≤ w32 ((x3 * x2) + x5) ∧ w32 ((x3 * x2) + x5) < (512 : Nat)) ∧ ∀ S8 : ms, S8 = wI S 443 (w32 ((x3 * x2) + x5)) (S.1 443 (w32 ((x4 * x2) + x5))) → (0 ≤ w32 ((x4 * x2) + x5) ∧ w32 ((x4 * x2) + x5) < (512 : Nat)) ∧ ∀ S10 : ms, S10 = wI S8 443 (w32 ((x4 * x2) + x5)) (S.1 443 (w32 ((x3 * x2) + x5))) → EV q 419 120 [some (.ref 367), some (vI x1), some (vI x2), some (vI x3), some (vI x4), some (vI (x5 + 1)), none, none, none] [] S10 r S')) : EV q 419 120 [some (.ref 367), some (vI x1), some (vI x2), some (vI x3), some (vI x4), some (vI x5), none, none, none] [] S r S' := by
  unfold EV
  refine ev_bk 2 (S' := (123, [some (.ref 367), some (vI x1), some (vI x2), some (vI x3), some (vI x4), some (vI x5), none, none, none], [vI x2, vI x5], hp S, 0, 0)) rfl ?_
  refine mv_icmp 182 rfl rfl (fun c => ?_) (fun c => ?_)
  · have F := F.1 c
    refine ev_bk 2 (S' := (184, [some (.ref 367), some (vI x1), some (vI x2), some (vI x3), some (vI x4), some (vI x5), none, none, none], [.ref 367, .ref 367], hp S, 0, 0)) rfl ?_
    refine mv_gfR rfl rfl (sh_367) (by decide) rfl ?_
    refine ev_bk 2 (S' := (189, [some (.ref 367), some (vI x1), some (vI x2), some (vI x3), some (vI x4), some (vI x5), none, none, none], [vI x2, vI x3, .ref 443, .ref 367], hp S, 0, 0)) rfl ?_
    refine mv_imul rfl ?_
    refine ev_bk 1 (S' := (191, [some (.ref 367), some (vI x1), some (vI x2), some (vI x3), some (vI x4), some (vI x5), none, none, none], [vI x3, vI (x3 * x2), .ref 443, .ref 367], hp S, 0, 0)) rfl ?_
    refine mv_iadd rfl ?_
    obtain ⟨b1, F⟩ := F
    refine mv_ial rfl (sh_443) b1 ?_
    obtain ⟨z4, S2, e3, F⟩ := F
    refine mv_calv (as := [vI (S.1 443 (w32 ((x3 * x2) + x3)))]) (rest := []) e3 (sh_367) rfl rfl rfl ⟨rfl, rfl⟩ rfl rfl rfl rfl rfl ?_
    refine ev_bk 3 (S' := (201, [some (.ref 367), some (vI x1), some (vI x2), some (vI x3), some (vI x4), some (vI z4), some (vI 0), none, none], [], hp S2, 0, 0)) rfl ?_
    exact F
  · have F := F.2 c
    refine ev_bk 1 (S' := (127, [some (.ref 367), some (vI x1), some (vI x2), some (vI x3), some (vI x4), some (vI x5), none, none, none], [.ref 367], hp S, 0, 0)) rfl ?_
    refine mv_gfR rfl rfl (sh_367) (by decide) rfl ?_
    refine ev_bk 2 (S' := (132, [some (.ref 367), some (vI x1), some (vI x2), some (vI x3), some (vI x4), some (vI x5), none, none, none], [vI x2, vI x3, .ref 443], hp S, 0, 0)) rfl ?_
    refine mv_imul rfl ?_
    refine ev_bk 1 (S' := (135, [some (.ref 367), some (vI x1), some (vI x2), some (vI x3), some (vI x4), some (vI x5), none, none, none], [vI x5, vI (x3 * x2), .ref 443], hp S, 0, 0)) rfl ?_
    refine mv_iadd rfl ?_
    obtain ⟨b5, F⟩ := F
    refine mv_ial rfl (sh_443) b5 ?_
    refine ev_bk 2 (S' := (140, [some (.ref 367), some (vI x1), some (vI x2), some (vI x3), some (vI x4), some (vI x5), some (vI (S.1 443 (w32 ((x3 * x2) + x5)))), none, none], [.ref 367], hp S, 0, 0)) rfl ?_
    refine mv_gfR rfl rfl (sh_367) (by decide) rfl ?_
    refine ev_bk 2 (S' := (145, [some (.ref 367), some (vI x1), some (vI x2), some (vI x3), some (vI x4), some (vI x5), some (vI (S.1 443 (w32 ((x3 * x2) + x5)))), none, none], [vI x2, vI x3, .ref 443], hp S, 0, 0)) rfl ?_
    refine mv_imul rfl ?_
    refine ev_bk 1 (S' := (148, [some (.ref 367), some (vI x1), some (vI x2), some (vI x3), some (vI x4), some (vI x5), some (vI (S.1 443 (w32 ((x3 * x2) + x5)))), none, none], [vI x5, vI (x3 * x2), .ref 443], hp S, 0, 0)) rfl ?_
    refine mv_iadd rfl ?_
    refine ev_bk 1 (S' := (150, [some (.ref 367), some (vI x1), some (vI x2), some (vI x3), some (vI x4), some (vI x5), some (vI (S.1 443 (w32 ((x3 * x2) + x5)))), none, none], [.ref 367, vI ((x3 * x2) + x5), .ref 443], hp S, 0, 0)) rfl ?_
    refine mv_gfR rfl rfl (sh_367) (by decide) rfl ?_
    refine ev_bk 2 (S' := (156, [some (.ref 367), some (vI x1), some (vI x2), some (vI x3), some (vI x4), some (vI x5), some (vI (S.1 443 (w32 ((x3 * x2) + x5)))), none, none], [vI x2, vI x4, .ref 443, vI ((x3 * x2) + x5), .ref 443], hp S, 0, 0)) rfl ?_
    refine mv_imul rfl ?_
    refine ev_bk 1 (S' := (159, [some (.ref 367), some (vI x1), some (vI x2), some (vI x3), some (vI x4), some (vI x5), some (vI (S.1 443 (w32 ((x3 * x2) + x5)))), none, none], [vI x5, vI (x4 * x2), .ref 443, vI ((x3 * x2) + x5), .ref 443], hp S, 0, 0)) rfl ?_
    refine mv_iadd rfl ?_
    obtain ⟨b6, F⟩ := F
    refine mv_ial rfl (sh_443) b6 ?_
    obtain ⟨b7, F⟩ := F
    refine mv_ias rfl (sh_443) b7 ?_
    have F := F _ rfl
    refine ev_bk 1 (S' := (163, [some (.ref 367), some (vI x1), some (vI x2), some (vI x3), some (vI x4), some (vI x5), some (vI (S.1 443 (w32 ((x3 * x2) + x5)))), none, none], [.ref 367], hp (wI S 443 (w32 ((x3 * x2) + x5)) (S.1 443 (w32 ((x4 * x2) + x5)))), 0, 0)) rfl ?_
    refine mv_gfR rfl rfl (sh_367) (by decide) rfl ?_
    refine ev_bk 2 (S' := (169, [some (.ref 367), some (vI x1), some (vI x2), some (vI x3), some (vI x4), some (vI x5), some (vI (S.1 443 (w32 ((x3 * x2) + x5)))), none, none], [vI x2, vI x4, .ref 443], hp (wI S 443 (w32 ((x3 * x2) + x5)) (S.1 443 (w32 ((x4 * x2) + x5)))), 0, 0)) rfl ?_
    refine mv_imul rfl ?_
    refine ev_bk 1 (S' := (172, [some (.ref 367), some (vI x1), some (vI x2), some (vI x3), some (vI x4), some (vI x5), some (vI (S.1 443 (w32 ((x3 * x2) + x5)))), none, none], [vI x5, vI (x4 * x2), .ref 443], hp (wI S 443 (w32 ((x3 * x2) + x5)) (S.1 443 (w32 ((x4 * x2) + x5)))), 0, 0)) rfl ?_
    refine mv_iadd rfl ?_
    refine ev_bk 1 (S' := (175, [some (.ref 367), some (vI x1), some (vI x2), some (vI x3), some (vI x4), some (vI x5), some (vI (S.1 443 (w32 ((x3 * x2) + x5)))), none, none], [vI (S.1 443 (w32 ((x3 * x2) + x5))), vI ((x4 * x2) + x5), .ref 443], hp (wI S 443 (w32 ((x3 * x2) + x5)) (S.1 443 (w32 ((x4 * x2) + x5)))), 0, 0)) rfl ?_
    obtain ⟨b9, F⟩ := F
    refine mv_ias rfl (sh_443) b9 ?_
    have F := F _ rfl
    refine mv_inc (lv' := [some (.ref 367), some (vI x1), some (vI x2), some (vI x3), some (vI x4), some (vI (x5 + 1)), some (vI (S.1 443 (w32 ((x3 * x2) + x5)))), none, none]) 5 1 rfl rfl rfl rfl ?_
    refine mv_goto 120 rfl rfl ?_
    exact ev_wk (le_s (le_s (le_s (le_s (le_s (le_s (le_n (le_s (le_s le_0))))))))) F
theorem vc_MD_solve_201 {q : Nat × (Nat → Int32)} {S S' : ms} {r : Option Value} (x1 x2 x3 x4 x5 x6 : Int)
    (F : ((w32 x2 ≤ w32 x6) → EV q 419 244 [some (.ref 367), some (vI x1), some (vI x2), some (vI x3), some (vI x4), some (vI x5), some (vI 0), none, none] [] S r S') ∧ ((¬ w32 x2 ≤ w32 x6) → (0 ≤ w32 ((x3 * x2) + x6) ∧ w32 ((x3 * x2) + x6) < (512 : Nat)) ∧ ∃ (z4 : Int) (S2 : ms), EV q 412 0 [some (.ref 367), some (vI (S.1 443 (w32 ((x3 * x2) + x6)))), some (vI x5)] [] S (some (vI z4)) S2 ∧ (0 ≤ w32 ((x3 * x2) + x6) ∧ w32 ((x3 * x2) + x6) < (512 : Nat)) ∧ ∀ S6 : ms, S6 = wI S2 443 (w32 ((x3 * x2) + x6)) z4 → EV q 419 201 [some (.ref 367), some (vI x1), some (vI x2), some (vI x3), some (vI x4), some (vI x5), some (vI (x6 + 1)), none, none] [] S6 r S')) : EV q 419 201 [some (.ref 367), some (vI x1), some (vI x2), some (vI x3), some (vI x4), some (vI x5), some (vI x6), none, none] [] S r S' := by
  unfold EV
  refine ev_bk 2 (S' := (204, [some (.ref 367), some (vI x1), some (vI x2), some (vI x3), some (vI x4), some (vI x5), some (vI x6), none, none], [vI x2, vI x6], hp S, 0, 0)) rfl ?_
  refine mv_icmp 241 rfl rfl (fun c => ?_) (fun c => ?_)
  · have F := F.1 c
    refine ev_bk 2 (S' := (244, [some (.ref 367), some (vI x1), some (vI x2), some (vI x3), some (vI x4), some (vI x5), some (vI 0), none, none], [], hp S, 0, 0)) rfl ?_
    exact F
  · have F := F.2 c
    refine ev_bk 1 (S' := (208, [some (.ref 367), some (vI x1), some (vI x2), some (vI x3), some (vI x4), some (vI x5), some (vI x6), none, none], [.ref 367], hp S, 0, 0)) rfl ?_
    refine mv_gfR rfl rfl (sh_367) (by decide) rfl ?_
    refine ev_bk 2 (S' := (213, [some (.ref 367), some (vI x1), some (vI x2), some (vI x3), some (vI x4), some (vI x5), some (vI x6), none, none], [vI x2, vI x3, .ref 443], hp S, 0, 0)) rfl ?_
    refine mv_imul rfl ?_
    refine ev_bk 1 (S' := (216, [some (.ref 367), some (vI x1), some (vI x2), some (vI x3), some (vI x4), some (vI x5), some (vI x6), none, none], [vI x6, vI (x3 * x2), .ref 443], hp S, 0, 0)) rfl ?_
    refine mv_iadd rfl ?_
    refine ev_bk 2 (S' := (219, [some (.ref 367), some (vI x1), some (vI x2), some (vI x3), some (vI x4), some (vI x5), some (vI x6), none, none], [.ref 367, .ref 367, vI ((x3 * x2) + x6), .ref 443], hp S, 0, 0)) rfl ?_
    refine mv_gfR rfl rfl (sh_367) (by decide) rfl ?_
    refine ev_bk 2 (S' := (224, [some (.ref 367), some (vI x1), some (vI x2), some (vI x3), some (vI x4), some (vI x5), some (vI x6), none, none], [vI x2, vI x3, .ref 443, .ref 367, vI ((x3 * x2) + x6), .ref 443], hp S, 0, 0)) rfl ?_
    refine mv_imul rfl ?_
    refine ev_bk 1 (S' := (227, [some (.ref 367), some (vI x1), some (vI x2), some (vI x3), some (vI x4), some (vI x5), some (vI x6), none, none], [vI x6, vI (x3 * x2), .ref 443, .ref 367, vI ((x3 * x2) + x6), .ref 443], hp S, 0, 0)) rfl ?_
    refine mv_iadd rfl ?_
    obtain ⟨b1, F⟩ := F
    refine mv_ial rfl (sh_443) b1 ?_
    refine ev_bk 1 (S' := (231, [some (.ref 367), some (vI x1), some (vI x2), some (vI x3), some (vI x4), some (vI x5), some (vI x6), none, none], [vI x5, vI (S.1 443 (w32 ((x3 * x2) + x6))), .ref 367, vI ((x3 * x2) + x6), .ref 443], hp S, 0, 0)) rfl ?_
    obtain ⟨z4, S2, e3, F⟩ := F
    refine mv_calv (as := [vI (S.1 443 (w32 ((x3 * x2) + x6))), vI x5]) (rest := [vI ((x3 * x2) + x6), .ref 443]) e3 (sh_367) rfl rfl rfl ⟨rfl, rfl⟩ rfl rfl rfl rfl rfl ?_
    obtain ⟨b5, F⟩ := F
    refine mv_ias rfl (sh_443) b5 ?_
    have F := F _ rfl
    refine mv_inc (lv' := [some (.ref 367), some (vI x1), some (vI x2), some (vI x3), some (vI x4), some (vI x5), some (vI (x6 + 1)), none, none]) 6 1 rfl rfl rfl rfl ?_
    refine mv_goto 201 rfl rfl ?_
    exact F
theorem vc_MD_solve_244 {q : Nat × (Nat → Int32)} {S S' : ms} {r : Option Value} (x1 x2 x3 x4 x5 x6 : Int)
    (F : ((w32 x1 ≤ w32 x6) → EV q 419 89 [some (.ref 367), some (vI x1), some (vI x2), some (vI (x3 + 1)), none, none, none, none, none] [] S r S') ∧ ((¬ w32 x1 ≤ w32 x6) → (0 ≤ w32 ((x6 * x2) + x3) ∧ w32 ((x6 * x2) + x3) < (512 : Nat)) ∧ EV q 419 266 [some (.ref 367), some (vI x1), some (vI x2), some (vI x3), some (vI x4), some (vI x5), some (vI x6), some (vI (S.1 443 (w32 ((x6 * x2) + x3)))), some (vI 0)] [] S r S')) : EV q 419 244 [some (.ref 367), some (vI x1), some (vI x2), some (vI x3), some (vI x4), some (vI x5), some (vI x6), none, none] [] S r S' := by
  unfold EV
  refine ev_bk 2 (S' := (247, [some (.ref 367), some (vI x1), some (vI x2), some (vI x3), some (vI x4), some (vI x5), some (vI x6), none, none], [vI x1, vI x6], hp S, 0, 0)) rfl ?_
  refine mv_icmp 322 rfl rfl (fun c => ?_) (fun c => ?_)
  · have F := F.1 c
    refine mv_inc (lv' := [some (.ref 367), some (vI x1), some (vI x2), some (vI (x3 + 1)), some (vI x4), some (vI x5), some (vI x6), none, none]) 3 1 rfl rfl rfl rfl ?_
    refine mv_goto 89 rfl rfl ?_
    exact ev_wk (le_s (le_s (le_s (le_s (le_n (le_n (le_n (le_s (le_s le_0))))))))) F
  · have F := F.2 c
    refine ev_bk 1 (S' := (251, [some (.ref 367), some (vI x1), some (vI x2), some (vI x3), some (vI x4), some (vI x5), some (vI x6), none, none], [.ref 367], hp S, 0, 0)) rfl ?_
    refine mv_gfR rfl rfl (sh_367) (by decide) rfl ?_
    refine ev_bk 2 (S' := (257, [some (.ref 367), some (vI x1), some (vI x2), some (vI x3), some (vI x4), some (vI x5), some (vI x6), none, none], [vI x2, vI x6, .ref 443], hp S, 0, 0)) rfl ?_
    refine mv_imul rfl ?_
    refine ev_bk 1 (S' := (259, [some (.ref 367), some (vI x1), some (vI x2), some (vI x3), some (vI x4), some (vI x5), some (vI x6), none, none], [vI x3, vI (x6 * x2), .ref 443], hp S, 0, 0)) rfl ?_
    refine mv_iadd rfl ?_
    obtain ⟨b1, F⟩ := F
    refine mv_ial rfl (sh_443) b1 ?_
    refine ev_bk 3 (S' := (266, [some (.ref 367), some (vI x1), some (vI x2), some (vI x3), some (vI x4), some (vI x5), some (vI x6), some (vI (S.1 443 (w32 ((x6 * x2) + x3)))), some (vI 0)], [], hp S, 0, 0)) rfl ?_
    exact F
theorem vc_MD_solve_266 {q : Nat × (Nat → Int32)} {S S' : ms} {r : Option Value} (x1 x2 x3 x4 x5 x6 x7 x8 : Int)
    (F : ((w32 x2 ≤ w32 x8) → EV q 419 316 [some (.ref 367), some (vI x1), some (vI x2), some (vI x3), some (vI x4), some (vI x5), some (vI x6), some (vI x7), some (vI x8)] [] S r S') ∧ ((¬ w32 x2 ≤ w32 x8) → ((w32 x6 = w32 x3) → EV q 419 316 [some (.ref 367), some (vI x1), some (vI x2), some (vI x3), some (vI x4), some (vI x5), some (vI x6), some (vI x7), some (vI x8)] [] S r S') ∧ ((¬ w32 x6 = w32 x3) → (0 ≤ w32 ((x6 * x2) + x8) ∧ w32 ((x6 * x2) + x8) < (512 : Nat)) ∧ (0 ≤ w32 ((x3 * x2) + x8) ∧ w32 ((x3 * x2) + x8) < (512 : Nat)) ∧ ∃ (z5 : Int) (S3 : ms), EV q 412 0 [some (.ref 367), some (vI x7), some (vI (S.1 443 (w32 ((x3 * x2) + x8))))] [] S (some (vI z5)) S3 ∧ (0 ≤ w32 ((x6 * x2) + x8) ∧ w32 ((x6 * x2) + x8) < (512 : Nat)) ∧ ∀ S7 : ms, S7 = wI S3 443 (w32 ((x6 * x2) + x8)) (bX (S.1 443 (w32 ((x6 * x2) + x8))) z5) → EV q 419 266 [some (.ref 367), some (vI x1), some (vI x2), some (vI x3), some (vI x4), some (vI x5), some (vI x6), some (vI x7), some (vI (x8 + 1))] [] S7 r S'))) : EV q 419 266 [some (.ref 367), some (vI x1), some (vI x2), some (vI x3), some (vI x4), some (vI x5), some (vI x6), some (vI x7), some (vI x8)] [] S r S' := by
  unfold EV
  refine ev_bk 2 (S' := (269, [some (.ref 367), some (vI x1), some (vI x2), some (vI x3), some (vI x4), some (vI x5), some (vI x6), some (vI x7), some (vI x8)], [vI x2, vI x8], hp S, 0, 0)) rfl ?_
  refine mv_icmp 316 rfl rfl (fun c => ?_) (fun c => ?_)
  · have F := F.1 c
    exact F
  · have F := F.2 c
    refine ev_bk 2 (S' := (275, [some (.ref 367), some (vI x1), some (vI x2), some (vI x3), some (vI x4), some (vI x5), some (vI x6), some (vI x7), some (vI x8)], [vI x3, vI x6], hp S, 0, 0)) rfl ?_
    refine mv_icmp 316 rfl rfl (fun c => ?_) (fun c => ?_)
    · have F := F.1 c
      exact F
    · have F := F.2 c
      refine ev_bk 1 (S' := (279, [some (.ref 367), some (vI x1), some (vI x2), some (vI x3), some (vI x4), some (vI x5), some (vI x6), some (vI x7), some (vI x8)], [.ref 367], hp S, 0, 0)) rfl ?_
      refine mv_gfR rfl rfl (sh_367) (by decide) rfl ?_
      refine ev_bk 2 (S' := (285, [some (.ref 367), some (vI x1), some (vI x2), some (vI x3), some (vI x4), some (vI x5), some (vI x6), some (vI x7), some (vI x8)], [vI x2, vI x6, .ref 443], hp S, 0, 0)) rfl ?_
      refine mv_imul rfl ?_
      refine ev_bk 1 (S' := (288, [some (.ref 367), some (vI x1), some (vI x2), some (vI x3), some (vI x4), some (vI x5), some (vI x6), some (vI x7), some (vI x8)], [vI x8, vI (x6 * x2), .ref 443], hp S, 0, 0)) rfl ?_
      refine mv_iadd rfl ?_
      refine ev_bk 1 (S' := (290, [some (.ref 367), some (vI x1), some (vI x2), some (vI x3), some (vI x4), some (vI x5), some (vI x6), some (vI x7), some (vI x8)], [vI ((x6 * x2) + x8), .ref 443, vI ((x6 * x2) + x8), .ref 443], hp S, 0, 0)) rfl ?_
      obtain ⟨b1, F⟩ := F
      refine mv_ial rfl (sh_443) b1 ?_
      refine ev_bk 3 (S' := (295, [some (.ref 367), some (vI x1), some (vI x2), some (vI x3), some (vI x4), some (vI x5), some (vI x6), some (vI x7), some (vI x8)], [.ref 367, vI x7, .ref 367, vI (S.1 443 (w32 ((x6 * x2) + x8))), vI ((x6 * x2) + x8), .ref 443], hp S, 0, 0)) rfl ?_
      refine mv_gfR rfl rfl (sh_367) (by decide) rfl ?_
      refine ev_bk 2 (S' := (300, [some (.ref 367), some (vI x1), some (vI x2), some (vI x3), some (vI x4), some (vI x5), some (vI x6), some (vI x7), some (vI x8)], [vI x2, vI x3, .ref 443, vI x7, .ref 367, vI (S.1 443 (w32 ((x6 * x2) + x8))), vI ((x6 * x2) + x8), .ref 443], hp S, 0, 0)) rfl ?_
      refine mv_imul rfl ?_
      refine ev_bk 1 (S' := (303, [some (.ref 367), some (vI x1), some (vI x2), some (vI x3), some (vI x4), some (vI x5), some (vI x6), some (vI x7), some (vI x8)], [vI x8, vI (x3 * x2), .ref 443, vI x7, .ref 367, vI (S.1 443 (w32 ((x6 * x2) + x8))), vI ((x6 * x2) + x8), .ref 443], hp S, 0, 0)) rfl ?_
      refine mv_iadd rfl ?_
      obtain ⟨b2, F⟩ := F
      refine mv_ial rfl (sh_443) b2 ?_
      obtain ⟨z5, S3, e4, F⟩ := F
      refine mv_calv (as := [vI x7, vI (S.1 443 (w32 ((x3 * x2) + x8)))]) (rest := [vI (S.1 443 (w32 ((x6 * x2) + x8))), vI ((x6 * x2) + x8), .ref 443]) e4 (sh_367) rfl rfl rfl ⟨rfl, rfl⟩ rfl rfl rfl rfl rfl ?_
      refine mv_ixor rfl ?_
      obtain ⟨b6, F⟩ := F
      refine mv_ias rfl (sh_443) b6 ?_
      have F := F _ rfl
      refine mv_inc (lv' := [some (.ref 367), some (vI x1), some (vI x2), some (vI x3), some (vI x4), some (vI x5), some (vI x6), some (vI x7), some (vI (x8 + 1))]) 8 1 rfl rfl rfl rfl ?_
      refine mv_goto 266 rfl rfl ?_
      exact F
theorem vc_MD_solve_316 {q : Nat × (Nat → Int32)} {S S' : ms} {r : Option Value} (x1 x2 x3 x4 x5 x6 x7 x8 : Int)
    (F : EV q 419 244 [some (.ref 367), some (vI x1), some (vI x2), some (vI x3), some (vI x4), some (vI x5), some (vI (x6 + 1)), none, none] [] S r S') : EV q 419 316 [some (.ref 367), some (vI x1), some (vI x2), some (vI x3), some (vI x4), some (vI x5), some (vI x6), some (vI x7), some (vI x8)] [] S r S' := by
  unfold EV
  refine mv_inc (lv' := [some (.ref 367), some (vI x1), some (vI x2), some (vI x3), some (vI x4), some (vI x5), some (vI (x6 + 1)), some (vI x7), some (vI x8)]) 6 1 rfl rfl rfl rfl ?_
  refine mv_goto 244 rfl rfl ?_
  exact ev_wk (le_s (le_s (le_s (le_s (le_s (le_s (le_s (le_n (le_n le_0))))))))) F
theorem vc_MD_solve_330 {q : Nat × (Nat → Int32)} {S S' : ms} {r : Option Value} (x1 x2 x3 : Int)
    (F : ((w32 (S.1 367 114) ≤ w32 x3) → r = none ∧ S' = S) ∧ ((¬ w32 (S.1 367 114) ≤ w32 x3) → EV q 419 341 [some (.ref 367), some (vI x1), some (vI x2), some (vI x3), some (vI 0), none, none, none, none] [] S r S')) : EV q 419 330 [some (.ref 367), some (vI x1), some (vI x2), some (vI x3), none, none, none, none, none] [] S r S' := by
  unfold EV
  refine ev_bk 2 (S' := (332, [some (.ref 367), some (vI x1), some (vI x2), some (vI x3), none, none, none, none, none], [.ref 367, vI x3], hp S, 0, 0)) rfl ?_
  refine mv_gfI rfl rfl (sh_367) (by decide) rfl ?_
  refine mv_icmp 554 rfl rfl (fun c => ?_) (fun c => ?_)
  · have F := F.1 c
    obtain ⟨rfl, rfl⟩ := F
    exact ev_ret rfl rfl
  · have F := F.2 c
    refine ev_bk 2 (S' := (341, [some (.ref 367), some (vI x1), some (vI x2), some (vI x3), some (vI 0), none, none, none, none], [], hp S, 0, 0)) rfl ?_
    exact F
theorem vc_MD_solve_341 {q : Nat × (Nat → Int32)} {S S' : ms} {r : Option Value} (x1 x2 x3 x4 : Int)
    (F : ((w32 x1 ≤ w32 x4) → EV q 419 467 [some (.ref 367), some (vI x1), some (vI x2), some (vI x3), some (vI 0), none, none, none, none] [] S r S') ∧ ((¬ w32 x1 ≤ w32 x4) → (0 ≤ w32 x4 ∧ w32 x4 < (16 : Nat)) ∧ ∃ (z4 : Int) (S2 : ms), EV q 409 0 [some (.ref 367), some (vI (S.1 367 112 + (S.1 444 (w32 x4))))] [] S (some (vI z4)) S2 ∧ (0 ≤ w32 (z4 + x3) ∧ w32 (z4 + x3) < (102032 : Nat)) ∧ EV q 419 383 [some (.ref 367), some (vI x1), some (vI x2), some (vI x3), some (vI x4), some (vI (S.1 444 (w32 x4))), some (vI ((S2.1 439 (w32 (z4 + x3))) % 256)), some (vI 0), none] [] S2 r S')) : EV q 419 341 [some (.ref 367), some (vI x1), some (vI x2), some (vI x3), some (vI x4), none, none, none, none] [] S r S' := by
  unfold EV
  refine ev_bk 2 (S' := (344, [some (.ref 367), some (vI x1), some (vI x2), some (vI x3), some (vI x4), none, none, none, none], [vI x1, vI x4], hp S, 0, 0)) rfl ?_
  refine mv_icmp 464 rfl rfl (fun c => ?_) (fun c => ?_)
  · have F := F.1 c
    refine ev_bk 2 (S' := (467, [some (.ref 367), some (vI x1), some (vI x2), some (vI x3), some (vI 0), none, none, none, none], [], hp S, 0, 0)) rfl ?_
    exact F
  · have F := F.2 c
    refine ev_bk 1 (S' := (348, [some (.ref 367), some (vI x1), some (vI x2), some (vI x3), some (vI x4), none, none, none, none], [.ref 367], hp S, 0, 0)) rfl ?_
    refine mv_gfR rfl rfl (sh_367) (by decide) rfl ?_
    refine ev_bk 1 (S' := (353, [some (.ref 367), some (vI x1), some (vI x2), some (vI x3), some (vI x4), none, none, none, none], [vI x4, .ref 444], hp S, 0, 0)) rfl ?_
    obtain ⟨b1, F⟩ := F
    refine mv_ial rfl (sh_444) b1 ?_
    refine ev_bk 2 (S' := (357, [some (.ref 367), some (vI x1), some (vI x2), some (vI x3), some (vI x4), some (vI (S.1 444 (w32 x4))), none, none, none], [.ref 367], hp S, 0, 0)) rfl ?_
    refine mv_gfR rfl rfl (sh_367) (by decide) rfl ?_
    refine ev_bk 2 (S' := (362, [some (.ref 367), some (vI x1), some (vI x2), some (vI x3), some (vI x4), some (vI (S.1 444 (w32 x4))), none, none, none], [.ref 367, .ref 367, .ref 439], hp S, 0, 0)) rfl ?_
    refine mv_gfI rfl rfl (sh_367) (by decide) rfl ?_
    refine ev_bk 1 (S' := (367, [some (.ref 367), some (vI x1), some (vI x2), some (vI x3), some (vI x4), some (vI (S.1 444 (w32 x4))), none, none, none], [vI (S.1 444 (w32 x4)), vI (S.1 367 112), .ref 367, .ref 439], hp S, 0, 0)) rfl ?_
    refine mv_iadd rfl ?_
    obtain ⟨z4, S2, e3, F⟩ := F
    refine mv_calv (as := [vI (S.1 367 112 + (S.1 444 (w32 x4)))]) (rest := [.ref 439]) e3 (sh_367) rfl rfl rfl ⟨rfl, rfl⟩ rfl rfl rfl rfl rfl ?_
    refine ev_bk 1 (S' := (372, [some (.ref 367), some (vI x1), some (vI x2), some (vI x3), some (vI x4), some (vI (S.1 444 (w32 x4))), none, none, none], [vI x3, vI z4, .ref 439], hp S2, 0, 0)) rfl ?_
    refine mv_iadd rfl ?_
    obtain ⟨b5, F⟩ := F
    refine mv_bal rfl (sh_439) b5 ?_
    refine ev_bk 1 (S' := (377, [some (.ref 367), some (vI x1), some (vI x2), some (vI x3), some (vI x4), some (vI (S.1 444 (w32 x4))), none, none, none], [vI 255, vI (S2.1 439 (w32 (z4 + x3)))], hp S2, 0, 0)) rfl ?_
    refine mv_iandm 256 8 (by decide) rfl rfl rfl ?_
    refine ev_bk 3 (S' := (383, [some (.ref 367), some (vI x1), some (vI x2), some (vI x3), some (vI x4), some (vI (S.1 444 (w32 x4))), some (vI ((S2.1 439 (w32 (z4 + x3))) % 256)), some (vI 0), none], [], hp S2, 0, 0)) rfl ?_
    exact F
theorem vc_MD_solve_383 {q : Nat × (Nat → Int32)} {S S' : ms} {r : Option Value} (x1 x2 x3 x4 x5 x6 x7 : Int)
    (F : ((w32 (S.1 367 112) ≤ w32 x7) → (0 ≤ w32 x4 ∧ w32 x4 < (15200 : Nat)) ∧ ∀ S2 : ms, S2 = wI S 408 (w32 x4) x6 → EV q 419 341 [some (.ref 367), some (vI x1), some (vI x2), some (vI x3), some (vI (x4 + 1)), none, none, none, none] [] S2 r S') ∧ ((¬ w32 (S.1 367 112) ≤ w32 x7) → (0 ≤ w32 x7 ∧ w32 x7 < (48 : Nat)) ∧ ((w32 (S.1 442 (w32 x7)) = 0) → ∃ (z6 : Int) (S4 : ms), EV q 409 0 [some (.ref 367), some (vI x7)] [] S (some (vI z6)) S4 ∧ (0 ≤ w32 (z6 + x3) ∧ w32 (z6 + x3) < (102032 : Nat)) ∧ ∃ (z10 : Int) (S8 : ms), EV q 410 0 [some (vI x7), some (vI x5)] [] S4 (some (vI z10)) S8 ∧ ∃ (z13 : Int) (S11 : ms), EV q 411 0 [some (.ref 367), some (vI z10)] [] S8 (some (vI z13)) S11 ∧ ∃ (z16 : Int) (S14 : ms), EV q 412 0 [some (.ref 367), some (vI ((S4.1 439 (w32 (z6 + x3))) % 256)), some (vI z13)] [] S11 (some (vI z16)) S14 ∧ EV q 419 440 [some (.ref 367), some (vI x1), some (vI x2), some (vI x3), some (vI x4), some (vI x5), some (vI x6), some (vI x7), none] [vI z16, vI x6] S14 r S') ∧ ((¬ w32 (S.1 442 (w32 x7)) = 0) → EV q 419 440 [some (.ref 367), some (vI x1), some (vI x2), some (vI x3), some (vI x4), some (vI x5), some (vI x6), some (vI x7), none] [vI 0, vI x6] S r S'))) : EV q 419 383 [some (.ref 367), some (vI x1), some (vI x2), some (vI x3), some (vI x4), some (vI x5), some (vI x6), some (vI x7), none] [] S r S' := by
  unfold EV
  refine ev_bk 2 (S' := (386, [some (.ref 367), some (vI x1), some (vI x2), some (vI x3), some (vI x4), some (vI x5), some (vI x6), some (vI x7), none], [.ref 367, vI x7], hp S, 0, 0)) rfl ?_
  refine mv_gfI rfl rfl (sh_367) (by decide) rfl ?_
  refine mv_icmp 449 rfl rfl (fun c => ?_) (fun c => ?_)
  · have F := F.1 c
    refine ev_bk 1 (S' := (450, [some (.ref 367), some (vI x1), some (vI x2), some (vI x3), some (vI x4), some (vI x5), some (vI x6), some (vI x7), none], [.ref 367], hp S, 0, 0)) rfl ?_
    refine mv_gfR rfl rfl (sh_367) (by decide) rfl ?_
    refine ev_bk 2 (S' := (457, [some (.ref 367), some (vI x1), some (vI x2), some (vI x3), some (vI x4), some (vI x5), some (vI x6), some (vI x7), none], [vI x6, vI x4, .ref 408], hp S, 0, 0)) rfl ?_
    obtain ⟨b1, F⟩ := F
    refine mv_ias rfl (sh_408) b1 ?_
    have F := F _ rfl
    refine mv_inc (lv' := [some (.ref 367), some (vI x1), some (vI x2), some (vI x3), some (vI (x4 + 1)), some (vI x5), some (vI x6), some (vI x7), none]) 4 1 rfl rfl rfl rfl ?_
    refine mv_goto 341 rfl rfl ?_
    exact ev_wk (le_s (le_s (le_s (le_s (le_s (le_n (le_n (le_n (le_s le_0))))))))) F
  · have F := F.2 c
    refine ev_bk 2 (S' := (395, [some (.ref 367), some (vI x1), some (vI x2), some (vI x3), some (vI x4), some (vI x5), some (vI x6), some (vI x7), none], [.ref 367, vI x6], hp S, 0, 0)) rfl ?_
    refine mv_gfR rfl rfl (sh_367) (by decide) rfl ?_
    refine ev_bk 1 (S' := (400, [some (.ref 367), some (vI x1), some (vI x2), some (vI x3), some (vI x4), some (vI x5), some (vI x6), some (vI x7), none], [vI x7, .ref 442, vI x6], hp S, 0, 0)) rfl ?_
    obtain ⟨b3, F⟩ := F
    refine mv_zal rfl (sh_442) b3 ?_
    refine mv_if 408 rfl rfl (fun c => ?_) (fun c => ?_)
    · have F := F.1 c
      refine ev_bk 2 (S' := (410, [some (.ref 367), some (vI x1), some (vI x2), some (vI x3), some (vI x4), some (vI x5), some (vI x6), some (vI x7), none], [.ref 367, .ref 367, vI x6], hp S, 0, 0)) rfl ?_
      refine mv_gfR rfl rfl (sh_367) (by decide) rfl ?_
      refine ev_bk 2 (S' := (416, [some (.ref 367), some (vI x1), some (vI x2), some (vI x3), some (vI x4), some (vI x5), some (vI x6), some (vI x7), none], [vI x7, .ref 367, .ref 439, .ref 367, vI x6], hp S, 0, 0)) rfl ?_
      obtain ⟨z6, S4, e5, F⟩ := F
      refine mv_calv (as := [vI x7]) (rest := [.ref 439, .ref 367, vI x6]) e5 (sh_367) rfl rfl rfl ⟨rfl, rfl⟩ rfl rfl rfl rfl rfl ?_
      refine ev_bk 1 (S' := (420, [some (.ref 367), some (vI x1), some (vI x2), some (vI x3), some (vI x4), some (vI x5), some (vI x6), some (vI x7), none], [vI x3, vI z6, .ref 439, .ref 367, vI x6], hp S4, 0, 0)) rfl ?_
      refine mv_iadd rfl ?_
      obtain ⟨b7, F⟩ := F
      refine mv_bal rfl (sh_439) b7 ?_
      refine ev_bk 1 (S' := (425, [some (.ref 367), some (vI x1), some (vI x2), some (vI x3), some (vI x4), some (vI x5), some (vI x6), some (vI x7), none], [vI 255, vI (S4.1 439 (w32 (z6 + x3))), .ref 367, vI x6], hp S4, 0, 0)) rfl ?_
      refine mv_iandm 256 8 (by decide) rfl rfl rfl ?_
      refine ev_bk 3 (S' := (431, [some (.ref 367), some (vI x1), some (vI x2), some (vI x3), some (vI x4), some (vI x5), some (vI x6), some (vI x7), none], [vI x5, vI x7, .ref 367, vI ((S4.1 439 (w32 (z6 + x3))) % 256), .ref 367, vI x6], hp S4, 0, 0)) rfl ?_
      obtain ⟨z10, S8, e9, F⟩ := F
      refine mv_cals (as := [vI x7, vI x5]) (rest := [.ref 367, vI ((S4.1 439 (w32 (z6 + x3))) % 256), .ref 367, vI x6]) e9 rfl rfl rfl ⟨rfl, rfl, rfl⟩ rfl rfl rfl rfl ?_
      obtain ⟨z13, S11, e12, F⟩ := F
      refine mv_calv (as := [vI z10]) (rest := [vI ((S4.1 439 (w32 (z6 + x3))) % 256), .ref 367, vI x6]) e12 (sh_367) rfl rfl rfl ⟨rfl, rfl⟩ rfl rfl rfl rfl rfl ?_
      obtain ⟨z16, S14, e15, F⟩ := F
      refine mv_calv (as := [vI ((S4.1 439 (w32 (z6 + x3))) % 256), vI z13]) (rest := [vI x6]) e15 (sh_367) rfl rfl rfl ⟨rfl, rfl⟩ rfl rfl rfl rfl rfl ?_
      exact F
    · have F := F.2 c
      refine ev_bk 1 (S' := (405, [some (.ref 367), some (vI x1), some (vI x2), some (vI x3), some (vI x4), some (vI x5), some (vI x6), some (vI x7), none], [vI 0, vI x6], hp S, 0, 0)) rfl ?_
      refine mv_goto 440 rfl rfl ?_
      exact F
theorem vc_MD_solve_440 {q : Nat × (Nat → Int32)} {S S' : ms} {r : Option Value} (x1 x2 x3 x4 x5 x6 x7 y0 y1 : Int)
    (F : EV q 419 383 [some (.ref 367), some (vI x1), some (vI x2), some (vI x3), some (vI x4), some (vI x5), some (vI (bX y1 y0)), some (vI (x7 + 1)), none] [] S r S') : EV q 419 440 [some (.ref 367), some (vI x1), some (vI x2), some (vI x3), some (vI x4), some (vI x5), some (vI x6), some (vI x7), none] [vI y0, vI y1] S r S' := by
  unfold EV
  refine mv_ixor rfl ?_
  refine ev_bk 1 (S' := (443, [some (.ref 367), some (vI x1), some (vI x2), some (vI x3), some (vI x4), some (vI x5), some (vI (bX y1 y0)), some (vI x7), none], [], hp S, 0, 0)) rfl ?_
  refine mv_inc (lv' := [some (.ref 367), some (vI x1), some (vI x2), some (vI x3), some (vI x4), some (vI x5), some (vI (bX y1 y0)), some (vI (x7 + 1)), none]) 7 1 rfl rfl rfl rfl ?_
  refine mv_goto 383 rfl rfl ?_
  exact F
theorem vc_MD_solve_467 {q : Nat × (Nat → Int32)} {S S' : ms} {r : Option Value} (x1 x2 x3 x4 : Int)
    (F : ((w32 x1 ≤ w32 x4) → EV q 419 330 [some (.ref 367), some (vI x1), some (vI x2), some (vI (x3 + 1)), none, none, none, none, none] [] S r S') ∧ ((¬ w32 x1 ≤ w32 x4) → EV q 419 479 [some (.ref 367), some (vI x1), some (vI x2), some (vI x3), some (vI x4), some (vI 0), some (vI 0), none, none] [] S r S')) : EV q 419 467 [some (.ref 367), some (vI x1), some (vI x2), some (vI x3), some (vI x4), none, none, none, none] [] S r S' := by
  unfold EV
  refine ev_bk 2 (S' := (470, [some (.ref 367), some (vI x1), some (vI x2), some (vI x3), some (vI x4), none, none, none, none], [vI x1, vI x4], hp S, 0, 0)) rfl ?_
  refine mv_icmp 548 rfl rfl (fun c => ?_) (fun c => ?_)
  · have F := F.1 c
    refine mv_inc (lv' := [some (.ref 367), some (vI x1), some (vI x2), some (vI (x3 + 1)), some (vI x4), none, none, none, none]) 3 1 rfl rfl rfl rfl ?_
    refine mv_goto 330 rfl rfl ?_
    exact ev_wk (le_s (le_s (le_s (le_s (le_n (le_s (le_s (le_s (le_s le_0))))))))) F
  · have F := F.2 c
    refine ev_bk 4 (S' := (479, [some (.ref 367), some (vI x1), some (vI x2), some (vI x3), some (vI x4), some (vI 0), some (vI 0), none, none], [], hp S, 0, 0)) rfl ?_
    exact F
theorem vc_MD_solve_479 {q : Nat × (Nat → Int32)} {S S' : ms} {r : Option Value} (x1 x2 x3 x4 x5 x6 : Int)
    (F : ((w32 x1 ≤ w32 x6) → (0 ≤ w32 x4 ∧ w32 x4 < (32 : Nat)) ∧ ∃ (z4 : Int) (S2 : ms), EV q 409 0 [some (.ref 367), some (vI (S.1 445 (w32 x4)))] [] S (some (vI z4)) S2 ∧ (0 ≤ w32 (z4 + x3) ∧ w32 (z4 + x3) < (102032 : Nat)) ∧ ∀ S6 : ms, S6 = wI S2 439 (w32 (z4 + x3)) (b8 (b8 x5)) → EV q 419 467 [some (.ref 367), some (vI x1), some (vI x2), some (vI x3), some (vI (x4 + 1)), none, none, none, none] [] S6 r S') ∧ ((¬ w32 x1 ≤ w32 x6) → (0 ≤ w32 (((x4 * x2) + x1) + x6) ∧ w32 (((x4 * x2) + x1) + x6) < (512 : Nat)) ∧ (0 ≤ w32 x6 ∧ w32 x6 < (15200 : Nat)) ∧ ∃ (z11 : Int) (S9 : ms), EV q 412 0 [some (.ref 367), some (vI (S.1 443 (w32 (((x4 * x2) + x1) + x6)))), some (vI (S.1 408 (w32 x6)))] [] S (some (vI z11)) S9 ∧ EV q 419 479 [some (.ref 367), some (vI x1), some (vI x2), some (vI x3), some (vI x4), some (vI (bX x5 z11)), some (vI (x6 + 1)), none, none] [] S9 r S')) : EV q 419 479 [some (.ref 367), some (vI x1), some (vI x2), some (vI x3), some (vI x4), some (vI x5), some (vI x6), none, none] [] S r S' := by
  unfold EV
  refine ev_bk 2 (S' := (482, [some (.ref 367), some (vI x1), some (vI x2), some (vI x3), some (vI x4), some (vI x5), some (vI x6), none, none], [vI x1, vI x6], hp S, 0, 0)) rfl ?_
  refine mv_icmp 521 rfl rfl (fun c => ?_) (fun c => ?_)
  · have F := F.1 c
    refine ev_bk 1 (S' := (522, [some (.ref 367), some (vI x1), some (vI x2), some (vI x3), some (vI x4), some (vI x5), some (vI x6), none, none], [.ref 367], hp S, 0, 0)) rfl ?_
    refine mv_gfR rfl rfl (sh_367) (by decide) rfl ?_
    refine ev_bk 2 (S' := (527, [some (.ref 367), some (vI x1), some (vI x2), some (vI x3), some (vI x4), some (vI x5), some (vI x6), none, none], [.ref 367, .ref 367, .ref 439], hp S, 0, 0)) rfl ?_
    refine mv_gfR rfl rfl (sh_367) (by decide) rfl ?_
    refine ev_bk 1 (S' := (532, [some (.ref 367), some (vI x1), some (vI x2), some (vI x3), some (vI x4), some (vI x5), some (vI x6), none, none], [vI x4, .ref 445, .ref 367, .ref 439], hp S, 0, 0)) rfl ?_
    obtain ⟨b1, F⟩ := F
    refine mv_ial rfl (sh_445) b1 ?_
    obtain ⟨z4, S2, e3, F⟩ := F
    refine mv_calv (as := [vI (S.1 445 (w32 x4))]) (rest := [.ref 439]) e3 (sh_367) rfl rfl rfl ⟨rfl, rfl⟩ rfl rfl rfl rfl rfl ?_
    refine ev_bk 1 (S' := (537, [some (.ref 367), some (vI x1), some (vI x2), some (vI x3), some (vI x4), some (vI x5), some (vI x6), none, none], [vI x3, vI z4, .ref 439], hp S2, 0, 0)) rfl ?_
    refine mv_iadd rfl ?_
    refine ev_bk 1 (S' := (540, [some (.ref 367), some (vI x1), some (vI x2), some (vI x3), some (vI x4), some (vI x5), some (vI x6), none, none], [vI x5, vI (z4 + x3), .ref 439], hp S2, 0, 0)) rfl ?_
    refine mv_i2b rfl ?_
    obtain ⟨b5, F⟩ := F
    refine mv_bas rfl (sh_439) b5 ?_
    have F := F _ rfl
    refine mv_inc (lv' := [some (.ref 367), some (vI x1), some (vI x2), some (vI x3), some (vI (x4 + 1)), some (vI x5), some (vI x6), none, none]) 4 1 rfl rfl rfl rfl ?_
    refine mv_goto 467 rfl rfl ?_
    exact ev_wk (le_s (le_s (le_s (le_s (le_s (le_n (le_n (le_s (le_s le_0))))))))) F
  · have F := F.2 c
    refine ev_bk 3 (S' := (489, [some (.ref 367), some (vI x1), some (vI x2), some (vI x3), some (vI x4), some (vI x5), some (vI x6), none, none], [.ref 367, .ref 367, vI x5], hp S, 0, 0)) rfl ?_
    refine mv_gfR rfl rfl (sh_367) (by decide) rfl ?_
    refine ev_bk 2 (S' := (495, [some (.ref 367), some (vI x1), some (vI x2), some (vI x3), some (vI x4), some (vI x5), some (vI x6), none, none], [vI x2, vI x4, .ref 443, .ref 367, vI x5], hp S, 0, 0)) rfl ?_
    refine mv_imul rfl ?_
    refine ev_bk 1 (S' := (497, [some (.ref 367), some (vI x1), some (vI x2), some (vI x3), some (vI x4), some (vI x5), some (vI x6), none, none], [vI x1, vI (x4 * x2), .ref 443, .ref 367, vI x5], hp S, 0, 0)) rfl ?_
    refine mv_iadd rfl ?_
    refine ev_bk 1 (S' := (500, [some (.ref 367), some (vI x1), some (vI x2), some (vI x3), some (vI x4), some (vI x5), some (vI x6), none, none], [vI x6, vI ((x4 * x2) + x1), .ref 443, .ref 367, vI x5], hp S, 0, 0)) rfl ?_
    refine mv_iadd rfl ?_
    obtain ⟨b7, F⟩ := F
    refine mv_ial rfl (sh_443) b7 ?_
    refine ev_bk 1 (S' := (503, [some (.ref 367), some (vI x1), some (vI x2), some (vI x3), some (vI x4), some (vI x5), some (vI x6), none, none], [.ref 367, vI (S.1 443 (w32 (((x4 * x2) + x1) + x6))), .ref 367, vI x5], hp S, 0, 0)) rfl ?_
    refine mv_gfR rfl rfl (sh_367) (by decide) rfl ?_
    refine ev_bk 1 (S' := (508, [some (.ref 367), some (vI x1), some (vI x2), some (vI x3), some (vI x4), some (vI x5), some (vI x6), none, none], [vI x6, .ref 408, vI (S.1 443 (w32 (((x4 * x2) + x1) + x6))), .ref 367, vI x5], hp S, 0, 0)) rfl ?_
    obtain ⟨bb8, F⟩ := F
    refine mv_ial rfl (sh_408) bb8 ?_
    obtain ⟨z11, S9, e10, F⟩ := F
    refine mv_calv (as := [vI (S.1 443 (w32 (((x4 * x2) + x1) + x6))), vI (S.1 408 (w32 x6))]) (rest := [vI x5]) e10 (sh_367) rfl rfl rfl ⟨rfl, rfl⟩ rfl rfl rfl rfl rfl ?_
    refine mv_ixor rfl ?_
    refine ev_bk 1 (S' := (515, [some (.ref 367), some (vI x1), some (vI x2), some (vI x3), some (vI x4), some (vI (bX x5 z11)), some (vI x6), none, none], [], hp S9, 0, 0)) rfl ?_
    refine mv_inc (lv' := [some (.ref 367), some (vI x1), some (vI x2), some (vI x3), some (vI x4), some (vI (bX x5 z11)), some (vI (x6 + 1)), none, none]) 6 1 rfl rfl rfl rfl ?_
    refine mv_goto 479 rfl rfl ?_
    exact F
theorem vc_MD_whole {q : Nat × (Nat → Int32)} {S S' : ms} {r : Option Value}
    (F : ∀ S1 : ms, S1 = wI S 367 0 0 → ((¬ w32 (S1.1 367 112) = 0) → ∃ (z4 : Int) (S2 : ms), EV q 418 0 [some (.ref 367), none, none] [] S1 (some (vI z4)) S2 ∧ EV q 420 21 [some (.ref 367), some (vI z4), some (vI 0)] [] S2 r S') ∧ ((¬ (¬ w32 (S1.1 367 112) = 0)) → r = some (vI ((-1))) ∧ S' = S1)) : EV q 420 0 [some (.ref 367), none, none] [] S r S' := by
  unfold EV
  refine ev_bk 2 (S' := (2, [some (.ref 367), none, none], [vI 0, .ref 367], hp S, 0, 0)) rfl ?_
  refine mv_pfI rfl rfl (sh_367) (by decide) rfl rfl ?_
  have F := F _ rfl
  refine ev_bk 1 (S' := (6, [some (.ref 367), none, none], [.ref 367], hp (wI S 367 0 0), 0, 0)) rfl ?_
  refine mv_gfI rfl rfl (sh_367) (by decide) rfl ?_
  refine mv_if 14 rfl rfl (fun c => ?_) (fun c => ?_)
  · have F := F.1 c
    refine ev_bk 1 (S' := (15, [some (.ref 367), none, none], [.ref 367], hp (wI S 367 0 0), 0, 0)) rfl ?_
    obtain ⟨z4, S2, e3, F⟩ := F
    refine mv_calv (as := []) (rest := []) e3 (sh_367) rfl rfl rfl ⟨rfl, rfl⟩ rfl rfl rfl rfl rfl ?_
    refine ev_bk 3 (S' := (21, [some (.ref 367), some (vI z4), some (vI 0)], [], hp S2, 0, 0)) rfl ?_
    exact F
  · have F := F.2 c
    refine ev_bk 1 (S' := (13, [some (.ref 367), none, none], [vI ((-1))], hp (wI S 367 0 0), 0, 0)) rfl ?_
    obtain ⟨rfl, rfl⟩ := F
    exact ev_ret rfl rfl
theorem vc_MD_whole_21 {q : Nat × (Nat → Int32)} {S S' : ms} {r : Option Value} (x1 x2 : Int)
    (F : ((w32 (S.1 367 112) ≤ w32 x2) → ∃ (z3 : Int) (S1 : ms), EV q 277 0 [some (.ref 367), none] [] S (some (vI z3)) S1 ∧ ((0 ≤ w32 z3) → ∃ (z6 : Int) (S4 : ms), EV q 328 0 [some (.ref 367), some (.ref 439), some (vI 0), some (vI (S1.1 367 115)), none, none] [] S1 (some (vI z6)) S4 ∧ r = some (vI z6) ∧ S' = S4) ∧ ((¬ 0 ≤ w32 z3) → r = some (vI ((-4))) ∧ S' = S1)) ∧ ((¬ w32 (S.1 367 112) ≤ w32 x2) → (0 ≤ w32 x2 ∧ w32 x2 < (48 : Nat)) ∧ ((w32 (S.1 442 (w32 x2)) = 0) → EV q 420 21 [some (.ref 367), some (vI x1), some (vI (x2 + 1))] [] S r S') ∧ ((¬ w32 (S.1 442 (w32 x2)) = 0) → r = some (vI ((-3))) ∧ S' = S))) : EV q 420 21 [some (.ref 367), some (vI x1), some (vI x2)] [] S r S' := by
  unfold EV
  refine ev_bk 2 (S' := (23, [some (.ref 367), some (vI x1), some (vI x2)], [.ref 367, vI x2], hp S, 0, 0)) rfl ?_
  refine mv_gfI rfl rfl (sh_367) (by decide) rfl ?_
  refine mv_icmp 47 rfl rfl (fun c => ?_) (fun c => ?_)
  · have F := F.1 c
    refine ev_bk 1 (S' := (48, [some (.ref 367), some (vI x1), some (vI x2)], [.ref 367], hp S, 0, 0)) rfl ?_
    obtain ⟨z3, S1, e2, F⟩ := F
    refine mv_calv (as := []) (rest := []) e2 (sh_367) rfl rfl rfl ⟨rfl, rfl⟩ rfl rfl rfl rfl rfl ?_
    refine mv_if 59 rfl rfl (fun c => ?_) (fun c => ?_)
    · have F := F.1 c
      refine ev_bk 2 (S' := (61, [some (.ref 367), some (vI x1), some (vI x2)], [.ref 367, .ref 367], hp S1, 0, 0)) rfl ?_
      refine mv_gfR rfl rfl (sh_367) (by decide) rfl ?_
      refine ev_bk 2 (S' := (66, [some (.ref 367), some (vI x1), some (vI x2)], [.ref 367, vI 0, .ref 439, .ref 367], hp S1, 0, 0)) rfl ?_
      refine mv_gfI rfl rfl (sh_367) (by decide) rfl ?_
      obtain ⟨z6, S4, e5, F⟩ := F
      refine mv_calv (as := [.ref 439, vI 0, vI (S1.1 367 115)]) (rest := []) e5 (sh_367) rfl rfl rfl ⟨rfl, rfl⟩ rfl rfl rfl rfl rfl ?_
      obtain ⟨rfl, rfl⟩ := F
      exact ev_ret rfl rfl
    · have F := F.2 c
      refine ev_bk 1 (S' := (56, [some (.ref 367), some (vI x1), some (vI x2)], [vI ((-4))], hp S1, 0, 0)) rfl ?_
      refine mv_goto 72 rfl rfl ?_
      obtain ⟨rfl, rfl⟩ := F
      exact ev_ret rfl rfl
  · have F := F.2 c
    refine ev_bk 1 (S' := (30, [some (.ref 367), some (vI x1), some (vI x2)], [.ref 367], hp S, 0, 0)) rfl ?_
    refine mv_gfR rfl rfl (sh_367) (by decide) rfl ?_
    refine ev_bk 1 (S' := (34, [some (.ref 367), some (vI x1), some (vI x2)], [vI x2, .ref 442], hp S, 0, 0)) rfl ?_
    obtain ⟨b7, F⟩ := F
    refine mv_zal rfl (sh_442) b7 ?_
    refine mv_if 41 rfl rfl (fun c => ?_) (fun c => ?_)
    · have F := F.1 c
      refine mv_inc (lv' := [some (.ref 367), some (vI x1), some (vI (x2 + 1))]) 2 1 rfl rfl rfl rfl ?_
      refine mv_goto 21 rfl rfl ?_
      exact F
    · have F := F.2 c
      refine ev_bk 1 (S' := (40, [some (.ref 367), some (vI x1), some (vI x2)], [vI ((-3))], hp S, 0, 0)) rfl ?_
      obtain ⟨rfl, rfl⟩ := F
      exact ev_ret rfl rfl
theorem vc_MD_save {q : Nat × (Nat → Int32)} {S S' : ms} {r : Option Value}
    (F : ∀ S1 : ms, S1 = wI S 367 0 0 → ((¬ w32 (S1.1 367 129) = 8) → (0 ≤ w32 (S1.1 367 129) ∧ w32 (S1.1 367 129) < (8 : Nat)) ∧ ∀ S3 : ms, S3 = wI S1 451 (w32 (S1.1 367 129)) 0 → EV q 421 33 [some (.ref 367), some (vI (S1.1 367 129)), some (vI 1), some (vI 0), none, none, none] [] S3 r S') ∧ ((¬ (¬ w32 (S1.1 367 129) = 8)) → r = some (vI ((-4))) ∧ S' = S1)) : EV q 421 0 [some (.ref 367), none, none, none, none, none, none] [] S r S' := by
  unfold EV
  refine ev_bk 2 (S' := (2, [some (.ref 367), none, none, none, none, none, none], [vI 0, .ref 367], hp S, 0, 0)) rfl ?_
  refine mv_pfI rfl rfl (sh_367) (by decide) rfl rfl ?_
  have F := F _ rfl
  refine ev_bk 1 (S' := (6, [some (.ref 367), none, none, none, none, none, none], [.ref 367], hp (wI S 367 0 0), 0, 0)) rfl ?_
  refine mv_gfI rfl rfl (sh_367) (by decide) rfl ?_
  refine ev_bk 1 (S' := (11, [some (.ref 367), none, none, none, none, none, none], [vI 8, vI ((wI S 367 0 0).1 367 129)], hp (wI S 367 0 0), 0, 0)) rfl ?_
  refine mv_icmp 17 rfl rfl (fun c => ?_) (fun c => ?_)
  · have F := F.1 c
    refine ev_bk 1 (S' := (18, [some (.ref 367), none, none, none, none, none, none], [.ref 367], hp (wI S 367 0 0), 0, 0)) rfl ?_
    refine mv_gfI rfl rfl (sh_367) (by decide) rfl ?_
    refine ev_bk 2 (S' := (23, [some (.ref 367), some (vI ((wI S 367 0 0).1 367 129)), none, none, none, none, none], [.ref 367], hp (wI S 367 0 0), 0, 0)) rfl ?_
    refine mv_gfR rfl rfl (sh_367) (by decide) rfl ?_
    refine ev_bk 2 (S' := (28, [some (.ref 367), some (vI ((wI S 367 0 0).1 367 129)), none, none, none, none, none], [vI 0, vI ((wI S 367 0 0).1 367 129), .ref 451], hp (wI S 367 0 0), 0, 0)) rfl ?_
    obtain ⟨b2, F⟩ := F
    refine mv_ias rfl (sh_451) b2 ?_
    have F := F _ rfl
    refine ev_bk 4 (S' := (33, [some (.ref 367), some (vI ((wI S 367 0 0).1 367 129)), some (vI 1), some (vI 0), none, none, none], [], hp (wI (wI S 367 0 0) 451 (w32 ((wI S 367 0 0).1 367 129)) 0), 0, 0)) rfl ?_
    exact F
  · have F := F.2 c
    refine ev_bk 1 (S' := (16, [some (.ref 367), none, none, none, none, none, none], [vI ((-4))], hp (wI S 367 0 0), 0, 0)) rfl ?_
    obtain ⟨rfl, rfl⟩ := F
    exact ev_ret rfl rfl
theorem vc_MD_save_33 {q : Nat × (Nat → Int32)} {S S' : ms} {r : Option Value} (x1 x2 x3 : Int)
    (F : ((w32 (S.1 367 2) ≤ w32 x3) → EV q 421 248 [some (.ref 367), some (vI x1), some (vI x2), some (vI x3), none, none, none] [] S r S') ∧ ((¬ w32 (S.1 367 2) ≤ w32 x3) → ((w32 x2 = 0) → EV q 421 248 [some (.ref 367), some (vI x1), some (vI x2), some (vI x3), none, none, none] [] S r S') ∧ ((¬ w32 x2 = 0) → ∃ (z3 : Int) (S1 : ms), EV q 422 0 [some (.ref 367), some (vI x3), none, none] [] S (some (vI z3)) S1 ∧ ∃ (z6 : Int) (S4 : ms), EV q 423 0 [some (.ref 367), some (vI x3), some (vI (z3 - x3)), none, none, none] [] S1 (some (vI z6)) S4 ∧ ((0 ≤ w32 z6) → EV q 421 209 [some (.ref 367), some (vI x1), some (vI x2), some (vI x3), some (vI z3), some (vI z6), none] [] S4 r S') ∧ ((¬ 0 ≤ w32 z6) → ((300 ≤ w32 (S4.1 367 123)) → EV q 421 97 [some (.ref 367), some (vI x1), some (vI x2), some (vI x3), some (vI z3), some (vI z6), none] [] S4 r S') ∧ ((¬ 300 ≤ w32 (S4.1 367 123)) → ((40000 < w32 ((S4.1 367 124 + z3) - x3)) → EV q 421 97 [some (.ref 367), some (vI x1), some (vI x2), some (vI x3), some (vI z3), some (vI z6), none] [] S4 r S') ∧ ((¬ 40000 < w32 ((S4.1 367 124 + z3) - x3)) → EV q 421 98 [some (.ref 367), some (vI x1), some (vI x2), some (vI x3), some (vI z3), some (vI z6), none] [vI 1] S4 r S')))))) : EV q 421 33 [some (.ref 367), some (vI x1), some (vI x2), some (vI x3), none, none, none] [] S r S' := by
  unfold EV
  refine ev_bk 2 (S' := (35, [some (.ref 367), some (vI x1), some (vI x2), some (vI x3), none, none, none], [.ref 367, vI x3], hp S, 0, 0)) rfl ?_
  refine mv_gfI rfl rfl (sh_367) (by decide) rfl ?_
  refine mv_icmp 248 rfl rfl (fun c => ?_) (fun c => ?_)
  · have F := F.1 c
    exact F
  · have F := F.2 c
    refine ev_bk 1 (S' := (42, [some (.ref 367), some (vI x1), some (vI x2), some (vI x3), none, none, none], [vI x2], hp S, 0, 0)) rfl ?_
    refine mv_if 248 rfl rfl (fun c => ?_) (fun c => ?_)
    · have F := F.1 c
      exact F
    · have F := F.2 c
      refine ev_bk 2 (S' := (47, [some (.ref 367), some (vI x1), some (vI x2), some (vI x3), none, none, none], [vI x3, .ref 367], hp S, 0, 0)) rfl ?_
      obtain ⟨z3, S1, e2, F⟩ := F
      refine mv_calv (as := [vI x3]) (rest := []) e2 (sh_367) rfl rfl rfl ⟨rfl, rfl⟩ rfl rfl rfl rfl rfl ?_
      refine ev_bk 5 (S' := (57, [some (.ref 367), some (vI x1), some (vI x2), some (vI x3), some (vI z3), none, none], [vI x3, vI z3, vI x3, .ref 367], hp S1, 0, 0)) rfl ?_
      refine mv_isub rfl ?_
      obtain ⟨z6, S4, e5, F⟩ := F
      refine mv_calv (as := [vI x3, vI (z3 - x3)]) (rest := []) e5 (sh_367) rfl rfl rfl ⟨rfl, rfl⟩ rfl rfl rfl rfl rfl ?_
      refine ev_bk 2 (S' := (65, [some (.ref 367), some (vI x1), some (vI x2), some (vI x3), some (vI z3), some (vI z6), none], [vI z6], hp S4, 0, 0)) rfl ?_
      refine mv_if 209 rfl rfl (fun c => ?_) (fun c => ?_)
      · have F := F.1 c
        exact F
      · have F := F.2 c
        refine ev_bk 1 (S' := (69, [some (.ref 367), some (vI x1), some (vI x2), some (vI x3), some (vI z3), some (vI z6), none], [.ref 367], hp S4, 0, 0)) rfl ?_
        refine mv_gfI rfl rfl (sh_367) (by decide) rfl ?_
        refine ev_bk 1 (S' := (75, [some (.ref 367), some (vI x1), some (vI x2), some (vI x3), some (vI z3), some (vI z6), none], [vI 300, vI (S4.1 367 123)], hp S4, 0, 0)) rfl ?_
        refine mv_icmp 97 rfl rfl (fun c => ?_) (fun c => ?_)
        · have F := F.1 c
          exact F
        · have F := F.2 c
          refine ev_bk 1 (S' := (79, [some (.ref 367), some (vI x1), some (vI x2), some (vI x3), some (vI z3), some (vI z6), none], [.ref 367], hp S4, 0, 0)) rfl ?_
          refine mv_gfI rfl rfl (sh_367) (by decide) rfl ?_
          refine ev_bk 1 (S' := (84, [some (.ref 367), some (vI x1), some (vI x2), some (vI x3), some (vI z3), some (vI z6), none], [vI z3, vI (S4.1 367 124)], hp S4, 0, 0)) rfl ?_
          refine mv_iadd rfl ?_
          refine ev_bk 1 (S' := (86, [some (.ref 367), some (vI x1), some (vI x2), some (vI x3), some (vI z3), some (vI z6), none], [vI x3, vI (S4.1 367 124 + z3)], hp S4, 0, 0)) rfl ?_
          refine mv_isub rfl ?_
          refine ev_bk 1 (S' := (90, [some (.ref 367), some (vI x1), some (vI x2), some (vI x3), some (vI z3), some (vI z6), none], [vI 40000, vI ((S4.1 367 124 + z3) - x3)], hp S4, 0, 0)) rfl ?_
          refine mv_icmp 97 rfl rfl (fun c => ?_) (fun c => ?_)
          · have F := F.1 c
            exact F
          · have F := F.2 c
            refine ev_bk 1 (S' := (94, [some (.ref 367), some (vI x1), some (vI x2), some (vI x3), some (vI z3), some (vI z6), none], [vI 1], hp S4, 0, 0)) rfl ?_
            refine mv_goto 98 rfl rfl ?_
            exact F
theorem vc_MD_save_97 {q : Nat × (Nat → Int32)} {S S' : ms} {r : Option Value} (x1 x2 x3 x4 x5 : Int)
    (F : EV q 421 98 [some (.ref 367), some (vI x1), some (vI x2), some (vI x3), some (vI x4), some (vI x5), none] [vI 0] S r S') : EV q 421 97 [some (.ref 367), some (vI x1), some (vI x2), some (vI x3), some (vI x4), some (vI x5), none] [] S r S' := by
  unfold EV
  refine ev_bk 1 (S' := (98, [some (.ref 367), some (vI x1), some (vI x2), some (vI x3), some (vI x4), some (vI x5), none], [vI 0], hp S, 0, 0)) rfl ?_
  exact F
theorem vc_MD_save_98 {q : Nat × (Nat → Int32)} {S S' : ms} {r : Option Value} (x1 x2 x3 x4 x5 y0 : Int)
    (F : EV q 421 102 [some (.ref 367), some (vI x1), some (vI y0), some (vI x3), some (vI x4), some (vI 0), none] [] S r S') : EV q 421 98 [some (.ref 367), some (vI x1), some (vI x2), some (vI x3), some (vI x4), some (vI x5), none] [vI y0] S r S' := by
  unfold EV
  refine ev_bk 3 (S' := (102, [some (.ref 367), some (vI x1), some (vI y0), some (vI x3), some (vI x4), some (vI 0), none], [], hp S, 0, 0)) rfl ?_
  exact F
theorem vc_MD_save_102 {q : Nat × (Nat → Int32)} {S S' : ms} {r : Option Value} (x1 x2 x3 x4 x5 : Int)
    (F : ((w32 x2 = 0) → EV q 421 122 [some (.ref 367), some (vI x1), some (vI x2), some (vI x3), some (vI x4), some (vI x5), none] [] S r S') ∧ ((¬ w32 x2 = 0) → (0 ≤ w32 x5 ∧ w32 x5 < (300 : Nat)) ∧ ((w32 (S.1 448 (w32 x5)) = 0) → EV q 421 122 [some (.ref 367), some (vI x1), some (vI x2), some (vI x3), some (vI x4), some (vI x5), none] [] S r S') ∧ ((¬ w32 (S.1 448 (w32 x5)) = 0) → EV q 421 102 [some (.ref 367), some (vI x1), some (vI x2), some (vI x3), some (vI x4), some (vI (x5 + 1)), none] [] S r S'))) : EV q 421 102 [some (.ref 367), some (vI x1), some (vI x2), some (vI x3), some (vI x4), some (vI x5), none] [] S r S' := by
  unfold EV
  refine ev_bk 1 (S' := (103, [some (.ref 367), some (vI x1), some (vI x2), some (vI x3), some (vI x4), some (vI x5), none], [vI x2], hp S, 0, 0)) rfl ?_
  refine mv_if 122 rfl rfl (fun c => ?_) (fun c => ?_)
  · have F := F.1 c
    exact F
  · have F := F.2 c
    refine ev_bk 1 (S' := (107, [some (.ref 367), some (vI x1), some (vI x2), some (vI x3), some (vI x4), some (vI x5), none], [.ref 367], hp S, 0, 0)) rfl ?_
    refine mv_gfR rfl rfl (sh_367) (by decide) rfl ?_
    refine ev_bk 1 (S' := (112, [some (.ref 367), some (vI x1), some (vI x2), some (vI x3), some (vI x4), some (vI x5), none], [vI x5, .ref 448], hp S, 0, 0)) rfl ?_
    obtain ⟨b1, F⟩ := F
    refine mv_zal rfl (sh_448) b1 ?_
    refine mv_if 122 rfl rfl (fun c => ?_) (fun c => ?_)
    · have F := F.1 c
      exact F
    · have F := F.2 c
      refine mv_inc (lv' := [some (.ref 367), some (vI x1), some (vI x2), some (vI x3), some (vI x4), some (vI (x5 + 1)), none]) 5 1 rfl rfl rfl rfl ?_
      refine mv_goto 102 rfl rfl ?_
      exact F
theorem vc_MD_save_122 {q : Nat × (Nat → Int32)} {S S' : ms} {r : Option Value} (x1 x2 x3 x4 x5 : Int)
    (F : ((w32 x2 = 0) → EV q 421 209 [some (.ref 367), some (vI x1), some (vI x2), some (vI x3), some (vI x4), some (vI x5), none] [] S r S') ∧ ((¬ w32 x2 = 0) → (0 ≤ w32 x5 ∧ w32 x5 < (300 : Nat)) ∧ ∀ S2 : ms, S2 = wI S 448 (w32 x5) (1 % 2) → (0 ≤ w32 x5 ∧ w32 x5 < (300 : Nat)) ∧ ∀ S4 : ms, S4 = wI S2 447 (w32 x5) (x4 - x3) → EV q 421 148 [some (.ref 367), some (vI x1), some (vI x2), some (vI x3), some (vI x4), some (vI x5), some (vI 0)] [] S4 r S')) : EV q 421 122 [some (.ref 367), some (vI x1), some (vI x2), some (vI x3), some (vI x4), some (vI x5), none] [] S r S' := by
  unfold EV
  refine ev_bk 1 (S' := (123, [some (.ref 367), some (vI x1), some (vI x2), some (vI x3), some (vI x4), some (vI x5), none], [vI x2], hp S, 0, 0)) rfl ?_
  refine mv_if 209 rfl rfl (fun c => ?_) (fun c => ?_)
  · have F := F.1 c
    exact F
  · have F := F.2 c
    refine ev_bk 1 (S' := (127, [some (.ref 367), some (vI x1), some (vI x2), some (vI x3), some (vI x4), some (vI x5), none], [.ref 367], hp S, 0, 0)) rfl ?_
    refine mv_gfR rfl rfl (sh_367) (by decide) rfl ?_
    refine ev_bk 2 (S' := (133, [some (.ref 367), some (vI x1), some (vI x2), some (vI x3), some (vI x4), some (vI x5), none], [vI 1, vI x5, .ref 448], hp S, 0, 0)) rfl ?_
    obtain ⟨b1, F⟩ := F
    refine mv_zas rfl (sh_448) b1 ?_
    have F := F _ rfl
    refine ev_bk 1 (S' := (135, [some (.ref 367), some (vI x1), some (vI x2), some (vI x3), some (vI x4), some (vI x5), none], [.ref 367], hp (wI S 448 (w32 x5) (1 % 2)), 0, 0)) rfl ?_
    refine mv_gfR rfl rfl (sh_367) (by decide) rfl ?_
    refine ev_bk 3 (S' := (143, [some (.ref 367), some (vI x1), some (vI x2), some (vI x3), some (vI x4), some (vI x5), none], [vI x3, vI x4, vI x5, .ref 447], hp (wI S 448 (w32 x5) (1 % 2)), 0, 0)) rfl ?_
    refine mv_isub rfl ?_
    obtain ⟨b3, F⟩ := F
    refine mv_ias rfl (sh_447) b3 ?_
    have F := F _ rfl
    refine ev_bk 2 (S' := (148, [some (.ref 367), some (vI x1), some (vI x2), some (vI x3), some (vI x4), some (vI x5), some (vI 0)], [], hp (wI (wI S 448 (w32 x5) (1 % 2)) 447 (w32 x5) (x4 - x3)), 0, 0)) rfl ?_
    exact F
theorem vc_MD_save_148 {q : Nat × (Nat → Int32)} {S S' : ms} {r : Option Value} (x1 x2 x3 x4 x5 x6 : Int)
    (F : ((w32 (x4 - x3) ≤ w32 x6) → ∀ S1 : ms, S1 = wI S 367 123 (S.1 367 123 + 1) → ∀ S2 : ms, S2 = wI S1 367 124 (S1.1 367 124 + (x4 - x3)) → EV q 421 209 [some (.ref 367), some (vI x1), some (vI x2), some (vI x3), some (vI x4), some (vI x5), none] [] S2 r S') ∧ ((¬ w32 (x4 - x3) ≤ w32 x6) → (0 ≤ w32 (x3 + x6) ∧ w32 (x3 + x6) < (6000 : Nat)) ∧ (0 ≤ w32 ((200 * x5) + x6) ∧ w32 ((200 * x5) + x6) < (60000 : Nat)) ∧ ∀ S5 : ms, S5 = wI S 446 (w32 ((200 * x5) + x6)) (b8 (S.1 368 (w32 (x3 + x6)))) → EV q 421 148 [some (.ref 367), some (vI x1), some (vI x2), some (vI x3), some (vI x4), some (vI x5), some (vI (x6 + 1))] [] S5 r S')) : EV q 421 148 [some (.ref 367), some (vI x1), some (vI x2), some (vI x3), some (vI x4), some (vI x5), some (vI x6)] [] S r S' := by
  unfold EV
  refine ev_bk 3 (S' := (153, [some (.ref 367), some (vI x1), some (vI x2), some (vI x3), some (vI x4), some (vI x5), some (vI x6)], [vI x3, vI x4, vI x6], hp S, 0, 0)) rfl ?_
  refine mv_isub rfl ?_
  refine mv_icmp 186 rfl rfl (fun c => ?_) (fun c => ?_)
  · have F := F.1 c
    refine ev_bk 2 (S' := (188, [some (.ref 367), some (vI x1), some (vI x2), some (vI x3), some (vI x4), some (vI x5), some (vI x6)], [.ref 367, .ref 367], hp S, 0, 0)) rfl ?_
    refine mv_gfI rfl rfl (sh_367) (by decide) rfl ?_
    refine ev_bk 1 (S' := (192, [some (.ref 367), some (vI x1), some (vI x2), some (vI x3), some (vI x4), some (vI x5), some (vI x6)], [vI 1, vI (S.1 367 123), .ref 367], hp S, 0, 0)) rfl ?_
    refine mv_iadd rfl ?_
    refine mv_pfI rfl rfl (sh_367) (by decide) rfl rfl ?_
    have F := F _ rfl
    refine ev_bk 2 (S' := (198, [some (.ref 367), some (vI x1), some (vI x2), some (vI x3), some (vI x4), some (vI x5), some (vI x6)], [.ref 367, .ref 367], hp (wI S 367 123 (S.1 367 123 + 1)), 0, 0)) rfl ?_
    refine mv_gfI rfl rfl (sh_367) (by decide) rfl ?_
    refine ev_bk 2 (S' := (204, [some (.ref 367), some (vI x1), some (vI x2), some (vI x3), some (vI x4), some (vI x5), some (vI x6)], [vI x3, vI x4, vI ((wI S 367 123 (S.1 367 123 + 1)).1 367 124), .ref 367], hp (wI S 367 123 (S.1 367 123 + 1)), 0, 0)) rfl ?_
    refine mv_isub rfl ?_
    refine mv_iadd rfl ?_
    refine mv_pfI rfl rfl (sh_367) (by decide) rfl rfl ?_
    have F := F _ rfl
    exact ev_wk (le_s (le_s (le_s (le_s (le_s (le_s (le_n le_0))))))) F
  · have F := F.2 c
    refine ev_bk 1 (S' := (158, [some (.ref 367), some (vI x1), some (vI x2), some (vI x3), some (vI x4), some (vI x5), some (vI x6)], [.ref 367], hp S, 0, 0)) rfl ?_
    refine mv_gfR rfl rfl (sh_367) (by decide) rfl ?_
    refine ev_bk 2 (S' := (166, [some (.ref 367), some (vI x1), some (vI x2), some (vI x3), some (vI x4), some (vI x5), some (vI x6)], [vI x5, vI 200, .ref 446], hp S, 0, 0)) rfl ?_
    refine mv_imul rfl ?_
    refine ev_bk 1 (S' := (169, [some (.ref 367), some (vI x1), some (vI x2), some (vI x3), some (vI x4), some (vI x5), some (vI x6)], [vI x6, vI (200 * x5), .ref 446], hp S, 0, 0)) rfl ?_
    refine mv_iadd rfl ?_
    refine ev_bk 1 (S' := (171, [some (.ref 367), some (vI x1), some (vI x2), some (vI x3), some (vI x4), some (vI x5), some (vI x6)], [.ref 367, vI ((200 * x5) + x6), .ref 446], hp S, 0, 0)) rfl ?_
    refine mv_gfR rfl rfl (sh_367) (by decide) rfl ?_
    refine ev_bk 2 (S' := (177, [some (.ref 367), some (vI x1), some (vI x2), some (vI x3), some (vI x4), some (vI x5), some (vI x6)], [vI x6, vI x3, .ref 368, vI ((200 * x5) + x6), .ref 446], hp S, 0, 0)) rfl ?_
    refine mv_iadd rfl ?_
    obtain ⟨b3, F⟩ := F
    refine mv_bal rfl (sh_368) b3 ?_
    obtain ⟨b4, F⟩ := F
    refine mv_bas rfl (sh_446) b4 ?_
    have F := F _ rfl
    refine mv_inc (lv' := [some (.ref 367), some (vI x1), some (vI x2), some (vI x3), some (vI x4), some (vI x5), some (vI (x6 + 1))]) 6 1 rfl rfl rfl rfl ?_
    refine mv_goto 148 rfl rfl ?_
    exact F
theorem vc_MD_save_209 {q : Nat × (Nat → Int32)} {S S' : ms} {r : Option Value} (x1 x2 x3 x4 x5 : Int)
    (F : ((w32 x2 = 0) → EV q 421 242 [some (.ref 367), some (vI x1), some (vI x2), some (vI x3), some (vI x4), some (vI x5), none] [] S r S') ∧ ((¬ w32 x2 = 0) → (0 ≤ w32 x1 ∧ w32 x1 < (8 : Nat)) ∧ (0 ≤ w32 ((200 * x1) + (S.1 451 (w32 x1))) ∧ w32 ((200 * x1) + (S.1 451 (w32 x1))) < (1600 : Nat)) ∧ ∀ S3 : ms, S3 = wI S 450 (w32 ((200 * x1) + (S.1 451 (w32 x1)))) x5 → (0 ≤ w32 x1 ∧ w32 x1 < (8 : Nat)) ∧ (0 ≤ w32 x1 ∧ w32 x1 < (8 : Nat)) ∧ ∀ S6 : ms, S6 = wI S3 451 (w32 x1) ((S3.1 451 (w32 x1)) + 1) → EV q 421 242 [some (.ref 367), some (vI x1), some (vI x2), some (vI x3), some (vI x4), some (vI x5), none] [] S6 r S')) : EV q 421 209 [some (.ref 367), some (vI x1), some (vI x2), some (vI x3), some (vI x4), some (vI x5), none] [] S r S' := by
  unfold EV
  refine ev_bk 1 (S' := (210, [some (.ref 367), some (vI x1), some (vI x2), some (vI x3), some (vI x4), some (vI x5), none], [vI x2], hp S, 0, 0)) rfl ?_
  refine mv_if 242 rfl rfl (fun c => ?_) (fun c => ?_)
  · have F := F.1 c
    exact F
  · have F := F.2 c
    refine ev_bk 1 (S' := (214, [some (.ref 367), some (vI x1), some (vI x2), some (vI x3), some (vI x4), some (vI x5), none], [.ref 367], hp S, 0, 0)) rfl ?_
    refine mv_gfR rfl rfl (sh_367) (by decide) rfl ?_
    refine ev_bk 2 (S' := (221, [some (.ref 367), some (vI x1), some (vI x2), some (vI x3), some (vI x4), some (vI x5), none], [vI x1, vI 200, .ref 450], hp S, 0, 0)) rfl ?_
    refine mv_imul rfl ?_
    refine ev_bk 1 (S' := (223, [some (.ref 367), some (vI x1), some (vI x2), some (vI x3), some (vI x4), some (vI x5), none], [.ref 367, vI (200 * x1), .ref 450], hp S, 0, 0)) rfl ?_
    refine mv_gfR rfl rfl (sh_367) (by decide) rfl ?_
    refine ev_bk 1 (S' := (227, [some (.ref 367), some (vI x1), some (vI x2), some (vI x3), some (vI x4), some (vI x5), none], [vI x1, .ref 451, vI (200 * x1), .ref 450], hp S, 0, 0)) rfl ?_
    obtain ⟨b1, F⟩ := F
    refine mv_ial rfl (sh_451) b1 ?_
    refine mv_iadd rfl ?_
    refine ev_bk 1 (S' := (231, [some (.ref 367), some (vI x1), some (vI x2), some (vI x3), some (vI x4), some (vI x5), none], [vI x5, vI ((200 * x1) + (S.1 451 (w32 x1))), .ref 450], hp S, 0, 0)) rfl ?_
    obtain ⟨b2, F⟩ := F
    refine mv_ias rfl (sh_450) b2 ?_
    have F := F _ rfl
    refine ev_bk 1 (S' := (233, [some (.ref 367), some (vI x1), some (vI x2), some (vI x3), some (vI x4), some (vI x5), none], [.ref 367], hp (wI S 450 (w32 ((200 * x1) + (S.1 451 (w32 x1)))) x5), 0, 0)) rfl ?_
    refine mv_gfR rfl rfl (sh_367) (by decide) rfl ?_
    refine ev_bk 2 (S' := (238, [some (.ref 367), some (vI x1), some (vI x2), some (vI x3), some (vI x4), some (vI x5), none], [vI x1, .ref 451, vI x1, .ref 451], hp (wI S 450 (w32 ((200 * x1) + (S.1 451 (w32 x1)))) x5), 0, 0)) rfl ?_
    obtain ⟨b4, F⟩ := F
    refine mv_ial rfl (sh_451) b4 ?_
    refine ev_bk 1 (S' := (240, [some (.ref 367), some (vI x1), some (vI x2), some (vI x3), some (vI x4), some (vI x5), none], [vI 1, vI ((wI S 450 (w32 ((200 * x1) + (S.1 451 (w32 x1)))) x5).1 451 (w32 x1)), vI x1, .ref 451], hp (wI S 450 (w32 ((200 * x1) + (S.1 451 (w32 x1)))) x5), 0, 0)) rfl ?_
    refine mv_iadd rfl ?_
    obtain ⟨b5, F⟩ := F
    refine mv_ias rfl (sh_451) b5 ?_
    have F := F _ rfl
    exact F
theorem vc_MD_save_242 {q : Nat × (Nat → Int32)} {S S' : ms} {r : Option Value} (x1 x2 x3 x4 x5 : Int)
    (F : EV q 421 33 [some (.ref 367), some (vI x1), some (vI x2), some (vI x4), none, none, none] [] S r S') : EV q 421 242 [some (.ref 367), some (vI x1), some (vI x2), some (vI x3), some (vI x4), some (vI x5), none] [] S r S' := by
  unfold EV
  refine ev_bk 2 (S' := (245, [some (.ref 367), some (vI x1), some (vI x2), some (vI x4), some (vI x4), some (vI x5), none], [], hp S, 0, 0)) rfl ?_
  refine mv_goto 33 rfl rfl ?_
  exact ev_wk (le_s (le_s (le_s (le_s (le_n (le_n (le_s le_0))))))) F
theorem vc_MD_save_248 {q : Nat × (Nat → Int32)} {S S' : ms} {r : Option Value} (x1 x2 x3 : Int)
    (F : ((¬ w32 x2 = 0) → ∀ S1 : ms, S1 = wI S 367 130 (S.1 367 130 + 1) → (0 ≤ w32 x1 ∧ w32 x1 < (8 : Nat)) ∧ ∀ S3 : ms, S3 = wI S1 449 (w32 x1) (S1.1 367 130) → ∀ S4 : ms, S4 = wI S3 367 129 (S3.1 367 129 + 1) → r = some (vI (S4.1 367 130)) ∧ S' = S4) ∧ ((¬ (¬ w32 x2 = 0)) → EV q 421 255 [some (.ref 367), some (vI x1), some (vI x2), some (vI x3), some (vI 0), none, none] [] S r S')) : EV q 421 248 [some (.ref 367), some (vI x1), some (vI x2), some (vI x3), none, none, none] [] S r S' := by
  unfold EV
  refine ev_bk 1 (S' := (249, [some (.ref 367), some (vI x1), some (vI x2), some (vI x3), none, none, none], [vI x2], hp S, 0, 0)) rfl ?_
  refine mv_if 294 rfl rfl (fun c => ?_) (fun c => ?_)
  · have F := F.1 c
    refine ev_bk 2 (S' := (296, [some (.ref 367), some (vI x1), some (vI x2), some (vI x3), none, none, none], [.ref 367, .ref 367], hp S, 0, 0)) rfl ?_
    refine mv_gfI rfl rfl (sh_367) (by decide) rfl ?_
    refine ev_bk 1 (S' := (300, [some (.ref 367), some (vI x1), some (vI x2), some (vI x3), none, none, none], [vI 1, vI (S.1 367 130), .ref 367], hp S, 0, 0)) rfl ?_
    refine mv_iadd rfl ?_
    refine mv_pfI rfl rfl (sh_367) (by decide) rfl rfl ?_
    have F := F _ rfl
    refine ev_bk 1 (S' := (305, [some (.ref 367), some (vI x1), some (vI x2), some (vI x3), none, none, none], [.ref 367], hp (wI S 367 130 (S.1 367 130 + 1)), 0, 0)) rfl ?_
    refine mv_gfR rfl rfl (sh_367) (by decide) rfl ?_
    refine ev_bk 2 (S' := (310, [some (.ref 367), some (vI x1), some (vI x2), some (vI x3), none, none, none], [.ref 367, vI x1, .ref 449], hp (wI S 367 130 (S.1 367 130 + 1)), 0, 0)) rfl ?_
    refine mv_gfI rfl rfl (sh_367) (by decide) rfl ?_
    obtain ⟨b2, F⟩ := F
    refine mv_ias rfl (sh_449) b2 ?_
    have F := F _ rfl
    refine ev_bk 2 (S' := (316, [some (.ref 367), some (vI x1), some (vI x2), some (vI x3), none, none, none], [.ref 367, .ref 367], hp (wI (wI S 367 130 (S.1 367 130 + 1)) 449 (w32 x1) ((wI S 367 130 (S.1 367 130 + 1)).1 367 130)), 0, 0)) rfl ?_
    refine mv_gfI rfl rfl (sh_367) (by decide) rfl ?_
    refine ev_bk 1 (S' := (320, [some (.ref 367), some (vI x1), some (vI x2), some (vI x3), none, none, none], [vI 1, vI ((wI (wI S 367 130 (S.1 367 130 + 1)) 449 (w32 x1) ((wI S 367 130 (S.1 367 130 + 1)).1 367 130)).1 367 129), .ref 367], hp (wI (wI S 367 130 (S.1 367 130 + 1)) 449 (w32 x1) ((wI S 367 130 (S.1 367 130 + 1)).1 367 130)), 0, 0)) rfl ?_
    refine mv_iadd rfl ?_
    refine mv_pfI rfl rfl (sh_367) (by decide) rfl rfl ?_
    have F := F _ rfl
    refine ev_bk 1 (S' := (325, [some (.ref 367), some (vI x1), some (vI x2), some (vI x3), none, none, none], [.ref 367], hp (wI (wI (wI S 367 130 (S.1 367 130 + 1)) 449 (w32 x1) ((wI S 367 130 (S.1 367 130 + 1)).1 367 130)) 367 129 ((wI (wI S 367 130 (S.1 367 130 + 1)) 449 (w32 x1) ((wI S 367 130 (S.1 367 130 + 1)).1 367 130)).1 367 129 + 1)), 0, 0)) rfl ?_
    refine mv_gfI rfl rfl (sh_367) (by decide) rfl ?_
    obtain ⟨rfl, rfl⟩ := F
    exact ev_ret rfl rfl
  · have F := F.2 c
    refine ev_bk 2 (S' := (255, [some (.ref 367), some (vI x1), some (vI x2), some (vI x3), some (vI 0), none, none], [], hp S, 0, 0)) rfl ?_
    exact F
theorem vc_MD_save_255 {q : Nat × (Nat → Int32)} {S S' : ms} {r : Option Value} (x1 x2 x3 x4 : Int)
    (F : (0 ≤ w32 x1 ∧ w32 x1 < (8 : Nat)) ∧ ((w32 (S.1 451 (w32 x1)) ≤ w32 x4) → r = some (vI ((-4))) ∧ S' = S) ∧ ((¬ w32 (S.1 451 (w32 x1)) ≤ w32 x4) → (0 ≤ w32 ((200 * x1) + x4) ∧ w32 ((200 * x1) + x4) < (1600 : Nat)) ∧ ∃ (z5 : Int) (S3 : ms), EV q 424 0 [some (.ref 367), some (vI (S.1 450 (w32 ((200 * x1) + x4)))), none, none] [] S (some (vI z5)) S3 ∧ EV q 421 255 [some (.ref 367), some (vI x1), some (vI x2), some (vI x3), some (vI (x4 + 1)), none, none] [] S3 r S')) : EV q 421 255 [some (.ref 367), some (vI x1), some (vI x2), some (vI x3), some (vI x4), none, none] [] S r S' := by
  unfold EV
  refine ev_bk 2 (S' := (258, [some (.ref 367), some (vI x1), some (vI x2), some (vI x3), some (vI x4), none, none], [.ref 367, vI x4], hp S, 0, 0)) rfl ?_
  refine mv_gfR rfl rfl (sh_367) (by decide) rfl ?_
  refine ev_bk 1 (S' := (262, [some (.ref 367), some (vI x1), some (vI x2), some (vI x3), some (vI x4), none, none], [vI x1, .ref 451, vI x4], hp S, 0, 0)) rfl ?_
  obtain ⟨b1, F⟩ := F
  refine mv_ial rfl (sh_451) b1 ?_
  refine mv_icmp 291 rfl rfl (fun c => ?_) (fun c => ?_)
  · have F := F.1 c
    refine ev_bk 1 (S' := (293, [some (.ref 367), some (vI x1), some (vI x2), some (vI x3), some (vI x4), none, none], [vI ((-4))], hp S, 0, 0)) rfl ?_
    obtain ⟨rfl, rfl⟩ := F
    exact ev_ret rfl rfl
  · have F := F.2 c
    refine ev_bk 2 (S' := (268, [some (.ref 367), some (vI x1), some (vI x2), some (vI x3), some (vI x4), none, none], [.ref 367, .ref 367], hp S, 0, 0)) rfl ?_
    refine mv_gfR rfl rfl (sh_367) (by decide) rfl ?_
    refine ev_bk 2 (S' := (275, [some (.ref 367), some (vI x1), some (vI x2), some (vI x3), some (vI x4), none, none], [vI x1, vI 200, .ref 450, .ref 367], hp S, 0, 0)) rfl ?_
    refine mv_imul rfl ?_
    refine ev_bk 1 (S' := (278, [some (.ref 367), some (vI x1), some (vI x2), some (vI x3), some (vI x4), none, none], [vI x4, vI (200 * x1), .ref 450, .ref 367], hp S, 0, 0)) rfl ?_
    refine mv_iadd rfl ?_
    obtain ⟨b2, F⟩ := F
    refine mv_ial rfl (sh_450) b2 ?_
    obtain ⟨z5, S3, e4, F⟩ := F
    refine mv_calv (as := [vI (S.1 450 (w32 ((200 * x1) + x4)))]) (rest := []) e4 (sh_367) rfl rfl rfl ⟨rfl, rfl⟩ rfl rfl rfl rfl rfl ?_
    refine ev_bk 1 (S' := (285, [some (.ref 367), some (vI x1), some (vI x2), some (vI x3), some (vI x4), some (vI z5), none], [], hp S3, 0, 0)) rfl ?_
    refine mv_inc (lv' := [some (.ref 367), some (vI x1), some (vI x2), some (vI x3), some (vI (x4 + 1)), some (vI z5), none]) 4 1 rfl rfl rfl rfl ?_
    refine mv_goto 255 rfl rfl ?_
    exact ev_wk (le_s (le_s (le_s (le_s (le_s (le_n (le_s le_0))))))) F
theorem vc_MD_pieceEnd {q : Nat × (Nat → Int32)} {S S' : ms} {r : Option Value} (x1 : Int)
    (F : EV q 422 4 [some (.ref 367), some (vI x1), some (vI 0), some (vI x1)] [] S r S') : EV q 422 0 [some (.ref 367), some (vI x1), none, none] [] S r S' := by
  unfold EV
  refine ev_bk 4 (S' := (4, [some (.ref 367), some (vI x1), some (vI 0), some (vI x1)], [], hp S, 0, 0)) rfl ?_
  exact F
theorem vc_MD_pieceEnd_4 {q : Nat × (Nat → Int32)} {S S' : ms} {r : Option Value} (x1 x2 x3 : Int)
    (F : ((w32 (S.1 367 2) ≤ w32 x3) → r = some (vI x3) ∧ S' = S) ∧ ((¬ w32 (S.1 367 2) ≤ w32 x3) → (0 ≤ w32 x3 ∧ w32 x3 < (6000 : Nat)) ∧ ((w32 ((x3 + 1) - x1) < 32) → EV q 422 53 [some (.ref 367), some (vI x1), some (vI (((x2 * 31) + ((S.1 368 (w32 x3)) % 256)) + 1)), some (vI (x3 + 1))] [] S r S') ∧ ((¬ w32 ((x3 + 1) - x1) < 32) → ((w32 ((w32 (((x2 * 31) + ((S.1 368 (w32 x3)) % 256)) + 1) / 16777216) % 64) = 63) → r = some (vI (x3 + 1)) ∧ S' = S) ∧ ((¬ w32 ((w32 (((x2 * 31) + ((S.1 368 (w32 x3)) % 256)) + 1) / 16777216) % 64) = 63) → EV q 422 53 [some (.ref 367), some (vI x1), some (vI (((x2 * 31) + ((S.1 368 (w32 x3)) % 256)) + 1)), some (vI (x3 + 1))] [] S r S')))) : EV q 422 4 [some (.ref 367), some (vI x1), some (vI x2), some (vI x3)] [] S r S' := by
  unfold EV
  refine ev_bk 2 (S' := (6, [some (.ref 367), some (vI x1), some (vI x2), some (vI x3)], [.ref 367, vI x3], hp S, 0, 0)) rfl ?_
  refine mv_gfI rfl rfl (sh_367) (by decide) rfl ?_
  refine mv_icmp 64 rfl rfl (fun c => ?_) (fun c => ?_)
  · have F := F.1 c
    refine ev_bk 1 (S' := (65, [some (.ref 367), some (vI x1), some (vI x2), some (vI x3)], [vI x3], hp S, 0, 0)) rfl ?_
    obtain ⟨rfl, rfl⟩ := F
    exact ev_ret rfl rfl
  · have F := F.2 c
    refine ev_bk 2 (S' := (15, [some (.ref 367), some (vI x1), some (vI x2), some (vI x3)], [vI 31, vI x2], hp S, 0, 0)) rfl ?_
    refine mv_imul rfl ?_
    refine ev_bk 1 (S' := (17, [some (.ref 367), some (vI x1), some (vI x2), some (vI x3)], [.ref 367, vI (x2 * 31)], hp S, 0, 0)) rfl ?_
    refine mv_gfR rfl rfl (sh_367) (by decide) rfl ?_
    refine ev_bk 1 (S' := (21, [some (.ref 367), some (vI x1), some (vI x2), some (vI x3)], [vI x3, .ref 368, vI (x2 * 31)], hp S, 0, 0)) rfl ?_
    obtain ⟨b1, F⟩ := F
    refine mv_bal rfl (sh_368) b1 ?_
    refine ev_bk 1 (S' := (25, [some (.ref 367), some (vI x1), some (vI x2), some (vI x3)], [vI 255, vI (S.1 368 (w32 x3)), vI (x2 * 31)], hp S, 0, 0)) rfl ?_
    refine mv_iandm 256 8 (by decide) rfl rfl rfl ?_
    refine mv_iadd rfl ?_
    refine ev_bk 1 (S' := (28, [some (.ref 367), some (vI x1), some (vI x2), some (vI x3)], [vI 1, vI ((x2 * 31) + ((S.1 368 (w32 x3)) % 256))], hp S, 0, 0)) rfl ?_
    refine mv_iadd rfl ?_
    refine ev_bk 1 (S' := (30, [some (.ref 367), some (vI x1), some (vI (((x2 * 31) + ((S.1 368 (w32 x3)) % 256)) + 1)), some (vI x3)], [], hp S, 0, 0)) rfl ?_
    refine mv_inc (lv' := [some (.ref 367), some (vI x1), some (vI (((x2 * 31) + ((S.1 368 (w32 x3)) % 256)) + 1)), some (vI (x3 + 1))]) 3 1 rfl rfl rfl rfl ?_
    refine ev_bk 2 (S' := (35, [some (.ref 367), some (vI x1), some (vI (((x2 * 31) + ((S.1 368 (w32 x3)) % 256)) + 1)), some (vI (x3 + 1))], [vI x1, vI (x3 + 1)], hp S, 0, 0)) rfl ?_
    refine mv_isub rfl ?_
    refine ev_bk 1 (S' := (38, [some (.ref 367), some (vI x1), some (vI (((x2 * 31) + ((S.1 368 (w32 x3)) % 256)) + 1)), some (vI (x3 + 1))], [vI 32, vI ((x3 + 1) - x1)], hp S, 0, 0)) rfl ?_
    refine mv_icmp 53 rfl rfl (fun c => ?_) (fun c => ?_)
    · have F := F.1 c
      exact F
    · have F := F.2 c
      refine ev_bk 2 (S' := (44, [some (.ref 367), some (vI x1), some (vI (((x2 * 31) + ((S.1 368 (w32 x3)) % 256)) + 1)), some (vI (x3 + 1))], [vI 24, vI (((x2 * 31) + ((S.1 368 (w32 x3)) % 256)) + 1)], hp S, 0, 0)) rfl ?_
      refine mv_ishr 16777216 rfl rfl ?_
      refine ev_bk 1 (S' := (47, [some (.ref 367), some (vI x1), some (vI (((x2 * 31) + ((S.1 368 (w32 x3)) % 256)) + 1)), some (vI (x3 + 1))], [vI 63, vI (w32 (((x2 * 31) + ((S.1 368 (w32 x3)) % 256)) + 1) / 16777216)], hp S, 0, 0)) rfl ?_
      refine mv_iandm 64 6 (by decide) rfl rfl rfl ?_
      refine ev_bk 1 (S' := (50, [some (.ref 367), some (vI x1), some (vI (((x2 * 31) + ((S.1 368 (w32 x3)) % 256)) + 1)), some (vI (x3 + 1))], [vI 63, vI ((w32 (((x2 * 31) + ((S.1 368 (w32 x3)) % 256)) + 1) / 16777216) % 64)], hp S, 0, 0)) rfl ?_
      refine mv_icmp 62 rfl rfl (fun c => ?_) (fun c => ?_)
      · have F := F.1 c
        refine ev_bk 1 (S' := (63, [some (.ref 367), some (vI x1), some (vI (((x2 * 31) + ((S.1 368 (w32 x3)) % 256)) + 1)), some (vI (x3 + 1))], [vI (x3 + 1)], hp S, 0, 0)) rfl ?_
        obtain ⟨rfl, rfl⟩ := F
        exact ev_ret rfl rfl
      · have F := F.2 c
        exact F
theorem vc_MD_pieceEnd_53 {q : Nat × (Nat → Int32)} {S S' : ms} {r : Option Value} (x1 x2 x3 : Int)
    (F : ((¬ w32 (x3 - x1) = 200) → EV q 422 4 [some (.ref 367), some (vI x1), some (vI x2), some (vI x3)] [] S r S') ∧ ((¬ (¬ w32 (x3 - x1) = 200)) → r = some (vI x3) ∧ S' = S)) : EV q 422 53 [some (.ref 367), some (vI x1), some (vI x2), some (vI x3)] [] S r S' := by
  unfold EV
  refine ev_bk 2 (S' := (55, [some (.ref 367), some (vI x1), some (vI x2), some (vI x3)], [vI x1, vI x3], hp S, 0, 0)) rfl ?_
  refine mv_isub rfl ?_
  refine ev_bk 1 (S' := (59, [some (.ref 367), some (vI x1), some (vI x2), some (vI x3)], [vI 200, vI (x3 - x1)], hp S, 0, 0)) rfl ?_
  refine mv_icmp 4 rfl rfl (fun c => ?_) (fun c => ?_)
  · have F := F.1 c
    exact F
  · have F := F.2 c
    refine ev_bk 1 (S' := (63, [some (.ref 367), some (vI x1), some (vI x2), some (vI x3)], [vI x3], hp S, 0, 0)) rfl ?_
    obtain ⟨rfl, rfl⟩ := F
    exact ev_ret rfl rfl
theorem vc_MD_blockOf {q : Nat × (Nat → Int32)} {S S' : ms} {r : Option Value} (x1 x2 : Int)
    (F : EV q 423 2 [some (.ref 367), some (vI x1), some (vI x2), some (vI 0), none, none] [] S r S') : EV q 423 0 [some (.ref 367), some (vI x1), some (vI x2), none, none, none] [] S r S' := by
  unfold EV
  refine ev_bk 2 (S' := (2, [some (.ref 367), some (vI x1), some (vI x2), some (vI 0), none, none], [], hp S, 0, 0)) rfl ?_
  exact F
theorem vc_MD_blockOf_2 {q : Nat × (Nat → Int32)} {S S' : ms} {r : Option Value} (x1 x2 x3 : Int)
    (F : ((300 ≤ w32 x3) → r = some (vI ((-1))) ∧ S' = S) ∧ ((¬ 300 ≤ w32 x3) → (0 ≤ w32 x3 ∧ w32 x3 < (300 : Nat)) ∧ ((w32 (S.1 448 (w32 x3)) = 0) → EV q 423 32 [some (.ref 367), some (vI x1), some (vI x2), some (vI x3), none, none] [] S r S') ∧ ((¬ w32 (S.1 448 (w32 x3)) = 0) → (0 ≤ w32 x3 ∧ w32 x3 < (300 : Nat)) ∧ ((¬ w32 (S.1 447 (w32 x3)) = w32 x2) → EV q 423 32 [some (.ref 367), some (vI x1), some (vI x2), some (vI x3), none, none] [] S r S') ∧ ((¬ (¬ w32 (S.1 447 (w32 x3)) = w32 x2)) → EV q 423 33 [some (.ref 367), some (vI x1), some (vI x2), some (vI x3), none, none] [vI 1] S r S')))) : EV q 423 2 [some (.ref 367), some (vI x1), some (vI x2), some (vI x3), none, none] [] S r S' := by
  unfold EV
  refine ev_bk 2 (S' := (6, [some (.ref 367), some (vI x1), some (vI x2), some (vI x3), none, none], [vI 300, vI x3], hp S, 0, 0)) rfl ?_
  refine mv_icmp 100 rfl rfl (fun c => ?_) (fun c => ?_)
  · have F := F.1 c
    refine ev_bk 1 (S' := (101, [some (.ref 367), some (vI x1), some (vI x2), some (vI x3), none, none], [vI ((-1))], hp S, 0, 0)) rfl ?_
    obtain ⟨rfl, rfl⟩ := F
    exact ev_ret rfl rfl
  · have F := F.2 c
    refine ev_bk 1 (S' := (10, [some (.ref 367), some (vI x1), some (vI x2), some (vI x3), none, none], [.ref 367], hp S, 0, 0)) rfl ?_
    refine mv_gfR rfl rfl (sh_367) (by decide) rfl ?_
    refine ev_bk 1 (S' := (14, [some (.ref 367), some (vI x1), some (vI x2), some (vI x3), none, none], [vI x3, .ref 448], hp S, 0, 0)) rfl ?_
    obtain ⟨b1, F⟩ := F
    refine mv_zal rfl (sh_448) b1 ?_
    refine mv_if 32 rfl rfl (fun c => ?_) (fun c => ?_)
    · have F := F.1 c
      exact F
    · have F := F.2 c
      refine ev_bk 1 (S' := (19, [some (.ref 367), some (vI x1), some (vI x2), some (vI x3), none, none], [.ref 367], hp S, 0, 0)) rfl ?_
      refine mv_gfR rfl rfl (sh_367) (by decide) rfl ?_
      refine ev_bk 1 (S' := (23, [some (.ref 367), some (vI x1), some (vI x2), some (vI x3), none, none], [vI x3, .ref 447], hp S, 0, 0)) rfl ?_
      obtain ⟨b2, F⟩ := F
      refine mv_ial rfl (sh_447) b2 ?_
      refine ev_bk 1 (S' := (25, [some (.ref 367), some (vI x1), some (vI x2), some (vI x3), none, none], [vI x2, vI (S.1 447 (w32 x3))], hp S, 0, 0)) rfl ?_
      refine mv_icmp 32 rfl rfl (fun c => ?_) (fun c => ?_)
      · have F := F.1 c
        exact F
      · have F := F.2 c
        refine ev_bk 1 (S' := (29, [some (.ref 367), some (vI x1), some (vI x2), some (vI x3), none, none], [vI 1], hp S, 0, 0)) rfl ?_
        refine mv_goto 33 rfl rfl ?_
        exact F
theorem vc_MD_blockOf_32 {q : Nat × (Nat → Int32)} {S S' : ms} {r : Option Value} (x1 x2 x3 : Int)
    (F : EV q 423 33 [some (.ref 367), some (vI x1), some (vI x2), some (vI x3), none, none] [vI 0] S r S') : EV q 423 32 [some (.ref 367), some (vI x1), some (vI x2), some (vI x3), none, none] [] S r S' := by
  unfold EV
  refine ev_bk 1 (S' := (33, [some (.ref 367), some (vI x1), some (vI x2), some (vI x3), none, none], [vI 0], hp S, 0, 0)) rfl ?_
  exact F
theorem vc_MD_blockOf_33 {q : Nat × (Nat → Int32)} {S S' : ms} {r : Option Value} (x1 x2 x3 y0 : Int)
    (F : EV q 423 38 [some (.ref 367), some (vI x1), some (vI x2), some (vI x3), some (vI y0), some (vI 0)] [] S r S') : EV q 423 33 [some (.ref 367), some (vI x1), some (vI x2), some (vI x3), none, none] [vI y0] S r S' := by
  unfold EV
  refine ev_bk 3 (S' := (38, [some (.ref 367), some (vI x1), some (vI x2), some (vI x3), some (vI y0), some (vI 0)], [], hp S, 0, 0)) rfl ?_
  exact F
theorem vc_MD_blockOf_38 {q : Nat × (Nat → Int32)} {S S' : ms} {r : Option Value} (x1 x2 x3 x4 x5 : Int)
    (F : ((w32 x2 ≤ w32 x5) → EV q 423 87 [some (.ref 367), some (vI x1), some (vI x2), some (vI x3), some (vI x4), some (vI x5)] [] S r S') ∧ ((¬ w32 x2 ≤ w32 x5) → ((w32 x4 = 0) → EV q 423 87 [some (.ref 367), some (vI x1), some (vI x2), some (vI x3), some (vI x4), some (vI x5)] [] S r S') ∧ ((¬ w32 x4 = 0) → (0 ≤ w32 ((200 * x3) + x5) ∧ w32 ((200 * x3) + x5) < (60000 : Nat)) ∧ (0 ≤ w32 (x1 + x5) ∧ w32 (x1 + x5) < (6000 : Nat)) ∧ ((¬ w32 (S.1 446 (w32 ((200 * x3) + x5))) = w32 (S.1 368 (w32 (x1 + x5)))) → EV q 423 79 [some (.ref 367), some (vI x1), some (vI x2), some (vI x3), some (vI x4), some (vI x5)] [vI 0] S r S') ∧ ((¬ (¬ w32 (S.1 446 (w32 ((200 * x3) + x5))) = w32 (S.1 368 (w32 (x1 + x5))))) → EV q 423 79 [some (.ref 367), some (vI x1), some (vI x2), some (vI x3), some (vI x4), some (vI x5)] [vI 1] S r S')))) : EV q 423 38 [some (.ref 367), some (vI x1), some (vI x2), some (vI x3), some (vI x4), some (vI x5)] [] S r S' := by
  unfold EV
  refine ev_bk 2 (S' := (41, [some (.ref 367), some (vI x1), some (vI x2), some (vI x3), some (vI x4), some (vI x5)], [vI x2, vI x5], hp S, 0, 0)) rfl ?_
  refine mv_icmp 87 rfl rfl (fun c => ?_) (fun c => ?_)
  · have F := F.1 c
    exact F
  · have F := F.2 c
    refine ev_bk 1 (S' := (46, [some (.ref 367), some (vI x1), some (vI x2), some (vI x3), some (vI x4), some (vI x5)], [vI x4], hp S, 0, 0)) rfl ?_
    refine mv_if 87 rfl rfl (fun c => ?_) (fun c => ?_)
    · have F := F.1 c
      exact F
    · have F := F.2 c
      refine ev_bk 1 (S' := (50, [some (.ref 367), some (vI x1), some (vI x2), some (vI x3), some (vI x4), some (vI x5)], [.ref 367], hp S, 0, 0)) rfl ?_
      refine mv_gfR rfl rfl (sh_367) (by decide) rfl ?_
      refine ev_bk 2 (S' := (57, [some (.ref 367), some (vI x1), some (vI x2), some (vI x3), some (vI x4), some (vI x5)], [vI x3, vI 200, .ref 446], hp S, 0, 0)) rfl ?_
      refine mv_imul rfl ?_
      refine ev_bk 1 (S' := (60, [some (.ref 367), some (vI x1), some (vI x2), some (vI x3), some (vI x4), some (vI x5)], [vI x5, vI (200 * x3), .ref 446], hp S, 0, 0)) rfl ?_
      refine mv_iadd rfl ?_
      obtain ⟨b1, F⟩ := F
      refine mv_bal rfl (sh_446) b1 ?_
      refine ev_bk 1 (S' := (63, [some (.ref 367), some (vI x1), some (vI x2), some (vI x3), some (vI x4), some (vI x5)], [.ref 367, vI (S.1 446 (w32 ((200 * x3) + x5)))], hp S, 0, 0)) rfl ?_
      refine mv_gfR rfl rfl (sh_367) (by decide) rfl ?_
      refine ev_bk 2 (S' := (69, [some (.ref 367), some (vI x1), some (vI x2), some (vI x3), some (vI x4), some (vI x5)], [vI x5, vI x1, .ref 368, vI (S.1 446 (w32 ((200 * x3) + x5)))], hp S, 0, 0)) rfl ?_
      refine mv_iadd rfl ?_
      obtain ⟨b2, F⟩ := F
      refine mv_bal rfl (sh_368) b2 ?_
      refine mv_icmp 78 rfl rfl (fun c => ?_) (fun c => ?_)
      · have F := F.1 c
        refine ev_bk 1 (S' := (79, [some (.ref 367), some (vI x1), some (vI x2), some (vI x3), some (vI x4), some (vI x5)], [vI 0], hp S, 0, 0)) rfl ?_
        exact F
      · have F := F.2 c
        refine ev_bk 1 (S' := (75, [some (.ref 367), some (vI x1), some (vI x2), some (vI x3), some (vI x4), some (vI x5)], [vI 1], hp S, 0, 0)) rfl ?_
        refine mv_goto 79 rfl rfl ?_
        exact F
theorem vc_MD_blockOf_79 {q : Nat × (Nat → Int32)} {S S' : ms} {r : Option Value} (x1 x2 x3 x4 x5 y0 : Int)
    (F : EV q 423 38 [some (.ref 367), some (vI x1), some (vI x2), some (vI x3), some (vI y0), some (vI (x5 + 1))] [] S r S') : EV q 423 79 [some (.ref 367), some (vI x1), some (vI x2), some (vI x3), some (vI x4), some (vI x5)] [vI y0] S r S' := by
  unfold EV
  refine ev_bk 1 (S' := (81, [some (.ref 367), some (vI x1), some (vI x2), some (vI x3), some (vI y0), some (vI x5)], [], hp S, 0, 0)) rfl ?_
  refine mv_inc (lv' := [some (.ref 367), some (vI x1), some (vI x2), some (vI x3), some (vI y0), some (vI (x5 + 1))]) 5 1 rfl rfl rfl rfl ?_
  refine mv_goto 38 rfl rfl ?_
  exact F
theorem vc_MD_blockOf_87 {q : Nat × (Nat → Int32)} {S S' : ms} {r : Option Value} (x1 x2 x3 x4 x5 : Int)
    (F : ((w32 x4 = 0) → EV q 423 2 [some (.ref 367), some (vI x1), some (vI x2), some (vI (x3 + 1)), none, none] [] S r S') ∧ ((¬ w32 x4 = 0) → r = some (vI x3) ∧ S' = S)) : EV q 423 87 [some (.ref 367), some (vI x1), some (vI x2), some (vI x3), some (vI x4), some (vI x5)] [] S r S' := by
  unfold EV
  refine ev_bk 1 (S' := (89, [some (.ref 367), some (vI x1), some (vI x2), some (vI x3), some (vI x4), some (vI x5)], [vI x4], hp S, 0, 0)) rfl ?_
  refine mv_if 94 rfl rfl (fun c => ?_) (fun c => ?_)
  · have F := F.1 c
    refine mv_inc (lv' := [some (.ref 367), some (vI x1), some (vI x2), some (vI (x3 + 1)), some (vI x4), some (vI x5)]) 3 1 rfl rfl rfl rfl ?_
    refine mv_goto 2 rfl rfl ?_
    exact ev_wk (le_s (le_s (le_s (le_s (le_n (le_n le_0)))))) F
  · have F := F.2 c
    refine ev_bk 1 (S' := (93, [some (.ref 367), some (vI x1), some (vI x2), some (vI x3), some (vI x4), some (vI x5)], [vI x3], hp S, 0, 0)) rfl ?_
    obtain ⟨rfl, rfl⟩ := F
    exact ev_ret rfl rfl
theorem vc_MD_dropBlock {q : Nat × (Nat → Int32)} {S S' : ms} {r : Option Value} (x1 : Int)
    (F : EV q 424 2 [some (.ref 367), some (vI x1), some (vI 0), none] [] S r S') : EV q 424 0 [some (.ref 367), some (vI x1), none, none] [] S r S' := by
  unfold EV
  refine ev_bk 2 (S' := (2, [some (.ref 367), some (vI x1), some (vI 0), none], [], hp S, 0, 0)) rfl ?_
  exact F
theorem vc_MD_dropBlock_2 {q : Nat × (Nat → Int32)} {S S' : ms} {r : Option Value} (x1 x2 : Int)
    (F : ((w32 (S.1 367 129) ≤ w32 x2) → (0 ≤ w32 x1 ∧ w32 x1 < (300 : Nat)) ∧ ((¬ w32 (S.1 448 (w32 x1)) = 0) → (0 ≤ w32 x1 ∧ w32 x1 < (300 : Nat)) ∧ ∀ S3 : ms, S3 = wI S 448 (w32 x1) (0 % 2) → ∀ S4 : ms, S4 = wI S3 367 123 ((S3.1 367 123) - 1) → (0 ≤ w32 x1 ∧ w32 x1 < (300 : Nat)) ∧ ∀ S6 : ms, S6 = wI S4 367 124 ((S4.1 367 124) - (S4.1 447 (w32 x1))) → r = some (vI 1) ∧ S' = S6) ∧ ((¬ (¬ w32 (S.1 448 (w32 x1)) = 0)) → r = some (vI 0) ∧ S' = S)) ∧ ((¬ w32 (S.1 367 129) ≤ w32 x2) → EV q 424 12 [some (.ref 367), some (vI x1), some (vI x2), some (vI 0)] [] S r S')) : EV q 424 2 [some (.ref 367), some (vI x1), some (vI x2), none] [] S r S' := by
  unfold EV
  refine ev_bk 2 (S' := (4, [some (.ref 367), some (vI x1), some (vI x2), none], [.ref 367, vI x2], hp S, 0, 0)) rfl ?_
  refine mv_gfI rfl rfl (sh_367) (by decide) rfl ?_
  refine mv_icmp 52 rfl rfl (fun c => ?_) (fun c => ?_)
  · have F := F.1 c
    refine ev_bk 1 (S' := (53, [some (.ref 367), some (vI x1), some (vI x2), none], [.ref 367], hp S, 0, 0)) rfl ?_
    refine mv_gfR rfl rfl (sh_367) (by decide) rfl ?_
    refine ev_bk 1 (S' := (57, [some (.ref 367), some (vI x1), some (vI x2), none], [vI x1, .ref 448], hp S, 0, 0)) rfl ?_
    obtain ⟨b1, F⟩ := F
    refine mv_zal rfl (sh_448) b1 ?_
    refine mv_if 63 rfl rfl (fun c => ?_) (fun c => ?_)
    · have F := F.1 c
      refine ev_bk 1 (S' := (64, [some (.ref 367), some (vI x1), some (vI x2), none], [.ref 367], hp S, 0, 0)) rfl ?_
      refine mv_gfR rfl rfl (sh_367) (by decide) rfl ?_
      refine ev_bk 2 (S' := (69, [some (.ref 367), some (vI x1), some (vI x2), none], [vI 0, vI x1, .ref 448], hp S, 0, 0)) rfl ?_
      obtain ⟨b2, F⟩ := F
      refine mv_zas rfl (sh_448) b2 ?_
      have F := F _ rfl
      refine ev_bk 2 (S' := (72, [some (.ref 367), some (vI x1), some (vI x2), none], [.ref 367, .ref 367], hp (wI S 448 (w32 x1) (0 % 2)), 0, 0)) rfl ?_
      refine mv_gfI rfl rfl (sh_367) (by decide) rfl ?_
      refine ev_bk 1 (S' := (76, [some (.ref 367), some (vI x1), some (vI x2), none], [vI 1, vI ((wI S 448 (w32 x1) (0 % 2)).1 367 123), .ref 367], hp (wI S 448 (w32 x1) (0 % 2)), 0, 0)) rfl ?_
      refine mv_isub rfl ?_
      refine mv_pfI rfl rfl (sh_367) (by decide) rfl rfl ?_
      have F := F _ rfl
      refine ev_bk 2 (S' := (82, [some (.ref 367), some (vI x1), some (vI x2), none], [.ref 367, .ref 367], hp (wI (wI S 448 (w32 x1) (0 % 2)) 367 123 (((wI S 448 (w32 x1) (0 % 2)).1 367 123) - 1)), 0, 0)) rfl ?_
      refine mv_gfI rfl rfl (sh_367) (by decide) rfl ?_
      refine ev_bk 1 (S' := (86, [some (.ref 367), some (vI x1), some (vI x2), none], [.ref 367, vI ((wI (wI S 448 (w32 x1) (0 % 2)) 367 123 (((wI S 448 (w32 x1) (0 % 2)).1 367 123) - 1)).1 367 124), .ref 367], hp (wI (wI S 448 (w32 x1) (0 % 2)) 367 123 (((wI S 448 (w32 x1) (0 % 2)).1 367 123) - 1)), 0, 0)) rfl ?_
      refine mv_gfR rfl rfl (sh_367) (by decide) rfl ?_
      refine ev_bk 1 (S' := (90, [some (.ref 367), some (vI x1), some (vI x2), none], [vI x1, .ref 447, vI ((wI (wI S 448 (w32 x1) (0 % 2)) 367 123 (((wI S 448 (w32 x1) (0 % 2)).1 367 123) - 1)).1 367 124), .ref 367], hp (wI (wI S 448 (w32 x1) (0 % 2)) 367 123 (((wI S 448 (w32 x1) (0 % 2)).1 367 123) - 1)), 0, 0)) rfl ?_
      obtain ⟨b5, F⟩ := F
      refine mv_ial rfl (sh_447) b5 ?_
      refine mv_isub rfl ?_
      refine mv_pfI rfl rfl (sh_367) (by decide) rfl rfl ?_
      have F := F _ rfl
      refine ev_bk 1 (S' := (96, [some (.ref 367), some (vI x1), some (vI x2), none], [vI 1], hp (wI (wI (wI S 448 (w32 x1) (0 % 2)) 367 123 (((wI S 448 (w32 x1) (0 % 2)).1 367 123) - 1)) 367 124 (((wI (wI S 448 (w32 x1) (0 % 2)) 367 123 (((wI S 448 (w32 x1) (0 % 2)).1 367 123) - 1)).1 367 124) - ((wI (wI S 448 (w32 x1) (0 % 2)) 367 123 (((wI S 448 (w32 x1) (0 % 2)).1 367 123) - 1)).1 447 (w32 x1)))), 0, 0)) rfl ?_
      obtain ⟨rfl, rfl⟩ := F
      exact ev_ret rfl rfl
    · have F := F.2 c
      refine ev_bk 1 (S' := (62, [some (.ref 367), some (vI x1), some (vI x2), none], [vI 0], hp S, 0, 0)) rfl ?_
      obtain ⟨rfl, rfl⟩ := F
      exact ev_ret rfl rfl
  · have F := F.2 c
    refine ev_bk 2 (S' := (12, [some (.ref 367), some (vI x1), some (vI x2), some (vI 0)], [], hp S, 0, 0)) rfl ?_
    exact F
theorem vc_MD_dropBlock_12 {q : Nat × (Nat → Int32)} {S S' : ms} {r : Option Value} (x1 x2 x3 : Int)
    (F : (0 ≤ w32 x2 ∧ w32 x2 < (8 : Nat)) ∧ ((w32 (S.1 451 (w32 x2)) ≤ w32 x3) → EV q 424 2 [some (.ref 367), some (vI x1), some (vI (x2 + 1)), none] [] S r S') ∧ ((¬ w32 (S.1 451 (w32 x2)) ≤ w32 x3) → (0 ≤ w32 ((200 * x2) + x3) ∧ w32 ((200 * x2) + x3) < (1600 : Nat)) ∧ ((¬ w32 (S.1 450 (w32 ((200 * x2) + x3))) = w32 x1) → EV q 424 12 [some (.ref 367), some (vI x1), some (vI x2), some (vI (x3 + 1))] [] S r S') ∧ ((¬ (¬ w32 (S.1 450 (w32 ((200 * x2) + x3))) = w32 x1)) → r = some (vI 0) ∧ S' = S))) : EV q 424 12 [some (.ref 367), some (vI x1), some (vI x2), some (vI x3)] [] S r S' := by
  unfold EV
  refine ev_bk 2 (S' := (14, [some (.ref 367), some (vI x1), some (vI x2), some (vI x3)], [.ref 367, vI x3], hp S, 0, 0)) rfl ?_
  refine mv_gfR rfl rfl (sh_367) (by decide) rfl ?_
  refine ev_bk 1 (S' := (18, [some (.ref 367), some (vI x1), some (vI x2), some (vI x3)], [vI x2, .ref 451, vI x3], hp S, 0, 0)) rfl ?_
  obtain ⟨b1, F⟩ := F
  refine mv_ial rfl (sh_451) b1 ?_
  refine mv_icmp 46 rfl rfl (fun c => ?_) (fun c => ?_)
  · have F := F.1 c
    refine mv_inc (lv' := [some (.ref 367), some (vI x1), some (vI (x2 + 1)), some (vI x3)]) 2 1 rfl rfl rfl rfl ?_
    refine mv_goto 2 rfl rfl ?_
    exact ev_wk (le_s (le_s (le_s (le_n le_0)))) F
  · have F := F.2 c
    refine ev_bk 1 (S' := (23, [some (.ref 367), some (vI x1), some (vI x2), some (vI x3)], [.ref 367], hp S, 0, 0)) rfl ?_
    refine mv_gfR rfl rfl (sh_367) (by decide) rfl ?_
    refine ev_bk 2 (S' := (30, [some (.ref 367), some (vI x1), some (vI x2), some (vI x3)], [vI x2, vI 200, .ref 450], hp S, 0, 0)) rfl ?_
    refine mv_imul rfl ?_
    refine ev_bk 1 (S' := (32, [some (.ref 367), some (vI x1), some (vI x2), some (vI x3)], [vI x3, vI (200 * x2), .ref 450], hp S, 0, 0)) rfl ?_
    refine mv_iadd rfl ?_
    obtain ⟨b2, F⟩ := F
    refine mv_ial rfl (sh_450) b2 ?_
    refine ev_bk 1 (S' := (35, [some (.ref 367), some (vI x1), some (vI x2), some (vI x3)], [vI x1, vI (S.1 450 (w32 ((200 * x2) + x3)))], hp S, 0, 0)) rfl ?_
    refine mv_icmp 40 rfl rfl (fun c => ?_) (fun c => ?_)
    · have F := F.1 c
      refine mv_inc (lv' := [some (.ref 367), some (vI x1), some (vI x2), some (vI (x3 + 1))]) 3 1 rfl rfl rfl rfl ?_
      refine mv_goto 12 rfl rfl ?_
      exact F
    · have F := F.2 c
      refine ev_bk 1 (S' := (39, [some (.ref 367), some (vI x1), some (vI x2), some (vI x3)], [vI 0], hp S, 0, 0)) rfl ?_
      obtain ⟨rfl, rfl⟩ := F
      exact ev_ret rfl rfl
theorem vc_MD_restore {q : Nat × (Nat → Int32)} {S S' : ms} {r : Option Value} (x1 : Int)
    (F : ∀ S1 : ms, S1 = wI S 367 0 0 → ∃ (z4 : Int) (S2 : ms), EV q 426 0 [some (.ref 367), some (vI x1), none] [] S1 (some (vI z4)) S2 ∧ ((0 ≤ w32 z4) → ∃ (z7 : Int) (S5 : ms), EV q 277 0 [some (.ref 367), none] [] S2 (some (vI z7)) S5 ∧ ((0 ≤ w32 z7) → ∀ S8 : ms, S8 = wI S5 367 22 0 → EV q 425 34 [some (.ref 367), some (vI x1), some (vI z4), some (vI 0), none, none] [] S8 r S') ∧ ((¬ 0 ≤ w32 z7) → r = some (vI ((-4))) ∧ S' = S5)) ∧ ((¬ 0 ≤ w32 z4) → r = some (vI ((-1))) ∧ S' = S2)) : EV q 425 0 [some (.ref 367), some (vI x1), none, none, none, none] [] S r S' := by
  unfold EV
  refine ev_bk 2 (S' := (2, [some (.ref 367), some (vI x1), none, none, none, none], [vI 0, .ref 367], hp S, 0, 0)) rfl ?_
  refine mv_pfI rfl rfl (sh_367) (by decide) rfl rfl ?_
  have F := F _ rfl
  refine ev_bk 2 (S' := (7, [some (.ref 367), some (vI x1), none, none, none, none], [vI x1, .ref 367], hp (wI S 367 0 0), 0, 0)) rfl ?_
  obtain ⟨z4, S2, e3, F⟩ := F
  refine mv_calv (as := [vI x1]) (rest := []) e3 (sh_367) rfl rfl rfl ⟨rfl, rfl⟩ rfl rfl rfl rfl rfl ?_
  refine ev_bk 2 (S' := (12, [some (.ref 367), some (vI x1), some (vI z4), none, none, none], [vI z4], hp S2, 0, 0)) rfl ?_
  refine mv_if 17 rfl rfl (fun c => ?_) (fun c => ?_)
  · have F := F.1 c
    refine ev_bk 1 (S' := (18, [some (.ref 367), some (vI x1), some (vI z4), none, none, none], [.ref 367], hp S2, 0, 0)) rfl ?_
    obtain ⟨z7, S5, e6, F⟩ := F
    refine mv_calv (as := []) (rest := []) e6 (sh_367) rfl rfl rfl ⟨rfl, rfl⟩ rfl rfl rfl rfl rfl ?_
    refine mv_if 27 rfl rfl (fun c => ?_) (fun c => ?_)
    · have F := F.1 c
      refine ev_bk 2 (S' := (29, [some (.ref 367), some (vI x1), some (vI z4), none, none, none], [vI 0, .ref 367], hp S5, 0, 0)) rfl ?_
      refine mv_pfI rfl rfl (sh_367) (by decide) rfl rfl ?_
      have F := F _ rfl
      refine ev_bk 2 (S' := (34, [some (.ref 367), some (vI x1), some (vI z4), some (vI 0), none, none], [], hp (wI S5 367 22 0), 0, 0)) rfl ?_
      exact F
    · have F := F.2 c
      refine ev_bk 1 (S' := (26, [some (.ref 367), some (vI x1), some (vI z4), none, none, none], [vI ((-4))], hp S5, 0, 0)) rfl ?_
      obtain ⟨rfl, rfl⟩ := F
      exact ev_ret rfl rfl
  · have F := F.2 c
    refine ev_bk 1 (S' := (16, [some (.ref 367), some (vI x1), some (vI z4), none, none, none], [vI ((-1))], hp S2, 0, 0)) rfl ?_
    obtain ⟨rfl, rfl⟩ := F
    exact ev_ret rfl rfl
theorem vc_MD_restore_34 {q : Nat × (Nat → Int32)} {S S' : ms} {r : Option Value} (x1 x2 x3 : Int)
    (F : (0 ≤ w32 x2 ∧ w32 x2 < (8 : Nat)) ∧ ((w32 (S.1 451 (w32 x2)) ≤ w32 x3) → ∃ (z4 : Int) (S2 : ms), EV q 328 0 [some (.ref 367), some (.ref 375), some (vI 0), some (vI (S.1 367 22)), none, none] [] S (some (vI z4)) S2 ∧ r = some (vI z4) ∧ S' = S2) ∧ ((¬ w32 (S.1 451 (w32 x2)) ≤ w32 x3) → (0 ≤ w32 ((200 * x2) + x3) ∧ w32 ((200 * x2) + x3) < (1600 : Nat)) ∧ EV q 425 61 [some (.ref 367), some (vI x1), some (vI x2), some (vI x3), some (vI (S.1 450 (w32 ((200 * x2) + x3)))), some (vI 0)] [] S r S')) : EV q 425 34 [some (.ref 367), some (vI x1), some (vI x2), some (vI x3), none, none] [] S r S' := by
  unfold EV
  refine ev_bk 2 (S' := (36, [some (.ref 367), some (vI x1), some (vI x2), some (vI x3), none, none], [.ref 367, vI x3], hp S, 0, 0)) rfl ?_
  refine mv_gfR rfl rfl (sh_367) (by decide) rfl ?_
  refine ev_bk 1 (S' := (40, [some (.ref 367), some (vI x1), some (vI x2), some (vI x3), none, none], [vI x2, .ref 451, vI x3], hp S, 0, 0)) rfl ?_
  obtain ⟨b1, F⟩ := F
  refine mv_ial rfl (sh_451) b1 ?_
  refine mv_icmp 118 rfl rfl (fun c => ?_) (fun c => ?_)
  · have F := F.1 c
    refine ev_bk 2 (S' := (120, [some (.ref 367), some (vI x1), some (vI x2), some (vI x3), none, none], [.ref 367, .ref 367], hp S, 0, 0)) rfl ?_
    refine mv_gfR rfl rfl (sh_367) (by decide) rfl ?_
    refine ev_bk 2 (S' := (125, [some (.ref 367), some (vI x1), some (vI x2), some (vI x3), none, none], [.ref 367, vI 0, .ref 375, .ref 367], hp S, 0, 0)) rfl ?_
    refine mv_gfI rfl rfl (sh_367) (by decide) rfl ?_
    obtain ⟨z4, S2, e3, F⟩ := F
    refine mv_calv (as := [.ref 375, vI 0, vI (S.1 367 22)]) (rest := []) e3 (sh_367) rfl rfl rfl ⟨rfl, rfl⟩ rfl rfl rfl rfl rfl ?_
    obtain ⟨rfl, rfl⟩ := F
    exact ev_ret rfl rfl
  · have F := F.2 c
    refine ev_bk 1 (S' := (45, [some (.ref 367), some (vI x1), some (vI x2), some (vI x3), none, none], [.ref 367], hp S, 0, 0)) rfl ?_
    refine mv_gfR rfl rfl (sh_367) (by decide) rfl ?_
    refine ev_bk 2 (S' := (52, [some (.ref 367), some (vI x1), some (vI x2), some (vI x3), none, none], [vI x2, vI 200, .ref 450], hp S, 0, 0)) rfl ?_
    refine mv_imul rfl ?_
    refine ev_bk 1 (S' := (54, [some (.ref 367), some (vI x1), some (vI x2), some (vI x3), none, none], [vI x3, vI (200 * x2), .ref 450], hp S, 0, 0)) rfl ?_
    refine mv_iadd rfl ?_
    obtain ⟨b5, F⟩ := F
    refine mv_ial rfl (sh_450) b5 ?_
    refine ev_bk 3 (S' := (61, [some (.ref 367), some (vI x1), some (vI x2), some (vI x3), some (vI (S.1 450 (w32 ((200 * x2) + x3)))), some (vI 0)], [], hp S, 0, 0)) rfl ?_
    exact F
theorem vc_MD_restore_61 {q : Nat × (Nat → Int32)} {S S' : ms} {r : Option Value} (x1 x2 x3 x4 x5 : Int)
    (F : (0 ≤ w32 x4 ∧ w32 x4 < (300 : Nat)) ∧ ((w32 (S.1 447 (w32 x4)) ≤ w32 x5) → EV q 425 34 [some (.ref 367), some (vI x1), some (vI x2), some (vI (x3 + 1)), none, none] [] S r S') ∧ ((¬ w32 (S.1 447 (w32 x4)) ≤ w32 x5) → (0 ≤ w32 ((200 * x4) + x5) ∧ w32 ((200 * x4) + x5) < (60000 : Nat)) ∧ (0 ≤ w32 (S.1 367 22) ∧ w32 (S.1 367 22) < (12000 : Nat)) ∧ ∀ S4 : ms, S4 = wI S 375 (w32 (S.1 367 22)) (b8 (S.1 446 (w32 ((200 * x4) + x5)))) → ∀ S5 : ms, S5 = wI S4 367 22 (S4.1 367 22 + 1) → EV q 425 61 [some (.ref 367), some (vI x1), some (vI x2), some (vI x3), some (vI x4), some (vI (x5 + 1))] [] S5 r S')) : EV q 425 61 [some (.ref 367), some (vI x1), some (vI x2), some (vI x3), some (vI x4), some (vI x5)] [] S r S' := by
  unfold EV
  refine ev_bk 2 (S' := (64, [some (.ref 367), some (vI x1), some (vI x2), some (vI x3), some (vI x4), some (vI x5)], [.ref 367, vI x5], hp S, 0, 0)) rfl ?_
  refine mv_gfR rfl rfl (sh_367) (by decide) rfl ?_
  refine ev_bk 1 (S' := (69, [some (.ref 367), some (vI x1), some (vI x2), some (vI x3), some (vI x4), some (vI x5)], [vI x4, .ref 447, vI x5], hp S, 0, 0)) rfl ?_
  obtain ⟨b1, F⟩ := F
  refine mv_ial rfl (sh_447) b1 ?_
  refine mv_icmp 112 rfl rfl (fun c => ?_) (fun c => ?_)
  · have F := F.1 c
    refine mv_inc (lv' := [some (.ref 367), some (vI x1), some (vI x2), some (vI (x3 + 1)), some (vI x4), some (vI x5)]) 3 1 rfl rfl rfl rfl ?_
    refine mv_goto 34 rfl rfl ?_
    exact ev_wk (le_s (le_s (le_s (le_s (le_n (le_n le_0)))))) F
  · have F := F.2 c
    refine ev_bk 1 (S' := (74, [some (.ref 367), some (vI x1), some (vI x2), some (vI x3), some (vI x4), some (vI x5)], [.ref 367], hp S, 0, 0)) rfl ?_
    refine mv_gfR rfl rfl (sh_367) (by decide) rfl ?_
    refine ev_bk 1 (S' := (78, [some (.ref 367), some (vI x1), some (vI x2), some (vI x3), some (vI x4), some (vI x5)], [.ref 367, .ref 375], hp S, 0, 0)) rfl ?_
    refine mv_gfI rfl rfl (sh_367) (by decide) rfl ?_
    refine ev_bk 1 (S' := (82, [some (.ref 367), some (vI x1), some (vI x2), some (vI x3), some (vI x4), some (vI x5)], [.ref 367, vI (S.1 367 22), .ref 375], hp S, 0, 0)) rfl ?_
    refine mv_gfR rfl rfl (sh_367) (by decide) rfl ?_
    refine ev_bk 2 (S' := (90, [some (.ref 367), some (vI x1), some (vI x2), some (vI x3), some (vI x4), some (vI x5)], [vI x4, vI 200, .ref 446, vI (S.1 367 22), .ref 375], hp S, 0, 0)) rfl ?_
    refine mv_imul rfl ?_
    refine ev_bk 1 (S' := (93, [some (.ref 367), some (vI x1), some (vI x2), some (vI x3), some (vI x4), some (vI x5)], [vI x5, vI (200 * x4), .ref 446, vI (S.1 367 22), .ref 375], hp S, 0, 0)) rfl ?_
    refine mv_iadd rfl ?_
    obtain ⟨b2, F⟩ := F
    refine mv_bal rfl (sh_446) b2 ?_
    obtain ⟨b3, F⟩ := F
    refine mv_bas rfl (sh_375) b3 ?_
    have F := F _ rfl
    refine ev_bk 2 (S' := (98, [some (.ref 367), some (vI x1), some (vI x2), some (vI x3), some (vI x4), some (vI x5)], [.ref 367, .ref 367], hp (wI S 375 (w32 (S.1 367 22)) (b8 (S.1 446 (w32 ((200 * x4) + x5))))), 0, 0)) rfl ?_
    refine mv_gfI rfl rfl (sh_367) (by decide) rfl ?_
    refine ev_bk 1 (S' := (102, [some (.ref 367), some (vI x1), some (vI x2), some (vI x3), some (vI x4), some (vI x5)], [vI 1, vI ((wI S 375 (w32 (S.1 367 22)) (b8 (S.1 446 (w32 ((200 * x4) + x5))))).1 367 22), .ref 367], hp (wI S 375 (w32 (S.1 367 22)) (b8 (S.1 446 (w32 ((200 * x4) + x5))))), 0, 0)) rfl ?_
    refine mv_iadd rfl ?_
    refine mv_pfI rfl rfl (sh_367) (by decide) rfl rfl ?_
    have F := F _ rfl
    refine mv_inc (lv' := [some (.ref 367), some (vI x1), some (vI x2), some (vI x3), some (vI x4), some (vI (x5 + 1))]) 5 1 rfl rfl rfl rfl ?_
    refine mv_goto 61 rfl rfl ?_
    exact F
theorem vc_MD_snapshotOf {q : Nat × (Nat → Int32)} {S S' : ms} {r : Option Value} (x1 : Int)
    (F : EV q 426 2 [some (.ref 367), some (vI x1), some (vI 0)] [] S r S') : EV q 426 0 [some (.ref 367), some (vI x1), none] [] S r S' := by
  unfold EV
  refine ev_bk 2 (S' := (2, [some (.ref 367), some (vI x1), some (vI 0)], [], hp S, 0, 0)) rfl ?_
  exact F
theorem vc_MD_snapshotOf_2 {q : Nat × (Nat → Int32)} {S S' : ms} {r : Option Value} (x1 x2 : Int)
    (F : ((w32 (S.1 367 129) ≤ w32 x2) → r = some (vI ((-1))) ∧ S' = S) ∧ ((¬ w32 (S.1 367 129) ≤ w32 x2) → (0 ≤ w32 x2 ∧ w32 x2 < (8 : Nat)) ∧ ((¬ w32 (S.1 449 (w32 x2)) = w32 x1) → EV q 426 2 [some (.ref 367), some (vI x1), some (vI (x2 + 1))] [] S r S') ∧ ((¬ (¬ w32 (S.1 449 (w32 x2)) = w32 x1)) → r = some (vI x2) ∧ S' = S))) : EV q 426 2 [some (.ref 367), some (vI x1), some (vI x2)] [] S r S' := by
  unfold EV
  refine ev_bk 2 (S' := (4, [some (.ref 367), some (vI x1), some (vI x2)], [.ref 367, vI x2], hp S, 0, 0)) rfl ?_
  refine mv_gfI rfl rfl (sh_367) (by decide) rfl ?_
  refine mv_icmp 28 rfl rfl (fun c => ?_) (fun c => ?_)
  · have F := F.1 c
    refine ev_bk 1 (S' := (29, [some (.ref 367), some (vI x1), some (vI x2)], [vI ((-1))], hp S, 0, 0)) rfl ?_
    obtain ⟨rfl, rfl⟩ := F
    exact ev_ret rfl rfl
  · have F := F.2 c
    refine ev_bk 1 (S' := (11, [some (.ref 367), some (vI x1), some (vI x2)], [.ref 367], hp S, 0, 0)) rfl ?_
    refine mv_gfR rfl rfl (sh_367) (by decide) rfl ?_
    refine ev_bk 1 (S' := (15, [some (.ref 367), some (vI x1), some (vI x2)], [vI x2, .ref 449], hp S, 0, 0)) rfl ?_
    obtain ⟨b1, F⟩ := F
    refine mv_ial rfl (sh_449) b1 ?_
    refine ev_bk 1 (S' := (17, [some (.ref 367), some (vI x1), some (vI x2)], [vI x1, vI (S.1 449 (w32 x2))], hp S, 0, 0)) rfl ?_
    refine mv_icmp 22 rfl rfl (fun c => ?_) (fun c => ?_)
    · have F := F.1 c
      refine mv_inc (lv' := [some (.ref 367), some (vI x1), some (vI (x2 + 1))]) 2 1 rfl rfl rfl rfl ?_
      refine mv_goto 2 rfl rfl ?_
      exact F
    · have F := F.2 c
      refine ev_bk 1 (S' := (21, [some (.ref 367), some (vI x1), some (vI x2)], [vI x2], hp S, 0, 0)) rfl ?_
      obtain ⟨rfl, rfl⟩ := F
      exact ev_ret rfl rfl
theorem vc_MD_forget {q : Nat × (Nat → Int32)} {S S' : ms} {r : Option Value} (x1 : Int)
    (F : ∀ S1 : ms, S1 = wI S 367 0 0 → ∃ (z4 : Int) (S2 : ms), EV q 426 0 [some (.ref 367), some (vI x1), none] [] S1 (some (vI z4)) S2 ∧ ((0 ≤ w32 z4) → (0 ≤ w32 z4 ∧ w32 z4 < (8 : Nat)) ∧ EV q 427 27 [some (.ref 367), some (vI x1), some (vI z4), some (vI (S2.1 451 (w32 z4))), some (vI 0), none] [] S2 r S') ∧ ((¬ 0 ≤ w32 z4) → r = some (vI ((-1))) ∧ S' = S2)) : EV q 427 0 [some (.ref 367), some (vI x1), none, none, none, none] [] S r S' := by
  unfold EV
  refine ev_bk 2 (S' := (2, [some (.ref 367), some (vI x1), none, none, none, none], [vI 0, .ref 367], hp S, 0, 0)) rfl ?_
  refine mv_pfI rfl rfl (sh_367) (by decide) rfl rfl ?_
  have F := F _ rfl
  refine ev_bk 2 (S' := (7, [some (.ref 367), some (vI x1), none, none, none, none], [vI x1, .ref 367], hp (wI S 367 0 0), 0, 0)) rfl ?_
  obtain ⟨z4, S2, e3, F⟩ := F
  refine mv_calv (as := [vI x1]) (rest := []) e3 (sh_367) rfl rfl rfl ⟨rfl, rfl⟩ rfl rfl rfl rfl rfl ?_
  refine ev_bk 2 (S' := (12, [some (.ref 367), some (vI x1), some (vI z4), none, none, none], [vI z4], hp S2, 0, 0)) rfl ?_
  refine mv_if 17 rfl rfl (fun c => ?_) (fun c => ?_)
  · have F := F.1 c
    refine ev_bk 1 (S' := (18, [some (.ref 367), some (vI x1), some (vI z4), none, none, none], [.ref 367], hp S2, 0, 0)) rfl ?_
    refine mv_gfR rfl rfl (sh_367) (by decide) rfl ?_
    refine ev_bk 1 (S' := (22, [some (.ref 367), some (vI x1), some (vI z4), none, none, none], [vI z4, .ref 451], hp S2, 0, 0)) rfl ?_
    obtain ⟨b5, F⟩ := F
    refine mv_ial rfl (sh_451) b5 ?_
    refine ev_bk 3 (S' := (27, [some (.ref 367), some (vI x1), some (vI z4), some (vI (S2.1 451 (w32 z4))), some (vI 0), none], [], hp S2, 0, 0)) rfl ?_
    exact F
  · have F := F.2 c
    refine ev_bk 1 (S' := (16, [some (.ref 367), some (vI x1), some (vI z4), none, none, none], [vI ((-1))], hp S2, 0, 0)) rfl ?_
    obtain ⟨rfl, rfl⟩ := F
    exact ev_ret rfl rfl
theorem vc_MD_forget_27 {q : Nat × (Nat → Int32)} {S S' : ms} {r : Option Value} (x1 x2 x3 x4 : Int)
    (F : ((w32 x3 ≤ w32 x4) → EV q 427 62 [some (.ref 367), some (vI x1), some (vI x2), some (vI x3), some (vI x2), none] [] S r S') ∧ ((¬ w32 x3 ≤ w32 x4) → (0 ≤ w32 ((200 * x2) + x4) ∧ w32 ((200 * x2) + x4) < (1600 : Nat)) ∧ (0 ≤ w32 x4 ∧ w32 x4 < (200 : Nat)) ∧ ∀ S3 : ms, S3 = wI S 452 (w32 x4) (S.1 450 (w32 ((200 * x2) + x4))) → EV q 427 27 [some (.ref 367), some (vI x1), some (vI x2), some (vI x3), some (vI (x4 + 1)), none] [] S3 r S')) : EV q 427 27 [some (.ref 367), some (vI x1), some (vI x2), some (vI x3), some (vI x4), none] [] S r S' := by
  unfold EV
  refine ev_bk 2 (S' := (30, [some (.ref 367), some (vI x1), some (vI x2), some (vI x3), some (vI x4), none], [vI x3, vI x4], hp S, 0, 0)) rfl ?_
  refine mv_icmp 59 rfl rfl (fun c => ?_) (fun c => ?_)
  · have F := F.1 c
    refine ev_bk 2 (S' := (62, [some (.ref 367), some (vI x1), some (vI x2), some (vI x3), some (vI x2), none], [], hp S, 0, 0)) rfl ?_
    exact F
  · have F := F.2 c
    refine ev_bk 1 (S' := (34, [some (.ref 367), some (vI x1), some (vI x2), some (vI x3), some (vI x4), none], [.ref 367], hp S, 0, 0)) rfl ?_
    refine mv_gfR rfl rfl (sh_367) (by decide) rfl ?_
    refine ev_bk 2 (S' := (40, [some (.ref 367), some (vI x1), some (vI x2), some (vI x3), some (vI x4), none], [.ref 367, vI x4, .ref 452], hp S, 0, 0)) rfl ?_
    refine mv_gfR rfl rfl (sh_367) (by decide) rfl ?_
    refine ev_bk 2 (S' := (47, [some (.ref 367), some (vI x1), some (vI x2), some (vI x3), some (vI x4), none], [vI x2, vI 200, .ref 450, vI x4, .ref 452], hp S, 0, 0)) rfl ?_
    refine mv_imul rfl ?_
    refine ev_bk 1 (S' := (50, [some (.ref 367), some (vI x1), some (vI x2), some (vI x3), some (vI x4), none], [vI x4, vI (200 * x2), .ref 450, vI x4, .ref 452], hp S, 0, 0)) rfl ?_
    refine mv_iadd rfl ?_
    obtain ⟨b1, F⟩ := F
    refine mv_ial rfl (sh_450) b1 ?_
    obtain ⟨b2, F⟩ := F
    refine mv_ias rfl (sh_452) b2 ?_
    have F := F _ rfl
    refine mv_inc (lv' := [some (.ref 367), some (vI x1), some (vI x2), some (vI x3), some (vI (x4 + 1)), none]) 4 1 rfl rfl rfl rfl ?_
    refine mv_goto 27 rfl rfl ?_
    exact F
theorem vc_MD_forget_62 {q : Nat × (Nat → Int32)} {S S' : ms} {r : Option Value} (x1 x2 x3 x4 : Int)
    (F : ((w32 (S.1 367 129) ≤ w32 (x4 + 1)) → ∀ S1 : ms, S1 = wI S 367 129 ((S.1 367 129) - 1) → EV q 427 176 [some (.ref 367), some (vI x1), some (vI x2), some (vI x3), some (vI 0), some (vI 0)] [] S1 r S') ∧ ((¬ w32 (S.1 367 129) ≤ w32 (x4 + 1)) → (0 ≤ w32 (x4 + 1) ∧ w32 (x4 + 1) < (8 : Nat)) ∧ (0 ≤ w32 x4 ∧ w32 x4 < (8 : Nat)) ∧ ∀ S4 : ms, S4 = wI S 449 (w32 x4) (S.1 449 (w32 (x4 + 1))) → (0 ≤ w32 (x4 + 1) ∧ w32 (x4 + 1) < (8 : Nat)) ∧ (0 ≤ w32 x4 ∧ w32 x4 < (8 : Nat)) ∧ ∀ S7 : ms, S7 = wI S4 451 (w32 x4) (S4.1 451 (w32 (x4 + 1))) → EV q 427 108 [some (.ref 367), some (vI x1), some (vI x2), some (vI x3), some (vI x4), some (vI 0)] [] S7 r S')) : EV q 427 62 [some (.ref 367), some (vI x1), some (vI x2), some (vI x3), some (vI x4), none] [] S r S' := by
  unfold EV
  refine ev_bk 2 (S' := (65, [some (.ref 367), some (vI x1), some (vI x2), some (vI x3), some (vI x4), none], [vI 1, vI x4], hp S, 0, 0)) rfl ?_
  refine mv_iadd rfl ?_
  refine ev_bk 1 (S' := (67, [some (.ref 367), some (vI x1), some (vI x2), some (vI x3), some (vI x4), none], [.ref 367, vI (x4 + 1)], hp S, 0, 0)) rfl ?_
  refine mv_gfI rfl rfl (sh_367) (by decide) rfl ?_
  refine mv_icmp 160 rfl rfl (fun c => ?_) (fun c => ?_)
  · have F := F.1 c
    refine ev_bk 2 (S' := (162, [some (.ref 367), some (vI x1), some (vI x2), some (vI x3), some (vI x4), none], [.ref 367, .ref 367], hp S, 0, 0)) rfl ?_
    refine mv_gfI rfl rfl (sh_367) (by decide) rfl ?_
    refine ev_bk 1 (S' := (166, [some (.ref 367), some (vI x1), some (vI x2), some (vI x3), some (vI x4), none], [vI 1, vI (S.1 367 129), .ref 367], hp S, 0, 0)) rfl ?_
    refine mv_isub rfl ?_
    refine mv_pfI rfl rfl (sh_367) (by decide) rfl rfl ?_
    have F := F _ rfl
    refine ev_bk 4 (S' := (176, [some (.ref 367), some (vI x1), some (vI x2), some (vI x3), some (vI 0), some (vI 0)], [], hp (wI S 367 129 ((S.1 367 129) - 1)), 0, 0)) rfl ?_
    exact F
  · have F := F.2 c
    refine ev_bk 1 (S' := (74, [some (.ref 367), some (vI x1), some (vI x2), some (vI x3), some (vI x4), none], [.ref 367], hp S, 0, 0)) rfl ?_
    refine mv_gfR rfl rfl (sh_367) (by decide) rfl ?_
    refine ev_bk 2 (S' := (80, [some (.ref 367), some (vI x1), some (vI x2), some (vI x3), some (vI x4), none], [.ref 367, vI x4, .ref 449], hp S, 0, 0)) rfl ?_
    refine mv_gfR rfl rfl (sh_367) (by decide) rfl ?_
    refine ev_bk 2 (S' := (86, [some (.ref 367), some (vI x1), some (vI x2), some (vI x3), some (vI x4), none], [vI 1, vI x4, .ref 449, vI x4, .ref 449], hp S, 0, 0)) rfl ?_
    refine mv_iadd rfl ?_
    obtain ⟨b2, F⟩ := F
    refine mv_ial rfl (sh_449) b2 ?_
    obtain ⟨b3, F⟩ := F
    refine mv_ias rfl (sh_449) b3 ?_
    have F := F _ rfl
    refine ev_bk 1 (S' := (90, [some (.ref 367), some (vI x1), some (vI x2), some (vI x3), some (vI x4), none], [.ref 367], hp (wI S 449 (w32 x4) (S.1 449 (w32 (x4 + 1)))), 0, 0)) rfl ?_
    refine mv_gfR rfl rfl (sh_367) (by decide) rfl ?_
    refine ev_bk 2 (S' := (96, [some (.ref 367), some (vI x1), some (vI x2), some (vI x3), some (vI x4), none], [.ref 367, vI x4, .ref 451], hp (wI S 449 (w32 x4) (S.1 449 (w32 (x4 + 1)))), 0, 0)) rfl ?_
    refine mv_gfR rfl rfl (sh_367) (by decide) rfl ?_
    refine ev_bk 2 (S' := (102, [some (.ref 367), some (vI x1), some (vI x2), some (vI x3), some (vI x4), none], [vI 1, vI x4, .ref 451, vI x4, .ref 451], hp (wI S 449 (w32 x4) (S.1 449 (w32 (x4 + 1)))), 0, 0)) rfl ?_
    refine mv_iadd rfl ?_
    obtain ⟨b5, F⟩ := F
    refine mv_ial rfl (sh_451) b5 ?_
    obtain ⟨b6, F⟩ := F
    refine mv_ias rfl (sh_451) b6 ?_
    have F := F _ rfl
    refine ev_bk 2 (S' := (108, [some (.ref 367), some (vI x1), some (vI x2), some (vI x3), some (vI x4), some (vI 0)], [], hp (wI (wI S 449 (w32 x4) (S.1 449 (w32 (x4 + 1)))) 451 (w32 x4) ((wI S 449 (w32 x4) (S.1 449 (w32 (x4 + 1)))).1 451 (w32 (x4 + 1)))), 0, 0)) rfl ?_
    exact F
theorem vc_MD_forget_108 {q : Nat × (Nat → Int32)} {S S' : ms} {r : Option Value} (x1 x2 x3 x4 x5 : Int)
    (F : ((200 ≤ w32 x5) → EV q 427 62 [some (.ref 367), some (vI x1), some (vI x2), some (vI x3), some (vI (x4 + 1)), none] [] S r S') ∧ ((¬ 200 ≤ w32 x5) → (0 ≤ w32 (((200 * x4) + 200) + x5) ∧ w32 (((200 * x4) + 200) + x5) < (1600 : Nat)) ∧ (0 ≤ w32 ((200 * x4) + x5) ∧ w32 ((200 * x4) + x5) < (1600 : Nat)) ∧ ∀ S3 : ms, S3 = wI S 450 (w32 ((200 * x4) + x5)) (S.1 450 (w32 (((200 * x4) + 200) + x5))) → EV q 427 108 [some (.ref 367), some (vI x1), some (vI x2), some (vI x3), some (vI x4), some (vI (x5 + 1))] [] S3 r S')) : EV q 427 108 [some (.ref 367), some (vI x1), some (vI x2), some (vI x3), some (vI x4), some (vI x5)] [] S r S' := by
  unfold EV
  refine ev_bk 2 (S' := (113, [some (.ref 367), some (vI x1), some (vI x2), some (vI x3), some (vI x4), some (vI x5)], [vI 200, vI x5], hp S, 0, 0)) rfl ?_
  refine mv_icmp 154 rfl rfl (fun c => ?_) (fun c => ?_)
  · have F := F.1 c
    refine mv_inc (lv' := [some (.ref 367), some (vI x1), some (vI x2), some (vI x3), some (vI (x4 + 1)), some (vI x5)]) 4 1 rfl rfl rfl rfl ?_
    refine mv_goto 62 rfl rfl ?_
    exact ev_wk (le_s (le_s (le_s (le_s (le_s (le_n le_0)))))) F
  · have F := F.2 c
    refine ev_bk 1 (S' := (117, [some (.ref 367), some (vI x1), some (vI x2), some (vI x3), some (vI x4), some (vI x5)], [.ref 367], hp S, 0, 0)) rfl ?_
    refine mv_gfR rfl rfl (sh_367) (by decide) rfl ?_
    refine ev_bk 2 (S' := (125, [some (.ref 367), some (vI x1), some (vI x2), some (vI x3), some (vI x4), some (vI x5)], [vI x4, vI 200, .ref 450], hp S, 0, 0)) rfl ?_
    refine mv_imul rfl ?_
    refine ev_bk 1 (S' := (128, [some (.ref 367), some (vI x1), some (vI x2), some (vI x3), some (vI x4), some (vI x5)], [vI x5, vI (200 * x4), .ref 450], hp S, 0, 0)) rfl ?_
    refine mv_iadd rfl ?_
    refine ev_bk 1 (S' := (130, [some (.ref 367), some (vI x1), some (vI x2), some (vI x3), some (vI x4), some (vI x5)], [.ref 367, vI ((200 * x4) + x5), .ref 450], hp S, 0, 0)) rfl ?_
    refine mv_gfR rfl rfl (sh_367) (by decide) rfl ?_
    refine ev_bk 2 (S' := (138, [some (.ref 367), some (vI x1), some (vI x2), some (vI x3), some (vI x4), some (vI x5)], [vI x4, vI 200, .ref 450, vI ((200 * x4) + x5), .ref 450], hp S, 0, 0)) rfl ?_
    refine mv_imul rfl ?_
    refine ev_bk 1 (S' := (142, [some (.ref 367), some (vI x1), some (vI x2), some (vI x3), some (vI x4), some (vI x5)], [vI 200, vI (200 * x4), .ref 450, vI ((200 * x4) + x5), .ref 450], hp S, 0, 0)) rfl ?_
    refine mv_iadd rfl ?_
    refine ev_bk 1 (S' := (145, [some (.ref 367), some (vI x1), some (vI x2), some (vI x3), some (vI x4), some (vI x5)], [vI x5, vI ((200 * x4) + 200), .ref 450, vI ((200 * x4) + x5), .ref 450], hp S, 0, 0)) rfl ?_
    refine mv_iadd rfl ?_
    obtain ⟨b1, F⟩ := F
    refine mv_ial rfl (sh_450) b1 ?_
    obtain ⟨b2, F⟩ := F
    refine mv_ias rfl (sh_450) b2 ?_
    have F := F _ rfl
    refine mv_inc (lv' := [some (.ref 367), some (vI x1), some (vI x2), some (vI x3), some (vI x4), some (vI (x5 + 1))]) 5 1 rfl rfl rfl rfl ?_
    refine mv_goto 108 rfl rfl ?_
    exact F
theorem vc_MD_forget_176 {q : Nat × (Nat → Int32)} {S S' : ms} {r : Option Value} (x1 x2 x3 x4 x5 : Int)
    (F : ((w32 x3 ≤ w32 x5) → r = some (vI x4) ∧ S' = S) ∧ ((¬ w32 x3 ≤ w32 x5) → (0 ≤ w32 x5 ∧ w32 x5 < (200 : Nat)) ∧ ∃ (z4 : Int) (S2 : ms), EV q 424 0 [some (.ref 367), some (vI (S.1 452 (w32 x5))), none, none] [] S (some (vI z4)) S2 ∧ EV q 427 176 [some (.ref 367), some (vI x1), some (vI x2), some (vI x3), some (vI (x4 + z4)), some (vI (x5 + 1))] [] S2 r S')) : EV q 427 176 [some (.ref 367), some (vI x1), some (vI x2), some (vI x3), some (vI x4), some (vI x5)] [] S r S' := by
  unfold EV
  refine ev_bk 2 (S' := (179, [some (.ref 367), some (vI x1), some (vI x2), some (vI x3), some (vI x4), some (vI x5)], [vI x3, vI x5], hp S, 0, 0)) rfl ?_
  refine mv_icmp 204 rfl rfl (fun c => ?_) (fun c => ?_)
  · have F := F.1 c
    refine ev_bk 1 (S' := (206, [some (.ref 367), some (vI x1), some (vI x2), some (vI x3), some (vI x4), some (vI x5)], [vI x4], hp S, 0, 0)) rfl ?_
    obtain ⟨rfl, rfl⟩ := F
    exact ev_ret rfl rfl
  · have F := F.2 c
    refine ev_bk 3 (S' := (186, [some (.ref 367), some (vI x1), some (vI x2), some (vI x3), some (vI x4), some (vI x5)], [.ref 367, .ref 367, vI x4], hp S, 0, 0)) rfl ?_
    refine mv_gfR rfl rfl (sh_367) (by decide) rfl ?_
    refine ev_bk 1 (S' := (191, [some (.ref 367), some (vI x1), some (vI x2), some (vI x3), some (vI x4), some (vI x5)], [vI x5, .ref 452, .ref 367, vI x4], hp S, 0, 0)) rfl ?_
    obtain ⟨b1, F⟩ := F
    refine mv_ial rfl (sh_452) b1 ?_
    obtain ⟨z4, S2, e3, F⟩ := F
    refine mv_calv (as := [vI (S.1 452 (w32 x5))]) (rest := [vI x4]) e3 (sh_367) rfl rfl rfl ⟨rfl, rfl⟩ rfl rfl rfl rfl rfl ?_
    refine mv_iadd rfl ?_
    refine ev_bk 1 (S' := (198, [some (.ref 367), some (vI x1), some (vI x2), some (vI x3), some (vI (x4 + z4)), some (vI x5)], [], hp S2, 0, 0)) rfl ?_
    refine mv_inc (lv' := [some (.ref 367), some (vI x1), some (vI x2), some (vI x3), some (vI (x4 + z4)), some (vI (x5 + 1))]) 5 1 rfl rfl rfl rfl ?_
    refine mv_goto 176 rfl rfl ?_
    exact F
theorem vc_MD_shared {q : Nat × (Nat → Int32)} {S S' : ms} {r : Option Value} (x1 x2 : Int)
    (F : ∀ S1 : ms, S1 = wI S 367 0 0 → ∃ (z4 : Int) (S2 : ms), EV q 426 0 [some (.ref 367), some (vI x1), none] [] S1 (some (vI z4)) S2 ∧ ∃ (z7 : Int) (S5 : ms), EV q 426 0 [some (.ref 367), some (vI x2), none] [] S2 (some (vI z7)) S5 ∧ ((w32 z4 < 0) → r = some (vI ((-1))) ∧ S' = S5) ∧ ((¬ w32 z4 < 0) → ((0 ≤ w32 z7) → EV q 428 35 [some (.ref 367), some (vI x1), some (vI x2), some (vI z4), some (vI z7), some (vI 0), some (vI 0), none, none, none] [] S5 r S') ∧ ((¬ 0 ≤ w32 z7) → r = some (vI ((-1))) ∧ S' = S5))) : EV q 428 0 [some (.ref 367), some (vI x1), some (vI x2), none, none, none, none, none, none, none] [] S r S' := by
  unfold EV
  refine ev_bk 2 (S' := (2, [some (.ref 367), some (vI x1), some (vI x2), none, none, none, none, none, none, none], [vI 0, .ref 367], hp S, 0, 0)) rfl ?_
  refine mv_pfI rfl rfl (sh_367) (by decide) rfl rfl ?_
  have F := F _ rfl
  refine ev_bk 2 (S' := (7, [some (.ref 367), some (vI x1), some (vI x2), none, none, none, none, none, none, none], [vI x1, .ref 367], hp (wI S 367 0 0), 0, 0)) rfl ?_
  obtain ⟨z4, S2, e3, F⟩ := F
  refine mv_calv (as := [vI x1]) (rest := []) e3 (sh_367) rfl rfl rfl ⟨rfl, rfl⟩ rfl rfl rfl rfl rfl ?_
  refine ev_bk 3 (S' := (13, [some (.ref 367), some (vI x1), some (vI x2), some (vI z4), none, none, none, none, none, none], [vI x2, .ref 367], hp S2, 0, 0)) rfl ?_
  obtain ⟨z7, S5, e6, F⟩ := F
  refine mv_calv (as := [vI x2]) (rest := []) e6 (sh_367) rfl rfl rfl ⟨rfl, rfl⟩ rfl rfl rfl rfl rfl ?_
  refine ev_bk 2 (S' := (19, [some (.ref 367), some (vI x1), some (vI x2), some (vI z4), some (vI z7), none, none, none, none, none], [vI z4], hp S5, 0, 0)) rfl ?_
  refine mv_if 27 rfl rfl (fun c => ?_) (fun c => ?_)
  · have F := F.1 c
    refine ev_bk 1 (S' := (28, [some (.ref 367), some (vI x1), some (vI x2), some (vI z4), some (vI z7), none, none, none, none, none], [vI ((-1))], hp S5, 0, 0)) rfl ?_
    obtain ⟨rfl, rfl⟩ := F
    exact ev_ret rfl rfl
  · have F := F.2 c
    refine ev_bk 1 (S' := (24, [some (.ref 367), some (vI x1), some (vI x2), some (vI z4), some (vI z7), none, none, none, none, none], [vI z7], hp S5, 0, 0)) rfl ?_
    refine mv_if 29 rfl rfl (fun c => ?_) (fun c => ?_)
    · have F := F.1 c
      refine ev_bk 4 (S' := (35, [some (.ref 367), some (vI x1), some (vI x2), some (vI z4), some (vI z7), some (vI 0), some (vI 0), none, none, none], [], hp S5, 0, 0)) rfl ?_
      exact F
    · have F := F.2 c
      refine ev_bk 1 (S' := (28, [some (.ref 367), some (vI x1), some (vI x2), some (vI z4), some (vI z7), none, none, none, none, none], [vI ((-1))], hp S5, 0, 0)) rfl ?_
      obtain ⟨rfl, rfl⟩ := F
      exact ev_ret rfl rfl
theorem vc_MD_shared_35 {q : Nat × (Nat → Int32)} {S S' : ms} {r : Option Value} (x1 x2 x3 x4 x5 x6 : Int)
    (F : ((300 ≤ w32 x6) → r = some (vI x5) ∧ S' = S) ∧ ((¬ 300 ≤ w32 x6) → EV q 428 52 [some (.ref 367), some (vI x1), some (vI x2), some (vI x3), some (vI x4), some (vI x5), some (vI x6), some (vI 0), some (vI 0), some (vI 0)] [] S r S')) : EV q 428 35 [some (.ref 367), some (vI x1), some (vI x2), some (vI x3), some (vI x4), some (vI x5), some (vI x6), none, none, none] [] S r S' := by
  unfold EV
  refine ev_bk 2 (S' := (40, [some (.ref 367), some (vI x1), some (vI x2), some (vI x3), some (vI x4), some (vI x5), some (vI x6), none, none, none], [vI 300, vI x6], hp S, 0, 0)) rfl ?_
  refine mv_icmp 177 rfl rfl (fun c => ?_) (fun c => ?_)
  · have F := F.1 c
    refine ev_bk 1 (S' := (179, [some (.ref 367), some (vI x1), some (vI x2), some (vI x3), some (vI x4), some (vI x5), some (vI x6), none, none, none], [vI x5], hp S, 0, 0)) rfl ?_
    obtain ⟨rfl, rfl⟩ := F
    exact ev_ret rfl rfl
  · have F := F.2 c
    refine ev_bk 6 (S' := (52, [some (.ref 367), some (vI x1), some (vI x2), some (vI x3), some (vI x4), some (vI x5), some (vI x6), some (vI 0), some (vI 0), some (vI 0)], [], hp S, 0, 0)) rfl ?_
    exact F
theorem vc_MD_shared_52 {q : Nat × (Nat → Int32)} {S S' : ms} {r : Option Value} (x1 x2 x3 x4 x5 x6 x7 x8 x9 : Int)
    (F : (0 ≤ w32 x3 ∧ w32 x3 < (8 : Nat)) ∧ ((w32 (S.1 451 (w32 x3)) ≤ w32 x9) → EV q 428 102 [some (.ref 367), some (vI x1), some (vI x2), some (vI x3), some (vI x4), some (vI x5), some (vI x6), some (vI x7), some (vI x8), some (vI 0)] [] S r S') ∧ ((¬ w32 (S.1 451 (w32 x3)) ≤ w32 x9) → ((¬ w32 x7 = 0) → EV q 428 86 [some (.ref 367), some (vI x1), some (vI x2), some (vI x3), some (vI x4), some (vI x5), some (vI x6), some (vI x7), some (vI x8), some (vI x9)] [] S r S') ∧ ((¬ (¬ w32 x7 = 0)) → (0 ≤ w32 ((200 * x3) + x9) ∧ w32 ((200 * x3) + x9) < (1600 : Nat)) ∧ ((¬ w32 (S.1 450 (w32 ((200 * x3) + x9))) = w32 x6) → EV q 428 91 [some (.ref 367), some (vI x1), some (vI x2), some (vI x3), some (vI x4), some (vI x5), some (vI x6), some (vI x7), some (vI x8), some (vI x9)] [vI 0] S r S') ∧ ((¬ (¬ w32 (S.1 450 (w32 ((200 * x3) + x9))) = w32 x6)) → EV q 428 86 [some (.ref 367), some (vI x1), some (vI x2), some (vI x3), some (vI x4), some (vI x5), some (vI x6), some (vI x7), some (vI x8), some (vI x9)] [] S r S')))) : EV q 428 52 [some (.ref 367), some (vI x1), some (vI x2), some (vI x3), some (vI x4), some (vI x5), some (vI x6), some (vI x7), some (vI x8), some (vI x9)] [] S r S' := by
  unfold EV
  refine ev_bk 2 (S' := (55, [some (.ref 367), some (vI x1), some (vI x2), some (vI x3), some (vI x4), some (vI x5), some (vI x6), some (vI x7), some (vI x8), some (vI x9)], [.ref 367, vI x9], hp S, 0, 0)) rfl ?_
  refine mv_gfR rfl rfl (sh_367) (by decide) rfl ?_
  refine ev_bk 1 (S' := (59, [some (.ref 367), some (vI x1), some (vI x2), some (vI x3), some (vI x4), some (vI x5), some (vI x6), some (vI x7), some (vI x8), some (vI x9)], [vI x3, .ref 451, vI x9], hp S, 0, 0)) rfl ?_
  obtain ⟨b1, F⟩ := F
  refine mv_ial rfl (sh_451) b1 ?_
  refine mv_icmp 99 rfl rfl (fun c => ?_) (fun c => ?_)
  · have F := F.1 c
    refine ev_bk 2 (S' := (102, [some (.ref 367), some (vI x1), some (vI x2), some (vI x3), some (vI x4), some (vI x5), some (vI x6), some (vI x7), some (vI x8), some (vI 0)], [], hp S, 0, 0)) rfl ?_
    exact F
  · have F := F.2 c
    refine ev_bk 1 (S' := (65, [some (.ref 367), some (vI x1), some (vI x2), some (vI x3), some (vI x4), some (vI x5), some (vI x6), some (vI x7), some (vI x8), some (vI x9)], [vI x7], hp S, 0, 0)) rfl ?_
    refine mv_if 86 rfl rfl (fun c => ?_) (fun c => ?_)
    · have F := F.1 c
      exact F
    · have F := F.2 c
      refine ev_bk 1 (S' := (69, [some (.ref 367), some (vI x1), some (vI x2), some (vI x3), some (vI x4), some (vI x5), some (vI x6), some (vI x7), some (vI x8), some (vI x9)], [.ref 367], hp S, 0, 0)) rfl ?_
      refine mv_gfR rfl rfl (sh_367) (by decide) rfl ?_
      refine ev_bk 2 (S' := (76, [some (.ref 367), some (vI x1), some (vI x2), some (vI x3), some (vI x4), some (vI x5), some (vI x6), some (vI x7), some (vI x8), some (vI x9)], [vI x3, vI 200, .ref 450], hp S, 0, 0)) rfl ?_
      refine mv_imul rfl ?_
      refine ev_bk 1 (S' := (79, [some (.ref 367), some (vI x1), some (vI x2), some (vI x3), some (vI x4), some (vI x5), some (vI x6), some (vI x7), some (vI x8), some (vI x9)], [vI x9, vI (200 * x3), .ref 450], hp S, 0, 0)) rfl ?_
      refine mv_iadd rfl ?_
      obtain ⟨b2, F⟩ := F
      refine mv_ial rfl (sh_450) b2 ?_
      refine ev_bk 1 (S' := (83, [some (.ref 367), some (vI x1), some (vI x2), some (vI x3), some (vI x4), some (vI x5), some (vI x6), some (vI x7), some (vI x8), some (vI x9)], [vI x6, vI (S.1 450 (w32 ((200 * x3) + x9)))], hp S, 0, 0)) rfl ?_
      refine mv_icmp 90 rfl rfl (fun c => ?_) (fun c => ?_)
      · have F := F.1 c
        refine ev_bk 1 (S' := (91, [some (.ref 367), some (vI x1), some (vI x2), some (vI x3), some (vI x4), some (vI x5), some (vI x6), some (vI x7), some (vI x8), some (vI x9)], [vI 0], hp S, 0, 0)) rfl ?_
        exact F
      · have F := F.2 c
        exact F
theorem vc_MD_shared_86 {q : Nat × (Nat → Int32)} {S S' : ms} {r : Option Value} (x1 x2 x3 x4 x5 x6 x7 x8 x9 : Int)
    (F : EV q 428 91 [some (.ref 367), some (vI x1), some (vI x2), some (vI x3), some (vI x4), some (vI x5), some (vI x6), some (vI x7), some (vI x8), some (vI x9)] [vI 1] S r S') : EV q 428 86 [some (.ref 367), some (vI x1), some (vI x2), some (vI x3), some (vI x4), some (vI x5), some (vI x6), some (vI x7), some (vI x8), some (vI x9)] [] S r S' := by
  unfold EV
  refine ev_bk 1 (S' := (87, [some (.ref 367), some (vI x1), some (vI x2), some (vI x3), some (vI x4), some (vI x5), some (vI x6), some (vI x7), some (vI x8), some (vI x9)], [vI 1], hp S, 0, 0)) rfl ?_
  refine mv_goto 91 rfl rfl ?_
  exact F
theorem vc_MD_shared_91 {q : Nat × (Nat → Int32)} {S S' : ms} {r : Option Value} (x1 x2 x3 x4 x5 x6 x7 x8 x9 y0 : Int)
    (F : EV q 428 52 [some (.ref 367), some (vI x1), some (vI x2), some (vI x3), some (vI x4), some (vI x5), some (vI x6), some (vI y0), some (vI x8), some (vI (x9 + 1))] [] S r S') : EV q 428 91 [some (.ref 367), some (vI x1), some (vI x2), some (vI x3), some (vI x4), some (vI x5), some (vI x6), some (vI x7), some (vI x8), some (vI x9)] [vI y0] S r S' := by
  unfold EV
  refine ev_bk 1 (S' := (93, [some (.ref 367), some (vI x1), some (vI x2), some (vI x3), some (vI x4), some (vI x5), some (vI x6), some (vI y0), some (vI x8), some (vI x9)], [], hp S, 0, 0)) rfl ?_
  refine mv_inc (lv' := [some (.ref 367), some (vI x1), some (vI x2), some (vI x3), some (vI x4), some (vI x5), some (vI x6), some (vI y0), some (vI x8), some (vI (x9 + 1))]) 9 1 rfl rfl rfl rfl ?_
  refine mv_goto 52 rfl rfl ?_
  exact F
theorem vc_MD_shared_102 {q : Nat × (Nat → Int32)} {S S' : ms} {r : Option Value} (x1 x2 x3 x4 x5 x6 x7 x8 x9 : Int)
    (F : (0 ≤ w32 x4 ∧ w32 x4 < (8 : Nat)) ∧ ((w32 (S.1 451 (w32 x4)) ≤ w32 x9) → ((w32 x7 = 0) → EV q 428 167 [some (.ref 367), some (vI x1), some (vI x2), some (vI x3), some (vI x4), some (vI x5), some (vI x6), some (vI x7), some (vI x8), some (vI x9)] [vI x5] S r S') ∧ ((¬ w32 x7 = 0) → ((w32 x8 = 0) → EV q 428 167 [some (.ref 367), some (vI x1), some (vI x2), some (vI x3), some (vI x4), some (vI x5), some (vI x6), some (vI x7), some (vI x8), some (vI x9)] [vI x5] S r S') ∧ ((¬ w32 x8 = 0) → EV q 428 168 [some (.ref 367), some (vI x1), some (vI x2), some (vI x3), some (vI x4), some (vI x5), some (vI x6), some (vI x7), some (vI x8), some (vI x9)] [vI 1, vI x5] S r S'))) ∧ ((¬ w32 (S.1 451 (w32 x4)) ≤ w32 x9) → ((¬ w32 x8 = 0) → EV q 428 138 [some (.ref 367), some (vI x1), some (vI x2), some (vI x3), some (vI x4), some (vI x5), some (vI x6), some (vI x7), some (vI x8), some (vI x9)] [] S r S') ∧ ((¬ (¬ w32 x8 = 0)) → (0 ≤ w32 ((200 * x4) + x9) ∧ w32 ((200 * x4) + x9) < (1600 : Nat)) ∧ ((¬ w32 (S.1 450 (w32 ((200 * x4) + x9))) = w32 x6) → EV q 428 143 [some (.ref 367), some (vI x1), some (vI x2), some (vI x3), some (vI x4), some (vI x5), some (vI x6), some (vI x7), some (vI x8), some (vI x9)] [vI 0] S r S') ∧ ((¬ (¬ w32 (S.1 450 (w32 ((200 * x4) + x9))) = w32 x6)) → EV q 428 138 [some (.ref 367), some (vI x1), some (vI x2), some (vI x3), some (vI x4), some (vI x5), some (vI x6), some (vI x7), some (vI x8), some (vI x9)] [] S r S')))) : EV q 428 102 [some (.ref 367), some (vI x1), some (vI x2), some (vI x3), some (vI x4), some (vI x5), some (vI x6), some (vI x7), some (vI x8), some (vI x9)] [] S r S' := by
  unfold EV
  refine ev_bk 2 (S' := (105, [some (.ref 367), some (vI x1), some (vI x2), some (vI x3), some (vI x4), some (vI x5), some (vI x6), some (vI x7), some (vI x8), some (vI x9)], [.ref 367, vI x9], hp S, 0, 0)) rfl ?_
  refine mv_gfR rfl rfl (sh_367) (by decide) rfl ?_
  refine ev_bk 1 (S' := (110, [some (.ref 367), some (vI x1), some (vI x2), some (vI x3), some (vI x4), some (vI x5), some (vI x6), some (vI x7), some (vI x8), some (vI x9)], [vI x4, .ref 451, vI x9], hp S, 0, 0)) rfl ?_
  obtain ⟨b1, F⟩ := F
  refine mv_ial rfl (sh_451) b1 ?_
  refine mv_icmp 151 rfl rfl (fun c => ?_) (fun c => ?_)
  · have F := F.1 c
    refine ev_bk 2 (S' := (155, [some (.ref 367), some (vI x1), some (vI x2), some (vI x3), some (vI x4), some (vI x5), some (vI x6), some (vI x7), some (vI x8), some (vI x9)], [vI x7, vI x5], hp S, 0, 0)) rfl ?_
    refine mv_if 167 rfl rfl (fun c => ?_) (fun c => ?_)
    · have F := F.1 c
      exact F
    · have F := F.2 c
      refine ev_bk 1 (S' := (160, [some (.ref 367), some (vI x1), some (vI x2), some (vI x3), some (vI x4), some (vI x5), some (vI x6), some (vI x7), some (vI x8), some (vI x9)], [vI x8, vI x5], hp S, 0, 0)) rfl ?_
      refine mv_if 167 rfl rfl (fun c => ?_) (fun c => ?_)
      · have F := F.1 c
        exact F
      · have F := F.2 c
        refine ev_bk 1 (S' := (164, [some (.ref 367), some (vI x1), some (vI x2), some (vI x3), some (vI x4), some (vI x5), some (vI x6), some (vI x7), some (vI x8), some (vI x9)], [vI 1, vI x5], hp S, 0, 0)) rfl ?_
        refine mv_goto 168 rfl rfl ?_
        exact F
  · have F := F.2 c
    refine ev_bk 1 (S' := (116, [some (.ref 367), some (vI x1), some (vI x2), some (vI x3), some (vI x4), some (vI x5), some (vI x6), some (vI x7), some (vI x8), some (vI x9)], [vI x8], hp S, 0, 0)) rfl ?_
    refine mv_if 138 rfl rfl (fun c => ?_) (fun c => ?_)
    · have F := F.1 c
      exact F
    · have F := F.2 c
      refine ev_bk 1 (S' := (120, [some (.ref 367), some (vI x1), some (vI x2), some (vI x3), some (vI x4), some (vI x5), some (vI x6), some (vI x7), some (vI x8), some (vI x9)], [.ref 367], hp S, 0, 0)) rfl ?_
      refine mv_gfR rfl rfl (sh_367) (by decide) rfl ?_
      refine ev_bk 2 (S' := (128, [some (.ref 367), some (vI x1), some (vI x2), some (vI x3), some (vI x4), some (vI x5), some (vI x6), some (vI x7), some (vI x8), some (vI x9)], [vI x4, vI 200, .ref 450], hp S, 0, 0)) rfl ?_
      refine mv_imul rfl ?_
      refine ev_bk 1 (S' := (131, [some (.ref 367), some (vI x1), some (vI x2), some (vI x3), some (vI x4), some (vI x5), some (vI x6), some (vI x7), some (vI x8), some (vI x9)], [vI x9, vI (200 * x4), .ref 450], hp S, 0, 0)) rfl ?_
      refine mv_iadd rfl ?_
      obtain ⟨b2, F⟩ := F
      refine mv_ial rfl (sh_450) b2 ?_
      refine ev_bk 1 (S' := (135, [some (.ref 367), some (vI x1), some (vI x2), some (vI x3), some (vI x4), some (vI x5), some (vI x6), some (vI x7), some (vI x8), some (vI x9)], [vI x6, vI (S.1 450 (w32 ((200 * x4) + x9)))], hp S, 0, 0)) rfl ?_
      refine mv_icmp 142 rfl rfl (fun c => ?_) (fun c => ?_)
      · have F := F.1 c
        refine ev_bk 1 (S' := (143, [some (.ref 367), some (vI x1), some (vI x2), some (vI x3), some (vI x4), some (vI x5), some (vI x6), some (vI x7), some (vI x8), some (vI x9)], [vI 0], hp S, 0, 0)) rfl ?_
        exact F
      · have F := F.2 c
        exact F
theorem vc_MD_shared_138 {q : Nat × (Nat → Int32)} {S S' : ms} {r : Option Value} (x1 x2 x3 x4 x5 x6 x7 x8 x9 : Int)
    (F : EV q 428 143 [some (.ref 367), some (vI x1), some (vI x2), some (vI x3), some (vI x4), some (vI x5), some (vI x6), some (vI x7), some (vI x8), some (vI x9)] [vI 1] S r S') : EV q 428 138 [some (.ref 367), some (vI x1), some (vI x2), some (vI x3), some (vI x4), some (vI x5), some (vI x6), some (vI x7), some (vI x8), some (vI x9)] [] S r S' := by
  unfold EV
  refine ev_bk 1 (S' := (139, [some (.ref 367), some (vI x1), some (vI x2), some (vI x3), some (vI x4), some (vI x5), some (vI x6), some (vI x7), some (vI x8), some (vI x9)], [vI 1], hp S, 0, 0)) rfl ?_
  refine mv_goto 143 rfl rfl ?_
  exact F
theorem vc_MD_shared_143 {q : Nat × (Nat → Int32)} {S S' : ms} {r : Option Value} (x1 x2 x3 x4 x5 x6 x7 x8 x9 y0 : Int)
    (F : EV q 428 102 [some (.ref 367), some (vI x1), some (vI x2), some (vI x3), some (vI x4), some (vI x5), some (vI x6), some (vI x7), some (vI y0), some (vI (x9 + 1))] [] S r S') : EV q 428 143 [some (.ref 367), some (vI x1), some (vI x2), some (vI x3), some (vI x4), some (vI x5), some (vI x6), some (vI x7), some (vI x8), some (vI x9)] [vI y0] S r S' := by
  unfold EV
  refine ev_bk 1 (S' := (145, [some (.ref 367), some (vI x1), some (vI x2), some (vI x3), some (vI x4), some (vI x5), some (vI x6), some (vI x7), some (vI y0), some (vI x9)], [], hp S, 0, 0)) rfl ?_
  refine mv_inc (lv' := [some (.ref 367), some (vI x1), some (vI x2), some (vI x3), some (vI x4), some (vI x5), some (vI x6), some (vI x7), some (vI y0), some (vI (x9 + 1))]) 9 1 rfl rfl rfl rfl ?_
  refine mv_goto 102 rfl rfl ?_
  exact F
theorem vc_MD_shared_167 {q : Nat × (Nat → Int32)} {S S' : ms} {r : Option Value} (x1 x2 x3 x4 x5 x6 x7 x8 x9 y0 : Int)
    (F : EV q 428 168 [some (.ref 367), some (vI x1), some (vI x2), some (vI x3), some (vI x4), some (vI x5), some (vI x6), some (vI x7), some (vI x8), some (vI x9)] [vI 0, vI y0] S r S') : EV q 428 167 [some (.ref 367), some (vI x1), some (vI x2), some (vI x3), some (vI x4), some (vI x5), some (vI x6), some (vI x7), some (vI x8), some (vI x9)] [vI y0] S r S' := by
  unfold EV
  refine ev_bk 1 (S' := (168, [some (.ref 367), some (vI x1), some (vI x2), some (vI x3), some (vI x4), some (vI x5), some (vI x6), some (vI x7), some (vI x8), some (vI x9)], [vI 0, vI y0], hp S, 0, 0)) rfl ?_
  exact F
theorem vc_MD_shared_168 {q : Nat × (Nat → Int32)} {S S' : ms} {r : Option Value} (x1 x2 x3 x4 x5 x6 x7 x8 x9 y0 y1 : Int)
    (F : EV q 428 35 [some (.ref 367), some (vI x1), some (vI x2), some (vI x3), some (vI x4), some (vI (y1 + y0)), some (vI (x6 + 1)), none, none, none] [] S r S') : EV q 428 168 [some (.ref 367), some (vI x1), some (vI x2), some (vI x3), some (vI x4), some (vI x5), some (vI x6), some (vI x7), some (vI x8), some (vI x9)] [vI y0, vI y1] S r S' := by
  unfold EV
  refine mv_iadd rfl ?_
  refine ev_bk 1 (S' := (171, [some (.ref 367), some (vI x1), some (vI x2), some (vI x3), some (vI x4), some (vI (y1 + y0)), some (vI x6), some (vI x7), some (vI x8), some (vI x9)], [], hp S, 0, 0)) rfl ?_
  refine mv_inc (lv' := [some (.ref 367), some (vI x1), some (vI x2), some (vI x3), some (vI x4), some (vI (y1 + y0)), some (vI (x6 + 1)), some (vI x7), some (vI x8), some (vI x9)]) 6 1 rfl rfl rfl rfl ?_
  refine mv_goto 35 rfl rfl ?_
  exact ev_wk (le_s (le_s (le_s (le_s (le_s (le_s (le_s (le_n (le_n (le_n le_0)))))))))) F
