/-! what is to be shown of each method, by program (wip/gen/vcall.py) -/
theorem vc_Code_settle {q : Nat × (Nat → Int32)} {S S' : ms} {r : Option Value} (x1 : Int) (a0 : Nat) (ha0 : isCode a0)
    (F : ∃ (S1 : ms), EV q 11 0 [some (.ref (a0 + 5)), some (vI 0), none, none] [] S none S1 ∧ ∀ S3 : ms, S3 = wI S1 a0 6 0 → ∀ S4 : ms, S4 = wI S3 a0 7 0 → ∀ S5 : ms, S5 = wI S4 a0 5 0 → EV q 10 25 [some (.ref a0), some (vI x1), some (vI 0), none] [] S5 r S') : EV q 10 0 [some (.ref a0), some (vI x1), none, none] [] S r S' := by
  unfold EV
  refine ev_bk 1 (S' := (1, [some (.ref a0), some (vI x1), none, none], [.ref a0], hp S, 0, 0)) rfl ?_
  refine mv_gfR rfl rfl (ha0.1) (by decide) rfl ?_
  refine ev_bk 1 (S' := (5, [some (.ref a0), some (vI x1), none, none], [vI 0, .ref (a0 + 5)], hp S, 0, 0)) rfl ?_
  obtain ⟨S1, e2, F⟩ := F
  refine mv_cals (as := [.ref (a0 + 5), vI 0]) (rest := []) e2 rfl rfl rfl ⟨rfl, rfl, rfl⟩ rfl rfl rfl rfl ?_
  refine ev_bk 2 (S' := (10, [some (.ref a0), some (vI x1), none, none], [vI 0, .ref a0], hp S1, 0, 0)) rfl ?_
  refine mv_pfI rfl rfl (ha0.1) (by decide) rfl rfl ?_
  have F := F _ rfl
  refine ev_bk 2 (S' := (15, [some (.ref a0), some (vI x1), none, none], [vI 0, .ref a0], hp (wI S1 a0 6 0), 0, 0)) rfl ?_
  refine mv_pfI rfl rfl (ha0.1) (by decide) rfl rfl ?_
  have F := F _ rfl
  refine ev_bk 2 (S' := (20, [some (.ref a0), some (vI x1), none, none], [vI 0, .ref a0], hp (wI (wI S1 a0 6 0) a0 7 0), 0, 0)) rfl ?_
  refine mv_pfI rfl rfl (ha0.1) (by decide) rfl rfl ?_
  have F := F _ rfl
  refine ev_bk 2 (S' := (25, [some (.ref a0), some (vI x1), some (vI 0), none], [], hp (wI (wI (wI S1 a0 6 0) a0 7 0) a0 5 0), 0, 0)) rfl ?_
  exact F
theorem vc_Code_settle_25 {q : Nat × (Nat → Int32)} {S S' : ms} {r : Option Value} (x1 x2 : Int) (a0 : Nat) (ha0 : isCode a0)
    (F : ((w32 x1 ≤ w32 x2) → (0 ≤ w32 1 ∧ w32 1 < (22 : Nat)) ∧ ∀ S2 : ms, S2 = wI S (a0 + 6) (w32 1) 0 → (0 ≤ w32 1 ∧ w32 1 < (22 : Nat)) ∧ ∀ S4 : ms, S4 = wI S2 (a0 + 7) (w32 1) 0 → EV q 10 108 [some (.ref a0), some (vI x1), some (vI 1), none] [] S4 r S') ∧ ((¬ w32 x1 ≤ w32 x2) → (0 ≤ w32 x2 ∧ w32 x2 < (288 : Nat)) ∧ ((w32 (S.1 (a0 + 1) (w32 x2)) ≤ 0) → EV q 10 86 [some (.ref a0), some (vI x1), some (vI x2), some (vI (S.1 (a0 + 1) (w32 x2)))] [] S r S') ∧ ((¬ w32 (S.1 (a0 + 1) (w32 x2)) ≤ 0) → (0 ≤ w32 (S.1 (a0 + 1) (w32 x2)) ∧ w32 (S.1 (a0 + 1) (w32 x2)) < (21 : Nat)) ∧ (0 ≤ w32 (S.1 (a0 + 1) (w32 x2)) ∧ w32 (S.1 (a0 + 1) (w32 x2)) < (21 : Nat)) ∧ ∀ S8 : ms, S8 = wI S (a0 + 5) (w32 (S.1 (a0 + 1) (w32 x2))) ((S.1 (a0 + 5) (w32 (S.1 (a0 + 1) (w32 x2)))) + 1) → ∀ S9 : ms, S9 = wI S8 a0 6 (S8.1 a0 6 + 1) → ∀ S10 : ms, S10 = wI S9 a0 7 (S9.1 a0 7 + (w32 1048576 / ((2 : Int) ^ ((S.1 (a0 + 1) (w32 x2)) % 32).toNat))) → ∀ S11 : ms, S11 = wI S10 a0 5 (max (w32 (S10.1 a0 5)) (w32 (S.1 (a0 + 1) (w32 x2)))) → EV q 10 86 [some (.ref a0), some (vI x1), some (vI x2), some (vI (S.1 (a0 + 1) (w32 x2)))] [] S11 r S'))) : EV q 10 25 [some (.ref a0), some (vI x1), some (vI x2), none] [] S r S' := by
  unfold EV
  refine ev_bk 2 (S' := (27, [some (.ref a0), some (vI x1), some (vI x2), none], [vI x1, vI x2], hp S, 0, 0)) rfl ?_
  refine mv_icmp 92 rfl rfl (fun c => ?_) (fun c => ?_)
  · have F := F.1 c
    refine ev_bk 1 (S' := (93, [some (.ref a0), some (vI x1), some (vI x2), none], [.ref a0], hp S, 0, 0)) rfl ?_
    refine mv_gfR rfl rfl (ha0.1) (by decide) rfl ?_
    refine ev_bk 2 (S' := (98, [some (.ref a0), some (vI x1), some (vI x2), none], [vI 0, vI 1, .ref (a0 + 6)], hp S, 0, 0)) rfl ?_
    obtain ⟨b1, F⟩ := F
    refine mv_ias rfl (ha0.2.2.2.2.2.2.1) b1 ?_
    have F := F _ rfl
    refine ev_bk 1 (S' := (100, [some (.ref a0), some (vI x1), some (vI x2), none], [.ref a0], hp (wI S (a0 + 6) (w32 1) 0), 0, 0)) rfl ?_
    refine mv_gfR rfl rfl (ha0.1) (by decide) rfl ?_
    refine ev_bk 2 (S' := (105, [some (.ref a0), some (vI x1), some (vI x2), none], [vI 0, vI 1, .ref (a0 + 7)], hp (wI S (a0 + 6) (w32 1) 0), 0, 0)) rfl ?_
    obtain ⟨b3, F⟩ := F
    refine mv_ias rfl (ha0.2.2.2.2.2.2.2.1) b3 ?_
    have F := F _ rfl
    refine ev_bk 2 (S' := (108, [some (.ref a0), some (vI x1), some (vI 1), none], [], hp (wI (wI S (a0 + 6) (w32 1) 0) (a0 + 7) (w32 1) 0), 0, 0)) rfl ?_
    exact F
  · have F := F.2 c
    refine ev_bk 1 (S' := (31, [some (.ref a0), some (vI x1), some (vI x2), none], [.ref a0], hp S, 0, 0)) rfl ?_
    refine mv_gfR rfl rfl (ha0.1) (by decide) rfl ?_
    refine ev_bk 1 (S' := (35, [some (.ref a0), some (vI x1), some (vI x2), none], [vI x2, .ref (a0 + 1)], hp S, 0, 0)) rfl ?_
    obtain ⟨b5, F⟩ := F
    refine mv_ial rfl (ha0.2.1) b5 ?_
    refine ev_bk 2 (S' := (38, [some (.ref a0), some (vI x1), some (vI x2), some (vI (S.1 (a0 + 1) (w32 x2)))], [vI (S.1 (a0 + 1) (w32 x2))], hp S, 0, 0)) rfl ?_
    refine mv_if 86 rfl rfl (fun c => ?_) (fun c => ?_)
    · have F := F.1 c
      exact F
    · have F := F.2 c
      refine ev_bk 1 (S' := (42, [some (.ref a0), some (vI x1), some (vI x2), some (vI (S.1 (a0 + 1) (w32 x2)))], [.ref a0], hp S, 0, 0)) rfl ?_
      refine mv_gfR rfl rfl (ha0.1) (by decide) rfl ?_
      refine ev_bk 2 (S' := (47, [some (.ref a0), some (vI x1), some (vI x2), some (vI (S.1 (a0 + 1) (w32 x2)))], [vI (S.1 (a0 + 1) (w32 x2)), .ref (a0 + 5), vI (S.1 (a0 + 1) (w32 x2)), .ref (a0 + 5)], hp S, 0, 0)) rfl ?_
      obtain ⟨b6, F⟩ := F
      refine mv_ial rfl (ha0.2.2.2.2.2.1) b6 ?_
      refine ev_bk 1 (S' := (49, [some (.ref a0), some (vI x1), some (vI x2), some (vI (S.1 (a0 + 1) (w32 x2)))], [vI 1, vI (S.1 (a0 + 5) (w32 (S.1 (a0 + 1) (w32 x2)))), vI (S.1 (a0 + 1) (w32 x2)), .ref (a0 + 5)], hp S, 0, 0)) rfl ?_
      refine mv_iadd rfl ?_
      obtain ⟨b7, F⟩ := F
      refine mv_ias rfl (ha0.2.2.2.2.2.1) b7 ?_
      have F := F _ rfl
      refine ev_bk 2 (S' := (53, [some (.ref a0), some (vI x1), some (vI x2), some (vI (S.1 (a0 + 1) (w32 x2)))], [.ref a0, .ref a0], hp (wI S (a0 + 5) (w32 (S.1 (a0 + 1) (w32 x2))) ((S.1 (a0 + 5) (w32 (S.1 (a0 + 1) (w32 x2)))) + 1)), 0, 0)) rfl ?_
      refine mv_gfI rfl rfl (ha0.1) (by decide) rfl ?_
      refine ev_bk 1 (S' := (57, [some (.ref a0), some (vI x1), some (vI x2), some (vI (S.1 (a0 + 1) (w32 x2)))], [vI 1, vI ((wI S (a0 + 5) (w32 (S.1 (a0 + 1) (w32 x2))) ((S.1 (a0 + 5) (w32 (S.1 (a0 + 1) (w32 x2)))) + 1)).1 a0 6), .ref a0], hp (wI S (a0 + 5) (w32 (S.1 (a0 + 1) (w32 x2))) ((S.1 (a0 + 5) (w32 (S.1 (a0 + 1) (w32 x2)))) + 1)), 0, 0)) rfl ?_
      refine mv_iadd rfl ?_
      refine mv_pfI rfl rfl (ha0.1) (by decide) rfl rfl ?_
      have F := F _ rfl
      refine ev_bk 2 (S' := (63, [some (.ref a0), some (vI x1), some (vI x2), some (vI (S.1 (a0 + 1) (w32 x2)))], [.ref a0, .ref a0], hp (wI (wI S (a0 + 5) (w32 (S.1 (a0 + 1) (w32 x2))) ((S.1 (a0 + 5) (w32 (S.1 (a0 + 1) (w32 x2)))) + 1)) a0 6 ((wI S (a0 + 5) (w32 (S.1 (a0 + 1) (w32 x2))) ((S.1 (a0 + 5) (w32 (S.1 (a0 + 1) (w32 x2)))) + 1)).1 a0 6 + 1)), 0, 0)) rfl ?_
      refine mv_gfI rfl rfl (ha0.1) (by decide) rfl ?_
      refine ev_bk 2 (S' := (69, [some (.ref a0), some (vI x1), some (vI x2), some (vI (S.1 (a0 + 1) (w32 x2)))], [vI (S.1 (a0 + 1) (w32 x2)), vI 1048576, vI ((wI (wI S (a0 + 5) (w32 (S.1 (a0 + 1) (w32 x2))) ((S.1 (a0 + 5) (w32 (S.1 (a0 + 1) (w32 x2)))) + 1)) a0 6 ((wI S (a0 + 5) (w32 (S.1 (a0 + 1) (w32 x2))) ((S.1 (a0 + 5) (w32 (S.1 (a0 + 1) (w32 x2)))) + 1)).1 a0 6 + 1)).1 a0 7), .ref a0], hp (wI (wI S (a0 + 5) (w32 (S.1 (a0 + 1) (w32 x2))) ((S.1 (a0 + 5) (w32 (S.1 (a0 + 1) (w32 x2)))) + 1)) a0 6 ((wI S (a0 + 5) (w32 (S.1 (a0 + 1) (w32 x2))) ((S.1 (a0 + 5) (w32 (S.1 (a0 + 1) (w32 x2)))) + 1)).1 a0 6 + 1)), 0, 0)) rfl ?_
      refine mv_ishr ((2 : Int) ^ ((S.1 (a0 + 1) (w32 x2)) % 32).toNat) rfl rfl ?_
      refine mv_iadd rfl ?_
      refine mv_pfI rfl rfl (ha0.1) (by decide) rfl rfl ?_
      have F := F _ rfl
      refine ev_bk 2 (S' := (76, [some (.ref a0), some (vI x1), some (vI x2), some (vI (S.1 (a0 + 1) (w32 x2)))], [.ref a0, .ref a0], hp (wI (wI (wI S (a0 + 5) (w32 (S.1 (a0 + 1) (w32 x2))) ((S.1 (a0 + 5) (w32 (S.1 (a0 + 1) (w32 x2)))) + 1)) a0 6 ((wI S (a0 + 5) (w32 (S.1 (a0 + 1) (w32 x2))) ((S.1 (a0 + 5) (w32 (S.1 (a0 + 1) (w32 x2)))) + 1)).1 a0 6 + 1)) a0 7 ((wI (wI S (a0 + 5) (w32 (S.1 (a0 + 1) (w32 x2))) ((S.1 (a0 + 5) (w32 (S.1 (a0 + 1) (w32 x2)))) + 1)) a0 6 ((wI S (a0 + 5) (w32 (S.1 (a0 + 1) (w32 x2))) ((S.1 (a0 + 5) (w32 (S.1 (a0 + 1) (w32 x2)))) + 1)).1 a0 6 + 1)).1 a0 7 + (w32 1048576 / ((2 : Int) ^ ((S.1 (a0 + 1) (w32 x2)) % 32).toNat)))), 0, 0)) rfl ?_
      refine mv_gfI rfl rfl (ha0.1) (by decide) rfl ?_
      refine ev_bk 1 (S' := (80, [some (.ref a0), some (vI x1), some (vI x2), some (vI (S.1 (a0 + 1) (w32 x2)))], [vI (S.1 (a0 + 1) (w32 x2)), vI ((wI (wI (wI S (a0 + 5) (w32 (S.1 (a0 + 1) (w32 x2))) ((S.1 (a0 + 5) (w32 (S.1 (a0 + 1) (w32 x2)))) + 1)) a0 6 ((wI S (a0 + 5) (w32 (S.1 (a0 + 1) (w32 x2))) ((S.1 (a0 + 5) (w32 (S.1 (a0 + 1) (w32 x2)))) + 1)).1 a0 6 + 1)) a0 7 ((wI (wI S (a0 + 5) (w32 (S.1 (a0 + 1) (w32 x2))) ((S.1 (a0 + 5) (w32 (S.1 (a0 + 1) (w32 x2)))) + 1)) a0 6 ((wI S (a0 + 5) (w32 (S.1 (a0 + 1) (w32 x2))) ((S.1 (a0 + 5) (w32 (S.1 (a0 + 1) (w32 x2)))) + 1)).1 a0 6 + 1)).1 a0 7 + (w32 1048576 / ((2 : Int) ^ ((S.1 (a0 + 1) (w32 x2)) % 32).toNat)))).1 a0 5), .ref a0], hp (wI (wI (wI S (a0 + 5) (w32 (S.1 (a0 + 1) (w32 x2))) ((S.1 (a0 + 5) (w32 (S.1 (a0 + 1) (w32 x2)))) + 1)) a0 6 ((wI S (a0 + 5) (w32 (S.1 (a0 + 1) (w32 x2))) ((S.1 (a0 + 5) (w32 (S.1 (a0 + 1) (w32 x2)))) + 1)).1 a0 6 + 1)) a0 7 ((wI (wI S (a0 + 5) (w32 (S.1 (a0 + 1) (w32 x2))) ((S.1 (a0 + 5) (w32 (S.1 (a0 + 1) (w32 x2)))) + 1)) a0 6 ((wI S (a0 + 5) (w32 (S.1 (a0 + 1) (w32 x2))) ((S.1 (a0 + 5) (w32 (S.1 (a0 + 1) (w32 x2)))) + 1)).1 a0 6 + 1)).1 a0 7 + (w32 1048576 / ((2 : Int) ^ ((S.1 (a0 + 1) (w32 x2)) % 32).toNat)))), 0, 0)) rfl ?_
      refine mv_max rfl rfl rfl ?_
      refine mv_pfI rfl rfl (ha0.1) (by decide) rfl rfl ?_
      have F := F _ rfl
      exact F
theorem vc_Code_settle_86 {q : Nat × (Nat → Int32)} {S S' : ms} {r : Option Value} (x1 x2 x3 : Int) (a0 : Nat) (ha0 : isCode a0)
    (F : EV q 10 25 [some (.ref a0), some (vI x1), some (vI (x2 + 1)), none] [] S r S') : EV q 10 86 [some (.ref a0), some (vI x1), some (vI x2), some (vI x3)] [] S r S' := by
  unfold EV
  refine mv_inc (lv' := [some (.ref a0), some (vI x1), some (vI (x2 + 1)), some (vI x3)]) 2 1 rfl rfl rfl rfl ?_
  refine mv_goto 25 rfl rfl ?_
  exact ev_wk (le_s (le_s (le_s (le_n le_0)))) F
theorem vc_Code_settle_108 {q : Nat × (Nat → Int32)} {S S' : ms} {r : Option Value} (x1 x2 : Int) (a0 : Nat) (ha0 : isCode a0)
    (F : ((20 < w32 x2) → EV q 10 166 [some (.ref a0), some (vI x1), some (vI 0), none] [] S r S') ∧ ((¬ 20 < w32 x2) → (0 ≤ w32 x2 ∧ w32 x2 < (22 : Nat)) ∧ (0 ≤ w32 x2 ∧ w32 x2 < (21 : Nat)) ∧ (0 ≤ w32 (x2 + 1) ∧ w32 (x2 + 1) < (22 : Nat)) ∧ ∀ S4 : ms, S4 = wI S (a0 + 6) (w32 (x2 + 1)) (((S.1 (a0 + 6) (w32 x2)) + (S.1 (a0 + 5) (w32 x2))) * 2) → (0 ≤ w32 x2 ∧ w32 x2 < (22 : Nat)) ∧ (0 ≤ w32 x2 ∧ w32 x2 < (21 : Nat)) ∧ (0 ≤ w32 (x2 + 1) ∧ w32 (x2 + 1) < (22 : Nat)) ∧ ∀ S8 : ms, S8 = wI S4 (a0 + 7) (w32 (x2 + 1)) ((S4.1 (a0 + 7) (w32 x2)) + (S4.1 (a0 + 5) (w32 x2))) → EV q 10 108 [some (.ref a0), some (vI x1), some (vI (x2 + 1)), none] [] S8 r S')) : EV q 10 108 [some (.ref a0), some (vI x1), some (vI x2), none] [] S r S' := by
  unfold EV
  refine ev_bk 2 (S' := (111, [some (.ref a0), some (vI x1), some (vI x2), none], [vI 20, vI x2], hp S, 0, 0)) rfl ?_
  refine mv_icmp 164 rfl rfl (fun c => ?_) (fun c => ?_)
  · have F := F.1 c
    refine ev_bk 2 (S' := (166, [some (.ref a0), some (vI x1), some (vI 0), none], [], hp S, 0, 0)) rfl ?_
    exact F
  · have F := F.2 c
    refine ev_bk 1 (S' := (115, [some (.ref a0), some (vI x1), some (vI x2), none], [.ref a0], hp S, 0, 0)) rfl ?_
    refine mv_gfR rfl rfl (ha0.1) (by decide) rfl ?_
    refine ev_bk 2 (S' := (120, [some (.ref a0), some (vI x1), some (vI x2), none], [vI 1, vI x2, .ref (a0 + 6)], hp S, 0, 0)) rfl ?_
    refine mv_iadd rfl ?_
    refine ev_bk 1 (S' := (122, [some (.ref a0), some (vI x1), some (vI x2), none], [.ref a0, vI (x2 + 1), .ref (a0 + 6)], hp S, 0, 0)) rfl ?_
    refine mv_gfR rfl rfl (ha0.1) (by decide) rfl ?_
    refine ev_bk 1 (S' := (126, [some (.ref a0), some (vI x1), some (vI x2), none], [vI x2, .ref (a0 + 6), vI (x2 + 1), .ref (a0 + 6)], hp S, 0, 0)) rfl ?_
    obtain ⟨b1, F⟩ := F
    refine mv_ial rfl (ha0.2.2.2.2.2.2.1) b1 ?_
    refine ev_bk 1 (S' := (128, [some (.ref a0), some (vI x1), some (vI x2), none], [.ref a0, vI (S.1 (a0 + 6) (w32 x2)), vI (x2 + 1), .ref (a0 + 6)], hp S, 0, 0)) rfl ?_
    refine mv_gfR rfl rfl (ha0.1) (by decide) rfl ?_
    refine ev_bk 1 (S' := (132, [some (.ref a0), some (vI x1), some (vI x2), none], [vI x2, .ref (a0 + 5), vI (S.1 (a0 + 6) (w32 x2)), vI (x2 + 1), .ref (a0 + 6)], hp S, 0, 0)) rfl ?_
    obtain ⟨b2, F⟩ := F
    refine mv_ial rfl (ha0.2.2.2.2.2.1) b2 ?_
    refine mv_iadd rfl ?_
    refine ev_bk 1 (S' := (135, [some (.ref a0), some (vI x1), some (vI x2), none], [vI 1, vI ((S.1 (a0 + 6) (w32 x2)) + (S.1 (a0 + 5) (w32 x2))), vI (x2 + 1), .ref (a0 + 6)], hp S, 0, 0)) rfl ?_
    refine mv_ishl 2 rfl rfl ?_
    obtain ⟨b3, F⟩ := F
    refine mv_ias rfl (ha0.2.2.2.2.2.2.1) b3 ?_
    have F := F _ rfl
    refine ev_bk 1 (S' := (138, [some (.ref a0), some (vI x1), some (vI x2), none], [.ref a0], hp (wI S (a0 + 6) (w32 (x2 + 1)) (((S.1 (a0 + 6) (w32 x2)) + (S.1 (a0 + 5) (w32 x2))) * 2)), 0, 0)) rfl ?_
    refine mv_gfR rfl rfl (ha0.1) (by decide) rfl ?_
    refine ev_bk 2 (S' := (143, [some (.ref a0), some (vI x1), some (vI x2), none], [vI 1, vI x2, .ref (a0 + 7)], hp (wI S (a0 + 6) (w32 (x2 + 1)) (((S.1 (a0 + 6) (w32 x2)) + (S.1 (a0 + 5) (w32 x2))) * 2)), 0, 0)) rfl ?_
    refine mv_iadd rfl ?_
    refine ev_bk 1 (S' := (145, [some (.ref a0), some (vI x1), some (vI x2), none], [.ref a0, vI (x2 + 1), .ref (a0 + 7)], hp (wI S (a0 + 6) (w32 (x2 + 1)) (((S.1 (a0 + 6) (w32 x2)) + (S.1 (a0 + 5) (w32 x2))) * 2)), 0, 0)) rfl ?_
    refine mv_gfR rfl rfl (ha0.1) (by decide) rfl ?_
    refine ev_bk 1 (S' := (149, [some (.ref a0), some (vI x1), some (vI x2), none], [vI x2, .ref (a0 + 7), vI (x2 + 1), .ref (a0 + 7)], hp (wI S (a0 + 6) (w32 (x2 + 1)) (((S.1 (a0 + 6) (w32 x2)) + (S.1 (a0 + 5) (w32 x2))) * 2)), 0, 0)) rfl ?_
    obtain ⟨b5, F⟩ := F
    refine mv_ial rfl (ha0.2.2.2.2.2.2.2.1) b5 ?_
    refine ev_bk 1 (S' := (151, [some (.ref a0), some (vI x1), some (vI x2), none], [.ref a0, vI ((wI S (a0 + 6) (w32 (x2 + 1)) (((S.1 (a0 + 6) (w32 x2)) + (S.1 (a0 + 5) (w32 x2))) * 2)).1 (a0 + 7) (w32 x2)), vI (x2 + 1), .ref (a0 + 7)], hp (wI S (a0 + 6) (w32 (x2 + 1)) (((S.1 (a0 + 6) (w32 x2)) + (S.1 (a0 + 5) (w32 x2))) * 2)), 0, 0)) rfl ?_
    refine mv_gfR rfl rfl (ha0.1) (by decide) rfl ?_
    refine ev_bk 1 (S' := (155, [some (.ref a0), some (vI x1), some (vI x2), none], [vI x2, .ref (a0 + 5), vI ((wI S (a0 + 6) (w32 (x2 + 1)) (((S.1 (a0 + 6) (w32 x2)) + (S.1 (a0 + 5) (w32 x2))) * 2)).1 (a0 + 7) (w32 x2)), vI (x2 + 1), .ref (a0 + 7)], hp (wI S (a0 + 6) (w32 (x2 + 1)) (((S.1 (a0 + 6) (w32 x2)) + (S.1 (a0 + 5) (w32 x2))) * 2)), 0, 0)) rfl ?_
    obtain ⟨b6, F⟩ := F
    refine mv_ial rfl (ha0.2.2.2.2.2.1) b6 ?_
    refine mv_iadd rfl ?_
    obtain ⟨b7, F⟩ := F
    refine mv_ias rfl (ha0.2.2.2.2.2.2.2.1) b7 ?_
    have F := F _ rfl
    refine mv_inc (lv' := [some (.ref a0), some (vI x1), some (vI (x2 + 1)), none]) 2 1 rfl rfl rfl rfl ?_
    refine mv_goto 108 rfl rfl ?_
    exact F
theorem vc_Code_settle_166 {q : Nat × (Nat → Int32)} {S S' : ms} {r : Option Value} (x1 x2 : Int) (a0 : Nat) (ha0 : isCode a0)
    (F : ((w32 x1 ≤ w32 x2) → r = none ∧ S' = S) ∧ ((¬ w32 x1 ≤ w32 x2) → (0 ≤ w32 x2 ∧ w32 x2 < (288 : Nat)) ∧ ((w32 (S.1 (a0 + 1) (w32 x2)) ≤ 0) → EV q 10 242 [some (.ref a0), some (vI x1), some (vI x2), some (vI (S.1 (a0 + 1) (w32 x2)))] [] S r S') ∧ ((¬ w32 (S.1 (a0 + 1) (w32 x2)) ≤ 0) → (0 ≤ w32 (S.1 (a0 + 1) (w32 x2)) ∧ w32 (S.1 (a0 + 1) (w32 x2)) < (22 : Nat)) ∧ (0 ≤ w32 x2 ∧ w32 x2 < (288 : Nat)) ∧ ∀ S4 : ms, S4 = wI S (a0 + 2) (w32 x2) (S.1 (a0 + 6) (w32 (S.1 (a0 + 1) (w32 x2)))) → (0 ≤ w32 x2 ∧ w32 x2 < (288 : Nat)) ∧ ∃ (z8 : Int) (S6 : ms), EV q 12 0 [some (vI (S4.1 (a0 + 2) (w32 x2))), some (vI (S.1 (a0 + 1) (w32 x2))), none, none] [] S4 (some (vI z8)) S6 ∧ (0 ≤ w32 x2 ∧ w32 x2 < (288 : Nat)) ∧ ∀ S10 : ms, S10 = wI S6 (a0 + 3) (w32 x2) z8 → (0 ≤ w32 (S.1 (a0 + 1) (w32 x2)) ∧ w32 (S.1 (a0 + 1) (w32 x2)) < (22 : Nat)) ∧ (0 ≤ w32 (S10.1 (a0 + 7) (w32 (S.1 (a0 + 1) (w32 x2)))) ∧ w32 (S10.1 (a0 + 7) (w32 (S.1 (a0 + 1) (w32 x2)))) < (288 : Nat)) ∧ ∀ S13 : ms, S13 = wI S10 (a0 + 4) (w32 (S10.1 (a0 + 7) (w32 (S.1 (a0 + 1) (w32 x2))))) x2 → (0 ≤ w32 (S.1 (a0 + 1) (w32 x2)) ∧ w32 (S.1 (a0 + 1) (w32 x2)) < (22 : Nat)) ∧ (0 ≤ w32 (S.1 (a0 + 1) (w32 x2)) ∧ w32 (S.1 (a0 + 1) (w32 x2)) < (22 : Nat)) ∧ ∀ S16 : ms, S16 = wI S13 (a0 + 6) (w32 (S.1 (a0 + 1) (w32 x2))) ((S13.1 (a0 + 6) (w32 (S.1 (a0 + 1) (w32 x2)))) + 1) → (0 ≤ w32 (S.1 (a0 + 1) (w32 x2)) ∧ w32 (S.1 (a0 + 1) (w32 x2)) < (22 : Nat)) ∧ (0 ≤ w32 (S.1 (a0 + 1) (w32 x2)) ∧ w32 (S.1 (a0 + 1) (w32 x2)) < (22 : Nat)) ∧ ∀ S19 : ms, S19 = wI S16 (a0 + 7) (w32 (S.1 (a0 + 1) (w32 x2))) ((S16.1 (a0 + 7) (w32 (S.1 (a0 + 1) (w32 x2)))) + 1) → EV q 10 242 [some (.ref a0), some (vI x1), some (vI x2), some (vI (S.1 (a0 + 1) (w32 x2)))] [] S19 r S'))) : EV q 10 166 [some (.ref a0), some (vI x1), some (vI x2), none] [] S r S' := by
  unfold EV
  refine ev_bk 2 (S' := (168, [some (.ref a0), some (vI x1), some (vI x2), none], [vI x1, vI x2], hp S, 0, 0)) rfl ?_
  refine mv_icmp 248 rfl rfl (fun c => ?_) (fun c => ?_)
  · have F := F.1 c
    obtain ⟨rfl, rfl⟩ := F
    exact ev_ret rfl rfl
  · have F := F.2 c
    refine ev_bk 1 (S' := (172, [some (.ref a0), some (vI x1), some (vI x2), none], [.ref a0], hp S, 0, 0)) rfl ?_
    refine mv_gfR rfl rfl (ha0.1) (by decide) rfl ?_
    refine ev_bk 1 (S' := (176, [some (.ref a0), some (vI x1), some (vI x2), none], [vI x2, .ref (a0 + 1)], hp S, 0, 0)) rfl ?_
    obtain ⟨b1, F⟩ := F
    refine mv_ial rfl (ha0.2.1) b1 ?_
    refine ev_bk 2 (S' := (179, [some (.ref a0), some (vI x1), some (vI x2), some (vI (S.1 (a0 + 1) (w32 x2)))], [vI (S.1 (a0 + 1) (w32 x2))], hp S, 0, 0)) rfl ?_
    refine mv_if 242 rfl rfl (fun c => ?_) (fun c => ?_)
    · have F := F.1 c
      exact F
    · have F := F.2 c
      refine ev_bk 1 (S' := (183, [some (.ref a0), some (vI x1), some (vI x2), some (vI (S.1 (a0 + 1) (w32 x2)))], [.ref a0], hp S, 0, 0)) rfl ?_
      refine mv_gfR rfl rfl (ha0.1) (by decide) rfl ?_
      refine ev_bk 2 (S' := (188, [some (.ref a0), some (vI x1), some (vI x2), some (vI (S.1 (a0 + 1) (w32 x2)))], [.ref a0, vI x2, .ref (a0 + 2)], hp S, 0, 0)) rfl ?_
      refine mv_gfR rfl rfl (ha0.1) (by decide) rfl ?_
      refine ev_bk 1 (S' := (192, [some (.ref a0), some (vI x1), some (vI x2), some (vI (S.1 (a0 + 1) (w32 x2)))], [vI (S.1 (a0 + 1) (w32 x2)), .ref (a0 + 6), vI x2, .ref (a0 + 2)], hp S, 0, 0)) rfl ?_
      obtain ⟨b2, F⟩ := F
      refine mv_ial rfl (ha0.2.2.2.2.2.2.1) b2 ?_
      obtain ⟨b3, F⟩ := F
      refine mv_ias rfl (ha0.2.2.1) b3 ?_
      have F := F _ rfl
      refine ev_bk 1 (S' := (195, [some (.ref a0), some (vI x1), some (vI x2), some (vI (S.1 (a0 + 1) (w32 x2)))], [.ref a0], hp (wI S (a0 + 2) (w32 x2) (S.1 (a0 + 6) (w32 (S.1 (a0 + 1) (w32 x2))))), 0, 0)) rfl ?_
      refine mv_gfR rfl rfl (ha0.1) (by decide) rfl ?_
      refine ev_bk 2 (S' := (200, [some (.ref a0), some (vI x1), some (vI x2), some (vI (S.1 (a0 + 1) (w32 x2)))], [.ref a0, vI x2, .ref (a0 + 3)], hp (wI S (a0 + 2) (w32 x2) (S.1 (a0 + 6) (w32 (S.1 (a0 + 1) (w32 x2))))), 0, 0)) rfl ?_
      refine mv_gfR rfl rfl (ha0.1) (by decide) rfl ?_
      refine ev_bk 1 (S' := (204, [some (.ref a0), some (vI x1), some (vI x2), some (vI (S.1 (a0 + 1) (w32 x2)))], [vI x2, .ref (a0 + 2), vI x2, .ref (a0 + 3)], hp (wI S (a0 + 2) (w32 x2) (S.1 (a0 + 6) (w32 (S.1 (a0 + 1) (w32 x2))))), 0, 0)) rfl ?_
      obtain ⟨b5, F⟩ := F
      refine mv_ial rfl (ha0.2.2.1) b5 ?_
      refine ev_bk 1 (S' := (206, [some (.ref a0), some (vI x1), some (vI x2), some (vI (S.1 (a0 + 1) (w32 x2)))], [vI (S.1 (a0 + 1) (w32 x2)), vI ((wI S (a0 + 2) (w32 x2) (S.1 (a0 + 6) (w32 (S.1 (a0 + 1) (w32 x2))))).1 (a0 + 2) (w32 x2)), vI x2, .ref (a0 + 3)], hp (wI S (a0 + 2) (w32 x2) (S.1 (a0 + 6) (w32 (S.1 (a0 + 1) (w32 x2))))), 0, 0)) rfl ?_
      obtain ⟨z8, S6, e7, F⟩ := F
      refine mv_cals (as := [vI ((wI S (a0 + 2) (w32 x2) (S.1 (a0 + 6) (w32 (S.1 (a0 + 1) (w32 x2))))).1 (a0 + 2) (w32 x2)), vI (S.1 (a0 + 1) (w32 x2))]) (rest := [vI x2, .ref (a0 + 3)]) e7 rfl rfl rfl ⟨rfl, rfl, rfl⟩ rfl rfl rfl rfl ?_
      obtain ⟨b9, F⟩ := F
      refine mv_ias rfl (ha0.2.2.2.1) b9 ?_
      have F := F _ rfl
      refine ev_bk 1 (S' := (211, [some (.ref a0), some (vI x1), some (vI x2), some (vI (S.1 (a0 + 1) (w32 x2)))], [.ref a0], hp (wI S6 (a0 + 3) (w32 x2) z8), 0, 0)) rfl ?_
      refine mv_gfR rfl rfl (ha0.1) (by decide) rfl ?_
      refine ev_bk 1 (S' := (215, [some (.ref a0), some (vI x1), some (vI x2), some (vI (S.1 (a0 + 1) (w32 x2)))], [.ref a0, .ref (a0 + 4)], hp (wI S6 (a0 + 3) (w32 x2) z8), 0, 0)) rfl ?_
      refine mv_gfR rfl rfl (ha0.1) (by decide) rfl ?_
      refine ev_bk 1 (S' := (219, [some (.ref a0), some (vI x1), some (vI x2), some (vI (S.1 (a0 + 1) (w32 x2)))], [vI (S.1 (a0 + 1) (w32 x2)), .ref (a0 + 7), .ref (a0 + 4)], hp (wI S6 (a0 + 3) (w32 x2) z8), 0, 0)) rfl ?_
      obtain ⟨b11, F⟩ := F
      refine mv_ial rfl (ha0.2.2.2.2.2.2.2.1) b11 ?_
      refine ev_bk 1 (S' := (221, [some (.ref a0), some (vI x1), some (vI x2), some (vI (S.1 (a0 + 1) (w32 x2)))], [vI x2, vI ((wI S6 (a0 + 3) (w32 x2) z8).1 (a0 + 7) (w32 (S.1 (a0 + 1) (w32 x2)))), .ref (a0 + 4)], hp (wI S6 (a0 + 3) (w32 x2) z8), 0, 0)) rfl ?_
      obtain ⟨b12, F⟩ := F
      refine mv_ias rfl (ha0.2.2.2.2.1) b12 ?_
      have F := F _ rfl
      refine ev_bk 1 (S' := (223, [some (.ref a0), some (vI x1), some (vI x2), some (vI (S.1 (a0 + 1) (w32 x2)))], [.ref a0], hp (wI (wI S6 (a0 + 3) (w32 x2) z8) (a0 + 4) (w32 ((wI S6 (a0 + 3) (w32 x2) z8).1 (a0 + 7) (w32 (S.1 (a0 + 1) (w32 x2))))) x2), 0, 0)) rfl ?_
      refine mv_gfR rfl rfl (ha0.1) (by decide) rfl ?_
      refine ev_bk 2 (S' := (228, [some (.ref a0), some (vI x1), some (vI x2), some (vI (S.1 (a0 + 1) (w32 x2)))], [vI (S.1 (a0 + 1) (w32 x2)), .ref (a0 + 6), vI (S.1 (a0 + 1) (w32 x2)), .ref (a0 + 6)], hp (wI (wI S6 (a0 + 3) (w32 x2) z8) (a0 + 4) (w32 ((wI S6 (a0 + 3) (w32 x2) z8).1 (a0 + 7) (w32 (S.1 (a0 + 1) (w32 x2))))) x2), 0, 0)) rfl ?_
      obtain ⟨b14, F⟩ := F
      refine mv_ial rfl (ha0.2.2.2.2.2.2.1) b14 ?_
      refine ev_bk 1 (S' := (230, [some (.ref a0), some (vI x1), some (vI x2), some (vI (S.1 (a0 + 1) (w32 x2)))], [vI 1, vI ((wI (wI S6 (a0 + 3) (w32 x2) z8) (a0 + 4) (w32 ((wI S6 (a0 + 3) (w32 x2) z8).1 (a0 + 7) (w32 (S.1 (a0 + 1) (w32 x2))))) x2).1 (a0 + 6) (w32 (S.1 (a0 + 1) (w32 x2)))), vI (S.1 (a0 + 1) (w32 x2)), .ref (a0 + 6)], hp (wI (wI S6 (a0 + 3) (w32 x2) z8) (a0 + 4) (w32 ((wI S6 (a0 + 3) (w32 x2) z8).1 (a0 + 7) (w32 (S.1 (a0 + 1) (w32 x2))))) x2), 0, 0)) rfl ?_
      refine mv_iadd rfl ?_
      obtain ⟨b15, F⟩ := F
      refine mv_ias rfl (ha0.2.2.2.2.2.2.1) b15 ?_
      have F := F _ rfl
      refine ev_bk 1 (S' := (233, [some (.ref a0), some (vI x1), some (vI x2), some (vI (S.1 (a0 + 1) (w32 x2)))], [.ref a0], hp (wI (wI (wI S6 (a0 + 3) (w32 x2) z8) (a0 + 4) (w32 ((wI S6 (a0 + 3) (w32 x2) z8).1 (a0 + 7) (w32 (S.1 (a0 + 1) (w32 x2))))) x2) (a0 + 6) (w32 (S.1 (a0 + 1) (w32 x2))) (((wI (wI S6 (a0 + 3) (w32 x2) z8) (a0 + 4) (w32 ((wI S6 (a0 + 3) (w32 x2) z8).1 (a0 + 7) (w32 (S.1 (a0 + 1) (w32 x2))))) x2).1 (a0 + 6) (w32 (S.1 (a0 + 1) (w32 x2)))) + 1)), 0, 0)) rfl ?_
      refine mv_gfR rfl rfl (ha0.1) (by decide) rfl ?_
      refine ev_bk 2 (S' := (238, [some (.ref a0), some (vI x1), some (vI x2), some (vI (S.1 (a0 + 1) (w32 x2)))], [vI (S.1 (a0 + 1) (w32 x2)), .ref (a0 + 7), vI (S.1 (a0 + 1) (w32 x2)), .ref (a0 + 7)], hp (wI (wI (wI S6 (a0 + 3) (w32 x2) z8) (a0 + 4) (w32 ((wI S6 (a0 + 3) (w32 x2) z8).1 (a0 + 7) (w32 (S.1 (a0 + 1) (w32 x2))))) x2) (a0 + 6) (w32 (S.1 (a0 + 1) (w32 x2))) (((wI (wI S6 (a0 + 3) (w32 x2) z8) (a0 + 4) (w32 ((wI S6 (a0 + 3) (w32 x2) z8).1 (a0 + 7) (w32 (S.1 (a0 + 1) (w32 x2))))) x2).1 (a0 + 6) (w32 (S.1 (a0 + 1) (w32 x2)))) + 1)), 0, 0)) rfl ?_
      obtain ⟨b17, F⟩ := F
      refine mv_ial rfl (ha0.2.2.2.2.2.2.2.1) b17 ?_
      refine ev_bk 1 (S' := (240, [some (.ref a0), some (vI x1), some (vI x2), some (vI (S.1 (a0 + 1) (w32 x2)))], [vI 1, vI ((wI (wI (wI S6 (a0 + 3) (w32 x2) z8) (a0 + 4) (w32 ((wI S6 (a0 + 3) (w32 x2) z8).1 (a0 + 7) (w32 (S.1 (a0 + 1) (w32 x2))))) x2) (a0 + 6) (w32 (S.1 (a0 + 1) (w32 x2))) (((wI (wI S6 (a0 + 3) (w32 x2) z8) (a0 + 4) (w32 ((wI S6 (a0 + 3) (w32 x2) z8).1 (a0 + 7) (w32 (S.1 (a0 + 1) (w32 x2))))) x2).1 (a0 + 6) (w32 (S.1 (a0 + 1) (w32 x2)))) + 1)).1 (a0 + 7) (w32 (S.1 (a0 + 1) (w32 x2)))), vI (S.1 (a0 + 1) (w32 x2)), .ref (a0 + 7)], hp (wI (wI (wI S6 (a0 + 3) (w32 x2) z8) (a0 + 4) (w32 ((wI S6 (a0 + 3) (w32 x2) z8).1 (a0 + 7) (w32 (S.1 (a0 + 1) (w32 x2))))) x2) (a0 + 6) (w32 (S.1 (a0 + 1) (w32 x2))) (((wI (wI S6 (a0 + 3) (w32 x2) z8) (a0 + 4) (w32 ((wI S6 (a0 + 3) (w32 x2) z8).1 (a0 + 7) (w32 (S.1 (a0 + 1) (w32 x2))))) x2).1 (a0 + 6) (w32 (S.1 (a0 + 1) (w32 x2)))) + 1)), 0, 0)) rfl ?_
      refine mv_iadd rfl ?_
      obtain ⟨b18, F⟩ := F
      refine mv_ias rfl (ha0.2.2.2.2.2.2.2.1) b18 ?_
      have F := F _ rfl
      exact F
theorem vc_Code_settle_242 {q : Nat × (Nat → Int32)} {S S' : ms} {r : Option Value} (x1 x2 x3 : Int) (a0 : Nat) (ha0 : isCode a0)
    (F : EV q 10 166 [some (.ref a0), some (vI x1), some (vI (x2 + 1)), none] [] S r S') : EV q 10 242 [some (.ref a0), some (vI x1), some (vI x2), some (vI x3)] [] S r S' := by
  unfold EV
  refine mv_inc (lv' := [some (.ref a0), some (vI x1), some (vI (x2 + 1)), some (vI x3)]) 2 1 rfl rfl rfl rfl ?_
  refine mv_goto 166 rfl rfl ?_
  exact ev_wk (le_s (le_s (le_s (le_n le_0)))) F
theorem vc_Arrays_fill11 {q : Nat × (Nat → Int32)} {S S' : ms} {r : Option Value} (x1 : Int) (a0 na0 : Nat) (ha0 : SH a0 = (0, na0, []))
    (F : EV q 11 5 [some (.ref a0), some (vI x1), some (vI 0), some (vI ((na0 : Nat)))] [] S r S') : EV q 11 0 [some (.ref a0), some (vI x1), none, none] [] S r S' := by
  unfold EV
  refine ev_bk 3 (S' := (3, [some (.ref a0), some (vI x1), some (vI 0), none], [.ref a0], hp S, 0, 0)) rfl ?_
  refine mv_len rfl (ha0) (by decide) ?_
  refine ev_bk 1 (S' := (5, [some (.ref a0), some (vI x1), some (vI 0), some (vI ((na0 : Nat)))], [], hp S, 0, 0)) rfl ?_
  exact F
theorem vc_Arrays_fill11_5 {q : Nat × (Nat → Int32)} {S S' : ms} {r : Option Value} (x1 x2 x3 : Int) (a0 na0 : Nat) (ha0 : SH a0 = (0, na0, []))
    (F : ((w32 x3 ≤ w32 x2) → r = none ∧ S' = S) ∧ ((¬ w32 x3 ≤ w32 x2) → (0 ≤ w32 x2 ∧ w32 x2 < (na0 : Nat)) ∧ ∀ S2 : ms, S2 = wI S a0 (w32 x2) x1 → EV q 11 5 [some (.ref a0), some (vI x1), some (vI (x2 + 1)), some (vI x3)] [] S2 r S')) : EV q 11 5 [some (.ref a0), some (vI x1), some (vI x2), some (vI x3)] [] S r S' := by
  unfold EV
  refine ev_bk 2 (S' := (7, [some (.ref a0), some (vI x1), some (vI x2), some (vI x3)], [vI x3, vI x2], hp S, 0, 0)) rfl ?_
  refine mv_icmp 20 rfl rfl (fun c => ?_) (fun c => ?_)
  · have F := F.1 c
    obtain ⟨rfl, rfl⟩ := F
    exact ev_ret rfl rfl
  · have F := F.2 c
    refine ev_bk 3 (S' := (13, [some (.ref a0), some (vI x1), some (vI x2), some (vI x3)], [vI x1, vI x2, .ref a0], hp S, 0, 0)) rfl ?_
    obtain ⟨b1, F⟩ := F
    refine mv_ias rfl (ha0) b1 ?_
    have F := F _ rfl
    refine mv_inc (lv' := [some (.ref a0), some (vI x1), some (vI (x2 + 1)), some (vI x3)]) 2 1 rfl rfl rfl rfl ?_
    refine mv_goto 5 rfl rfl ?_
    exact F
theorem vc_Code_mirror {q : Nat × (Nat → Int32)} {S S' : ms} {r : Option Value} (x0 x1 : Int)
    (F : EV q 12 4 [some (vI x0), some (vI x1), some (vI 0), some (vI 0)] [] S r S') : EV q 12 0 [some (vI x0), some (vI x1), none, none] [] S r S' := by
  unfold EV
  refine ev_bk 4 (S' := (4, [some (vI x0), some (vI x1), some (vI 0), some (vI 0)], [], hp S, 0, 0)) rfl ?_
  exact F
theorem vc_Code_mirror_4 {q : Nat × (Nat → Int32)} {S S' : ms} {r : Option Value} (x0 x1 x2 x3 : Int)
    (F : ((w32 x1 ≤ w32 x3) → r = some (vI x2) ∧ S' = S) ∧ ((¬ w32 x1 ≤ w32 x3) → EV q 12 4 [some (vI x0), some (vI x1), some (vI (bO (x2 * 2) ((w32 x0 / ((2 : Int) ^ (x3 % 32).toNat)) % 2))), some (vI (x3 + 1))] [] S r S')) : EV q 12 4 [some (vI x0), some (vI x1), some (vI x2), some (vI x3)] [] S r S' := by
  unfold EV
  refine ev_bk 2 (S' := (6, [some (vI x0), some (vI x1), some (vI x2), some (vI x3)], [vI x1, vI x3], hp S, 0, 0)) rfl ?_
  refine mv_icmp 25 rfl rfl (fun c => ?_) (fun c => ?_)
  · have F := F.1 c
    refine ev_bk 1 (S' := (26, [some (vI x0), some (vI x1), some (vI x2), some (vI x3)], [vI x2], hp S, 0, 0)) rfl ?_
    obtain ⟨rfl, rfl⟩ := F
    exact ev_ret rfl rfl
  · have F := F.2 c
    refine ev_bk 2 (S' := (11, [some (vI x0), some (vI x1), some (vI x2), some (vI x3)], [vI 1, vI x2], hp S, 0, 0)) rfl ?_
    refine mv_ishl 2 rfl rfl ?_
    refine ev_bk 2 (S' := (14, [some (vI x0), some (vI x1), some (vI x2), some (vI x3)], [vI x3, vI x0, vI (x2 * 2)], hp S, 0, 0)) rfl ?_
    refine mv_ishr ((2 : Int) ^ (x3 % 32).toNat) rfl rfl ?_
    refine ev_bk 1 (S' := (16, [some (vI x0), some (vI x1), some (vI x2), some (vI x3)], [vI 1, vI (w32 x0 / ((2 : Int) ^ (x3 % 32).toNat)), vI (x2 * 2)], hp S, 0, 0)) rfl ?_
    refine mv_iandm 2 1 (by decide) rfl rfl rfl ?_
    refine mv_ior rfl ?_
    refine ev_bk 1 (S' := (19, [some (vI x0), some (vI x1), some (vI (bO (x2 * 2) ((w32 x0 / ((2 : Int) ^ (x3 % 32).toNat)) % 2))), some (vI x3)], [], hp S, 0, 0)) rfl ?_
    refine mv_inc (lv' := [some (vI x0), some (vI x1), some (vI (bO (x2 * 2) ((w32 x0 / ((2 : Int) ^ (x3 % 32).toNat)) % 2))), some (vI (x3 + 1))]) 3 1 rfl rfl rfl rfl ?_
    refine mv_goto 4 rfl rfl ?_
    exact F
theorem vc_Row_addHigh {q : Nat × (Nat → Int32)} {S S' : ms} {r : Option Value} (x1 x3 : Int) (a0 na0 : Nat) (ha0 : isRow a0 na0)
    (F : EV q 18 5 [some (.ref a0), some (vL x1), none, some (vI x3), some (vI (x3 - 1))] [] S r S') : EV q 18 0 [some (.ref a0), some (vL x1), none, some (vI x3), none] [] S r S' := by
  unfold EV
  refine ev_bk 2 (S' := (2, [some (.ref a0), some (vL x1), none, some (vI x3), none], [vI 1, vI x3], hp S, 0, 0)) rfl ?_
  refine mv_isub rfl ?_
  refine ev_bk 1 (S' := (5, [some (.ref a0), some (vL x1), none, some (vI x3), some (vI (x3 - 1))], [], hp S, 0, 0)) rfl ?_
  exact F
theorem vc_Row_addHigh_5 {q : Nat × (Nat → Int32)} {S S' : ms} {r : Option Value} (x1 x3 x4 : Int) (a0 na0 : Nat) (ha0 : isRow a0 na0)
    (F : ((w32 x4 < 0) → r = none ∧ S' = S) ∧ ((¬ w32 x4 < 0) → ∃ (S1 : ms), EV q 19 0 [some (.ref a0), some (vI (x1 % 18446744073709551616 / ((2 : Int) ^ ((8 * x4) % 64).toNat)))] [] S none S1 ∧ EV q 18 5 [some (.ref a0), some (vL x1), none, some (vI x3), some (vI (x4 - 1))] [] S1 r S')) : EV q 18 5 [some (.ref a0), some (vL x1), none, some (vI x3), some (vI x4)] [] S r S' := by
  unfold EV
  refine ev_bk 1 (S' := (7, [some (.ref a0), some (vL x1), none, some (vI x3), some (vI x4)], [vI x4], hp S, 0, 0)) rfl ?_
  refine mv_if 28 rfl rfl (fun c => ?_) (fun c => ?_)
  · have F := F.1 c
    obtain ⟨rfl, rfl⟩ := F
    exact ev_ret rfl rfl
  · have F := F.2 c
    refine ev_bk 4 (S' := (16, [some (.ref a0), some (vL x1), none, some (vI x3), some (vI x4)], [vI x4, vI 8, vL x1, .ref a0], hp S, 0, 0)) rfl ?_
    refine mv_imul rfl ?_
    refine mv_lushr ((2 : Int) ^ ((8 * x4) % 64).toNat) rfl rfl ?_
    refine mv_l2i rfl ?_
    obtain ⟨S1, e2, F⟩ := F
    refine mv_calv (as := [vI (x1 % 18446744073709551616 / ((2 : Int) ^ ((8 * x4) % 64).toNat))]) (rest := []) e2 (ha0.1) rfl rfl rfl ⟨rfl, rfl⟩ rfl rfl rfl rfl rfl ?_
    refine mv_inc (lv' := [some (.ref a0), some (vL x1), none, some (vI x3), some (vI (x4 - 1))]) 4 (-1) rfl rfl rfl (by omega) ?_
    refine mv_goto 5 rfl rfl ?_
    exact F
theorem vc_Row_add {q : Nat × (Nat → Int32)} {S S' : ms} {r : Option Value} (x1 : Int) (a0 na0 : Nat) (ha0 : isRow a0 na0)
    (F : ((w32 (S.1 a0 1) < 0) → EV q 19 19 [some (.ref a0), some (vI x1)] [] S r S') ∧ ((¬ w32 (S.1 a0 1) < 0) → ((w32 (S.1 a0 1) < w32 ((na0 : Nat))) → (0 ≤ w32 (S.1 a0 1) ∧ w32 (S.1 a0 1) < (na0 : Nat)) ∧ ∀ S2 : ms, S2 = wI S (a0 + 1) (w32 (S.1 a0 1)) (x1 % 256) → ∀ S3 : ms, S3 = wI S2 a0 1 (S2.1 a0 1 + 1) → r = none ∧ S' = S3) ∧ ((¬ w32 (S.1 a0 1) < w32 ((na0 : Nat))) → EV q 19 19 [some (.ref a0), some (vI x1)] [] S r S'))) : EV q 19 0 [some (.ref a0), some (vI x1)] [] S r S' := by
  unfold EV
  refine ev_bk 1 (S' := (1, [some (.ref a0), some (vI x1)], [.ref a0], hp S, 0, 0)) rfl ?_
  refine mv_gfI rfl rfl (ha0.1) (by decide) rfl ?_
  refine mv_if 19 rfl rfl (fun c => ?_) (fun c => ?_)
  · have F := F.1 c
    exact F
  · have F := F.2 c
    refine ev_bk 1 (S' := (8, [some (.ref a0), some (vI x1)], [.ref a0], hp S, 0, 0)) rfl ?_
    refine mv_gfI rfl rfl (ha0.1) (by decide) rfl ?_
    refine ev_bk 1 (S' := (12, [some (.ref a0), some (vI x1)], [.ref a0, vI (S.1 a0 1)], hp S, 0, 0)) rfl ?_
    refine mv_gfR rfl rfl (ha0.1) (by decide) rfl ?_
    refine mv_len rfl (ha0.2) (by decide) ?_
    refine mv_icmp 25 rfl rfl (fun c => ?_) (fun c => ?_)
    · have F := F.1 c
      refine ev_bk 1 (S' := (26, [some (.ref a0), some (vI x1)], [.ref a0], hp S, 0, 0)) rfl ?_
      refine mv_gfR rfl rfl (ha0.1) (by decide) rfl ?_
      refine ev_bk 1 (S' := (30, [some (.ref a0), some (vI x1)], [.ref a0, .ref (a0 + 1)], hp S, 0, 0)) rfl ?_
      refine mv_gfI rfl rfl (ha0.1) (by decide) rfl ?_
      refine ev_bk 2 (S' := (37, [some (.ref a0), some (vI x1)], [vI 255, vI x1, vI (S.1 a0 1), .ref (a0 + 1)], hp S, 0, 0)) rfl ?_
      refine mv_iandm 256 8 (by decide) rfl rfl rfl ?_
      obtain ⟨b1, F⟩ := F
      refine mv_ias rfl (ha0.2) b1 ?_
      have F := F _ rfl
      refine ev_bk 2 (S' := (41, [some (.ref a0), some (vI x1)], [.ref a0, .ref a0], hp (wI S (a0 + 1) (w32 (S.1 a0 1)) (x1 % 256)), 0, 0)) rfl ?_
      refine mv_gfI rfl rfl (ha0.1) (by decide) rfl ?_
      refine ev_bk 1 (S' := (45, [some (.ref a0), some (vI x1)], [vI 1, vI ((wI S (a0 + 1) (w32 (S.1 a0 1)) (x1 % 256)).1 a0 1), .ref a0], hp (wI S (a0 + 1) (w32 (S.1 a0 1)) (x1 % 256)), 0, 0)) rfl ?_
      refine mv_iadd rfl ?_
      refine mv_pfI rfl rfl (ha0.1) (by decide) rfl rfl ?_
      have F := F _ rfl
      obtain ⟨rfl, rfl⟩ := F
      exact ev_ret rfl rfl
    · have F := F.2 c
      exact F
theorem vc_Row_add_19 {q : Nat × (Nat → Int32)} {S S' : ms} {r : Option Value} (x1 : Int) (a0 na0 : Nat) (ha0 : isRow a0 na0)
    (F : ∀ S1 : ms, S1 = wI S a0 2 1 → r = none ∧ S' = S1) : EV q 19 19 [some (.ref a0), some (vI x1)] [] S r S' := by
  unfold EV
  refine ev_bk 2 (S' := (21, [some (.ref a0), some (vI x1)], [vI 1, .ref a0], hp S, 0, 0)) rfl ?_
  refine mv_pfI rfl rfl (ha0.1) (by decide) rfl rfl ?_
  have F := F _ rfl
  obtain ⟨rfl, rfl⟩ := F
  exact ev_ret rfl rfl
theorem vc_Row_behind {q : Nat × (Nat → Int32)} {S S' : ms} {r : Option Value} (x1 x2 : Int) (a0 na0 : Nat) (ha0 : isRow a0 na0)
    (F : ((w32 x1 ≤ 0) → r = some (vI x2) ∧ S' = S) ∧ ((¬ w32 x1 ≤ 0) → ((w32 (S.1 a0 1) < w32 x1) → r = some (vI x2) ∧ S' = S) ∧ ((¬ w32 (S.1 a0 1) < w32 x1) → (0 ≤ w32 ((S.1 a0 1) - x1) ∧ w32 ((S.1 a0 1) - x1) < (na0 : Nat)) ∧ r = some (vI (S.1 (a0 + 1) (w32 ((S.1 a0 1) - x1)))) ∧ S' = S))) : EV q 22 0 [some (.ref a0), some (vI x1), some (vI x2)] [] S r S' := by
  unfold EV
  refine ev_bk 1 (S' := (1, [some (.ref a0), some (vI x1), some (vI x2)], [vI x1], hp S, 0, 0)) rfl ?_
  refine mv_if 26 rfl rfl (fun c => ?_) (fun c => ?_)
  · have F := F.1 c
    refine ev_bk 1 (S' := (27, [some (.ref a0), some (vI x1), some (vI x2)], [vI x2], hp S, 0, 0)) rfl ?_
    obtain ⟨rfl, rfl⟩ := F
    exact ev_ret rfl rfl
  · have F := F.2 c
    refine ev_bk 2 (S' := (6, [some (.ref a0), some (vI x1), some (vI x2)], [.ref a0, vI x1], hp S, 0, 0)) rfl ?_
    refine mv_gfI rfl rfl (ha0.1) (by decide) rfl ?_
    refine mv_icmp 26 rfl rfl (fun c => ?_) (fun c => ?_)
    · have F := F.1 c
      refine ev_bk 1 (S' := (27, [some (.ref a0), some (vI x1), some (vI x2)], [vI x2], hp S, 0, 0)) rfl ?_
      obtain ⟨rfl, rfl⟩ := F
      exact ev_ret rfl rfl
    · have F := F.2 c
      refine ev_bk 1 (S' := (13, [some (.ref a0), some (vI x1), some (vI x2)], [.ref a0], hp S, 0, 0)) rfl ?_
      refine mv_gfR rfl rfl (ha0.1) (by decide) rfl ?_
      refine ev_bk 1 (S' := (17, [some (.ref a0), some (vI x1), some (vI x2)], [.ref a0, .ref (a0 + 1)], hp S, 0, 0)) rfl ?_
      refine mv_gfI rfl rfl (ha0.1) (by decide) rfl ?_
      refine ev_bk 1 (S' := (21, [some (.ref a0), some (vI x1), some (vI x2)], [vI x1, vI (S.1 a0 1), .ref (a0 + 1)], hp S, 0, 0)) rfl ?_
      refine mv_isub rfl ?_
      obtain ⟨b1, F⟩ := F
      refine mv_ial rfl (ha0.2) b1 ?_
      refine mv_goto 27 rfl rfl ?_
      obtain ⟨rfl, rfl⟩ := F
      exact ev_ret rfl rfl
theorem vc_Row_adler {q : Nat × (Nat → Int32)} {S S' : ms} {r : Option Value} (x1 x2 : Int) (a0 na0 : Nat) (ha0 : SH a0 = (0, na0, []))
    (F : EV q 27 8 [some (.ref a0), some (vI x1), some (vI x2), some (vI 1), some (vI 0), some (vI x1)] [] S r S') : EV q 27 0 [some (.ref a0), some (vI x1), some (vI x2), none, none, none] [] S r S' := by
  unfold EV
  refine ev_bk 6 (S' := (8, [some (.ref a0), some (vI x1), some (vI x2), some (vI 1), some (vI 0), some (vI x1)], [], hp S, 0, 0)) rfl ?_
  exact F
theorem vc_Row_adler_8 {q : Nat × (Nat → Int32)} {S S' : ms} {r : Option Value} (x1 x2 x3 x4 x5 : Int) (a0 na0 : Nat) (ha0 : SH a0 = (0, na0, []))
    (F : ((w32 x2 ≤ w32 x5) → r = some (vI ((x4 * 65536) + x3)) ∧ S' = S) ∧ ((¬ w32 x2 ≤ w32 x5) → (0 ≤ w32 x5 ∧ w32 x5 < (na0 : Nat)) ∧ ((w32 (x3 + (S.1 a0 (w32 x5))) < 65521) → EV q 27 32 [some (.ref a0), some (vI x1), some (vI x2), some (vI (x3 + (S.1 a0 (w32 x5)))), some (vI x4), some (vI x5)] [] S r S') ∧ ((¬ w32 (x3 + (S.1 a0 (w32 x5))) < 65521) → EV q 27 32 [some (.ref a0), some (vI x1), some (vI x2), some (vI ((x3 + (S.1 a0 (w32 x5))) - 65521)), some (vI x4), some (vI x5)] [] S r S'))) : EV q 27 8 [some (.ref a0), some (vI x1), some (vI x2), some (vI x3), some (vI x4), some (vI x5)] [] S r S' := by
  unfold EV
  refine ev_bk 2 (S' := (11, [some (.ref a0), some (vI x1), some (vI x2), some (vI x3), some (vI x4), some (vI x5)], [vI x2, vI x5], hp S, 0, 0)) rfl ?_
  refine mv_icmp 58 rfl rfl (fun c => ?_) (fun c => ?_)
  · have F := F.1 c
    refine ev_bk 2 (S' := (62, [some (.ref a0), some (vI x1), some (vI x2), some (vI x3), some (vI x4), some (vI x5)], [vI 65536, vI x4], hp S, 0, 0)) rfl ?_
    refine mv_imul rfl ?_
    refine ev_bk 1 (S' := (64, [some (.ref a0), some (vI x1), some (vI x2), some (vI x3), some (vI x4), some (vI x5)], [vI x3, vI (x4 * 65536)], hp S, 0, 0)) rfl ?_
    refine mv_iadd rfl ?_
    obtain ⟨rfl, rfl⟩ := F
    exact ev_ret rfl rfl
  · have F := F.2 c
    refine ev_bk 3 (S' := (18, [some (.ref a0), some (vI x1), some (vI x2), some (vI x3), some (vI x4), some (vI x5)], [vI x5, .ref a0, vI x3], hp S, 0, 0)) rfl ?_
    obtain ⟨b1, F⟩ := F
    refine mv_ial rfl (ha0) b1 ?_
    refine mv_iadd rfl ?_
    refine ev_bk 3 (S' := (24, [some (.ref a0), some (vI x1), some (vI x2), some (vI (x3 + (S.1 a0 (w32 x5)))), some (vI x4), some (vI x5)], [vI 65521, vI (x3 + (S.1 a0 (w32 x5)))], hp S, 0, 0)) rfl ?_
    refine mv_icmp 32 rfl rfl (fun c => ?_) (fun c => ?_)
    · have F := F.1 c
      exact F
    · have F := F.2 c
      refine ev_bk 2 (S' := (30, [some (.ref a0), some (vI x1), some (vI x2), some (vI (x3 + (S.1 a0 (w32 x5)))), some (vI x4), some (vI x5)], [vI 65521, vI (x3 + (S.1 a0 (w32 x5)))], hp S, 0, 0)) rfl ?_
      refine mv_isub rfl ?_
      refine ev_bk 1 (S' := (32, [some (.ref a0), some (vI x1), some (vI x2), some (vI ((x3 + (S.1 a0 (w32 x5))) - 65521)), some (vI x4), some (vI x5)], [], hp S, 0, 0)) rfl ?_
      exact F
theorem vc_Row_adler_32 {q : Nat × (Nat → Int32)} {S S' : ms} {r : Option Value} (x1 x2 x3 x4 x5 : Int) (a0 na0 : Nat) (ha0 : SH a0 = (0, na0, []))
    (F : ((w32 (x4 + x3) < 65521) → EV q 27 52 [some (.ref a0), some (vI x1), some (vI x2), some (vI x3), some (vI (x4 + x3)), some (vI x5)] [] S r S') ∧ ((¬ w32 (x4 + x3) < 65521) → EV q 27 52 [some (.ref a0), some (vI x1), some (vI x2), some (vI x3), some (vI ((x4 + x3) - 65521)), some (vI x5)] [] S r S')) : EV q 27 32 [some (.ref a0), some (vI x1), some (vI x2), some (vI x3), some (vI x4), some (vI x5)] [] S r S' := by
  unfold EV
  refine ev_bk 2 (S' := (35, [some (.ref a0), some (vI x1), some (vI x2), some (vI x3), some (vI x4), some (vI x5)], [vI x3, vI x4], hp S, 0, 0)) rfl ?_
  refine mv_iadd rfl ?_
  refine ev_bk 3 (S' := (42, [some (.ref a0), some (vI x1), some (vI x2), some (vI x3), some (vI (x4 + x3)), some (vI x5)], [vI 65521, vI (x4 + x3)], hp S, 0, 0)) rfl ?_
  refine mv_icmp 52 rfl rfl (fun c => ?_) (fun c => ?_)
  · have F := F.1 c
    exact F
  · have F := F.2 c
    refine ev_bk 2 (S' := (49, [some (.ref a0), some (vI x1), some (vI x2), some (vI x3), some (vI (x4 + x3)), some (vI x5)], [vI 65521, vI (x4 + x3)], hp S, 0, 0)) rfl ?_
    refine mv_isub rfl ?_
    refine ev_bk 1 (S' := (52, [some (.ref a0), some (vI x1), some (vI x2), some (vI x3), some (vI ((x4 + x3) - 65521)), some (vI x5)], [], hp S, 0, 0)) rfl ?_
    exact F
theorem vc_Row_adler_52 {q : Nat × (Nat → Int32)} {S S' : ms} {r : Option Value} (x1 x2 x3 x4 x5 : Int) (a0 na0 : Nat) (ha0 : SH a0 = (0, na0, []))
    (F : EV q 27 8 [some (.ref a0), some (vI x1), some (vI x2), some (vI x3), some (vI x4), some (vI (x5 + 1))] [] S r S') : EV q 27 52 [some (.ref a0), some (vI x1), some (vI x2), some (vI x3), some (vI x4), some (vI x5)] [] S r S' := by
  unfold EV
  refine mv_inc (lv' := [some (.ref a0), some (vI x1), some (vI x2), some (vI x3), some (vI x4), some (vI (x5 + 1))]) 5 1 rfl rfl rfl rfl ?_
  refine mv_goto 8 rfl rfl ?_
  exact F
theorem vc_Row_round {q : Nat × (Nat → Int32)} {S S' : ms} {r : Option Value} (x1 x2 : Int) (a0 na0 : Nat) (ha0 : SH a0 = (0, na0, []))
    (F : EV q 28 5 [some (.ref a0), some (vI x1), some (vI x2), some (vI ((-1))), some (vI x1)] [] S r S') : EV q 28 0 [some (.ref a0), some (vI x1), some (vI x2), none, none] [] S r S' := by
  unfold EV
  refine ev_bk 4 (S' := (5, [some (.ref a0), some (vI x1), some (vI x2), some (vI ((-1))), some (vI x1)], [], hp S, 0, 0)) rfl ?_
  exact F
theorem vc_Row_round_5 {q : Nat × (Nat → Int32)} {S S' : ms} {r : Option Value} (x1 x2 x3 x4 : Int) (a0 na0 : Nat) (ha0 : SH a0 = (0, na0, []))
    (F : ((w32 x2 ≤ w32 x4) → r = some (vI (-x3 - 1)) ∧ S' = S) ∧ ((¬ w32 x2 ≤ w32 x4) → (0 ≤ w32 x4 ∧ w32 x4 < (na0 : Nat)) ∧ (0 ≤ w32 ((bX x3 (S.1 a0 (w32 x4))) % 16) ∧ w32 ((bX x3 (S.1 a0 (w32 x4))) % 16) < (16 : Nat)) ∧ (0 ≤ w32 ((bX ((bX x3 (S.1 a0 (w32 x4))) % 4294967296 / 16) (sS 2 (w32 ((bX x3 (S.1 a0 (w32 x4))) % 16)))) % 16) ∧ w32 ((bX ((bX x3 (S.1 a0 (w32 x4))) % 4294967296 / 16) (sS 2 (w32 ((bX x3 (S.1 a0 (w32 x4))) % 16)))) % 16) < (16 : Nat)) ∧ EV q 28 5 [some (.ref a0), some (vI x1), some (vI x2), some (vI (bX ((bX ((bX x3 (S.1 a0 (w32 x4))) % 4294967296 / 16) (sS 2 (w32 ((bX x3 (S.1 a0 (w32 x4))) % 16)))) % 4294967296 / 16) (sS 2 (w32 ((bX ((bX x3 (S.1 a0 (w32 x4))) % 4294967296 / 16) (sS 2 (w32 ((bX x3 (S.1 a0 (w32 x4))) % 16)))) % 16))))), some (vI (x4 + 1))] [] S r S')) : EV q 28 5 [some (.ref a0), some (vI x1), some (vI x2), some (vI x3), some (vI x4)] [] S r S' := by
  unfold EV
  refine ev_bk 2 (S' := (8, [some (.ref a0), some (vI x1), some (vI x2), some (vI x3), some (vI x4)], [vI x2, vI x4], hp S, 0, 0)) rfl ?_
  refine mv_icmp 50 rfl rfl (fun c => ?_) (fun c => ?_)
  · have F := F.1 c
    refine ev_bk 2 (S' := (52, [some (.ref a0), some (vI x1), some (vI x2), some (vI x3), some (vI x4)], [vI ((-1)), vI x3], hp S, 0, 0)) rfl ?_
    refine mv_inot rfl ?_
    obtain ⟨rfl, rfl⟩ := F
    exact ev_ret rfl rfl
  · have F := F.2 c
    refine ev_bk 3 (S' := (15, [some (.ref a0), some (vI x1), some (vI x2), some (vI x3), some (vI x4)], [vI x4, .ref a0, vI x3], hp S, 0, 0)) rfl ?_
    obtain ⟨b1, F⟩ := F
    refine mv_ial rfl (ha0) b1 ?_
    refine mv_ixor rfl ?_
    refine ev_bk 3 (S' := (20, [some (.ref a0), some (vI x1), some (vI x2), some (vI (bX x3 (S.1 a0 (w32 x4)))), some (vI x4)], [vI 4, vI (bX x3 (S.1 a0 (w32 x4)))], hp S, 0, 0)) rfl ?_
    refine mv_iushr 16 rfl rfl ?_
    refine mv_gs (k := 2) rfl rfl ?_
    refine ev_bk 2 (S' := (27, [some (.ref a0), some (vI x1), some (vI x2), some (vI (bX x3 (S.1 a0 (w32 x4)))), some (vI x4)], [vI 15, vI (bX x3 (S.1 a0 (w32 x4))), .ref (en_b + 2), vI ((bX x3 (S.1 a0 (w32 x4))) % 4294967296 / 16)], hp S, 0, 0)) rfl ?_
    refine mv_iandm 16 4 (by decide) rfl rfl rfl ?_
    obtain ⟨b2, F⟩ := F
    refine mv_sal (k := 2) rfl rfl (by decide) b2 ?_
    refine mv_ixor rfl ?_
    refine ev_bk 3 (S' := (33, [some (.ref a0), some (vI x1), some (vI x2), some (vI (bX ((bX x3 (S.1 a0 (w32 x4))) % 4294967296 / 16) (sS 2 (w32 ((bX x3 (S.1 a0 (w32 x4))) % 16))))), some (vI x4)], [vI 4, vI (bX ((bX x3 (S.1 a0 (w32 x4))) % 4294967296 / 16) (sS 2 (w32 ((bX x3 (S.1 a0 (w32 x4))) % 16))))], hp S, 0, 0)) rfl ?_
    refine mv_iushr 16 rfl rfl ?_
    refine mv_gs (k := 2) rfl rfl ?_
    refine ev_bk 2 (S' := (40, [some (.ref a0), some (vI x1), some (vI x2), some (vI (bX ((bX x3 (S.1 a0 (w32 x4))) % 4294967296 / 16) (sS 2 (w32 ((bX x3 (S.1 a0 (w32 x4))) % 16))))), some (vI x4)], [vI 15, vI (bX ((bX x3 (S.1 a0 (w32 x4))) % 4294967296 / 16) (sS 2 (w32 ((bX x3 (S.1 a0 (w32 x4))) % 16)))), .ref (en_b + 2), vI ((bX ((bX x3 (S.1 a0 (w32 x4))) % 4294967296 / 16) (sS 2 (w32 ((bX x3 (S.1 a0 (w32 x4))) % 16)))) % 4294967296 / 16)], hp S, 0, 0)) rfl ?_
    refine mv_iandm 16 4 (by decide) rfl rfl rfl ?_
    obtain ⟨b3, F⟩ := F
    refine mv_sal (k := 2) rfl rfl (by decide) b3 ?_
    refine mv_ixor rfl ?_
    refine ev_bk 1 (S' := (44, [some (.ref a0), some (vI x1), some (vI x2), some (vI (bX ((bX ((bX x3 (S.1 a0 (w32 x4))) % 4294967296 / 16) (sS 2 (w32 ((bX x3 (S.1 a0 (w32 x4))) % 16)))) % 4294967296 / 16) (sS 2 (w32 ((bX ((bX x3 (S.1 a0 (w32 x4))) % 4294967296 / 16) (sS 2 (w32 ((bX x3 (S.1 a0 (w32 x4))) % 16)))) % 16))))), some (vI x4)], [], hp S, 0, 0)) rfl ?_
    refine mv_inc (lv' := [some (.ref a0), some (vI x1), some (vI x2), some (vI (bX ((bX ((bX x3 (S.1 a0 (w32 x4))) % 4294967296 / 16) (sS 2 (w32 ((bX x3 (S.1 a0 (w32 x4))) % 16)))) % 4294967296 / 16) (sS 2 (w32 ((bX ((bX x3 (S.1 a0 (w32 x4))) % 4294967296 / 16) (sS 2 (w32 ((bX x3 (S.1 a0 (w32 x4))) % 16)))) % 16))))), some (vI (x4 + 1))]) 4 1 rfl rfl rfl rfl ?_
    refine mv_goto 5 rfl rfl ?_
    exact F
theorem vc_Row_turned {q : Nat × (Nat → Int32)} {S S' : ms} {r : Option Value} (x1 x2 : Int) (a0 na0 : Nat) (ha0 : SH a0 = (0, na0, []))
    (F : EV q 29 5 [some (.ref a0), some (vI x1), some (vI x2), some (vI ((-1))), some (vI x1)] [] S r S') : EV q 29 0 [some (.ref a0), some (vI x1), some (vI x2), none, none] [] S r S' := by
  unfold EV
  refine ev_bk 4 (S' := (5, [some (.ref a0), some (vI x1), some (vI x2), some (vI ((-1))), some (vI x1)], [], hp S, 0, 0)) rfl ?_
  exact F
theorem vc_Row_turned_5 {q : Nat × (Nat → Int32)} {S S' : ms} {r : Option Value} (x1 x2 x3 x4 : Int) (a0 na0 : Nat) (ha0 : SH a0 = (0, na0, []))
    (F : ((w32 x2 ≤ w32 x4) → r = some (vI (-x3 - 1)) ∧ S' = S) ∧ ((¬ w32 x2 ≤ w32 x4) → (0 ≤ w32 x4 ∧ w32 x4 < (na0 : Nat)) ∧ (0 ≤ w32 ((bX x3 ((S.1 a0 (w32 x4)) * 16777216)) % 4294967296 / 268435456) ∧ w32 ((bX x3 ((S.1 a0 (w32 x4)) * 16777216)) % 4294967296 / 268435456) < (16 : Nat)) ∧ (0 ≤ w32 ((bX ((bX x3 ((S.1 a0 (w32 x4)) * 16777216)) * 16) (sS 3 (w32 ((bX x3 ((S.1 a0 (w32 x4)) * 16777216)) % 4294967296 / 268435456)))) % 4294967296 / 268435456) ∧ w32 ((bX ((bX x3 ((S.1 a0 (w32 x4)) * 16777216)) * 16) (sS 3 (w32 ((bX x3 ((S.1 a0 (w32 x4)) * 16777216)) % 4294967296 / 268435456)))) % 4294967296 / 268435456) < (16 : Nat)) ∧ EV q 29 5 [some (.ref a0), some (vI x1), some (vI x2), some (vI (bX ((bX ((bX x3 ((S.1 a0 (w32 x4)) * 16777216)) * 16) (sS 3 (w32 ((bX x3 ((S.1 a0 (w32 x4)) * 16777216)) % 4294967296 / 268435456)))) * 16) (sS 3 (w32 ((bX ((bX x3 ((S.1 a0 (w32 x4)) * 16777216)) * 16) (sS 3 (w32 ((bX x3 ((S.1 a0 (w32 x4)) * 16777216)) % 4294967296 / 268435456)))) % 4294967296 / 268435456))))), some (vI (x4 + 1))] [] S r S')) : EV q 29 5 [some (.ref a0), some (vI x1), some (vI x2), some (vI x3), some (vI x4)] [] S r S' := by
  unfold EV
  refine ev_bk 2 (S' := (8, [some (.ref a0), some (vI x1), some (vI x2), some (vI x3), some (vI x4)], [vI x2, vI x4], hp S, 0, 0)) rfl ?_
  refine mv_icmp 53 rfl rfl (fun c => ?_) (fun c => ?_)
  · have F := F.1 c
    refine ev_bk 2 (S' := (55, [some (.ref a0), some (vI x1), some (vI x2), some (vI x3), some (vI x4)], [vI ((-1)), vI x3], hp S, 0, 0)) rfl ?_
    refine mv_inot rfl ?_
    obtain ⟨rfl, rfl⟩ := F
    exact ev_ret rfl rfl
  · have F := F.2 c
    refine ev_bk 3 (S' := (15, [some (.ref a0), some (vI x1), some (vI x2), some (vI x3), some (vI x4)], [vI x4, .ref a0, vI x3], hp S, 0, 0)) rfl ?_
    obtain ⟨b1, F⟩ := F
    refine mv_ial rfl (ha0) b1 ?_
    refine ev_bk 1 (S' := (18, [some (.ref a0), some (vI x1), some (vI x2), some (vI x3), some (vI x4)], [vI 24, vI (S.1 a0 (w32 x4)), vI x3], hp S, 0, 0)) rfl ?_
    refine mv_ishl 16777216 rfl rfl ?_
    refine mv_ixor rfl ?_
    refine ev_bk 3 (S' := (23, [some (.ref a0), some (vI x1), some (vI x2), some (vI (bX x3 ((S.1 a0 (w32 x4)) * 16777216))), some (vI x4)], [vI 4, vI (bX x3 ((S.1 a0 (w32 x4)) * 16777216))], hp S, 0, 0)) rfl ?_
    refine mv_ishl 16 rfl rfl ?_
    refine mv_gs (k := 3) rfl rfl ?_
    refine ev_bk 2 (S' := (30, [some (.ref a0), some (vI x1), some (vI x2), some (vI (bX x3 ((S.1 a0 (w32 x4)) * 16777216))), some (vI x4)], [vI 28, vI (bX x3 ((S.1 a0 (w32 x4)) * 16777216)), .ref (en_b + 3), vI ((bX x3 ((S.1 a0 (w32 x4)) * 16777216)) * 16)], hp S, 0, 0)) rfl ?_
    refine mv_iushr 268435456 rfl rfl ?_
    obtain ⟨b2, F⟩ := F
    refine mv_sal (k := 3) rfl rfl (by decide) b2 ?_
    refine mv_ixor rfl ?_
    refine ev_bk 3 (S' := (36, [some (.ref a0), some (vI x1), some (vI x2), some (vI (bX ((bX x3 ((S.1 a0 (w32 x4)) * 16777216)) * 16) (sS 3 (w32 ((bX x3 ((S.1 a0 (w32 x4)) * 16777216)) % 4294967296 / 268435456))))), some (vI x4)], [vI 4, vI (bX ((bX x3 ((S.1 a0 (w32 x4)) * 16777216)) * 16) (sS 3 (w32 ((bX x3 ((S.1 a0 (w32 x4)) * 16777216)) % 4294967296 / 268435456))))], hp S, 0, 0)) rfl ?_
    refine mv_ishl 16 rfl rfl ?_
    refine mv_gs (k := 3) rfl rfl ?_
    refine ev_bk 2 (S' := (43, [some (.ref a0), some (vI x1), some (vI x2), some (vI (bX ((bX x3 ((S.1 a0 (w32 x4)) * 16777216)) * 16) (sS 3 (w32 ((bX x3 ((S.1 a0 (w32 x4)) * 16777216)) % 4294967296 / 268435456))))), some (vI x4)], [vI 28, vI (bX ((bX x3 ((S.1 a0 (w32 x4)) * 16777216)) * 16) (sS 3 (w32 ((bX x3 ((S.1 a0 (w32 x4)) * 16777216)) % 4294967296 / 268435456)))), .ref (en_b + 3), vI ((bX ((bX x3 ((S.1 a0 (w32 x4)) * 16777216)) * 16) (sS 3 (w32 ((bX x3 ((S.1 a0 (w32 x4)) * 16777216)) % 4294967296 / 268435456)))) * 16)], hp S, 0, 0)) rfl ?_
    refine mv_iushr 268435456 rfl rfl ?_
    obtain ⟨b3, F⟩ := F
    refine mv_sal (k := 3) rfl rfl (by decide) b3 ?_
    refine mv_ixor rfl ?_
    refine ev_bk 1 (S' := (47, [some (.ref a0), some (vI x1), some (vI x2), some (vI (bX ((bX ((bX x3 ((S.1 a0 (w32 x4)) * 16777216)) * 16) (sS 3 (w32 ((bX x3 ((S.1 a0 (w32 x4)) * 16777216)) % 4294967296 / 268435456)))) * 16) (sS 3 (w32 ((bX ((bX x3 ((S.1 a0 (w32 x4)) * 16777216)) * 16) (sS 3 (w32 ((bX x3 ((S.1 a0 (w32 x4)) * 16777216)) % 4294967296 / 268435456)))) % 4294967296 / 268435456))))), some (vI x4)], [], hp S, 0, 0)) rfl ?_
    refine mv_inc (lv' := [some (.ref a0), some (vI x1), some (vI x2), some (vI (bX ((bX ((bX x3 ((S.1 a0 (w32 x4)) * 16777216)) * 16) (sS 3 (w32 ((bX x3 ((S.1 a0 (w32 x4)) * 16777216)) % 4294967296 / 268435456)))) * 16) (sS 3 (w32 ((bX ((bX x3 ((S.1 a0 (w32 x4)) * 16777216)) * 16) (sS 3 (w32 ((bX x3 ((S.1 a0 (w32 x4)) * 16777216)) % 4294967296 / 268435456)))) % 4294967296 / 268435456))))), some (vI (x4 + 1))]) 4 1 rfl rfl rfl rfl ?_
    refine mv_goto 5 rfl rfl ?_
    exact F
theorem vc_Row_mixed {q : Nat × (Nat → Int32)} {S S' : ms} {r : Option Value} (x1 x2 : Int) (a0 na0 : Nat) (ha0 : SH a0 = (0, na0, []))
    (F : ((w32 (x2 - x1) < 16) → EV q 30 167 [some (.ref a0), some (vI x1), some (vI x2), some (vI x1), some (vI 374761393), none, none, none, none] [] S r S') ∧ ((¬ w32 (x2 - x1) < 16) → EV q 30 29 [some (.ref a0), some (vI x1), some (vI x2), some (vI x1), some (vI 374761393), some (vI 606290984), some (vI ((-2048144777))), some (vI 0), some (vI 1640531535)] [] S r S')) : EV q 30 0 [some (.ref a0), some (vI x1), some (vI x2), none, none, none, none, none, none] [] S r S' := by
  unfold EV
  refine ev_bk 6 (S' := (8, [some (.ref a0), some (vI x1), some (vI x2), some (vI x1), some (vI 374761393), none, none, none, none], [vI x1, vI x2], hp S, 0, 0)) rfl ?_
  refine mv_isub rfl ?_
  refine ev_bk 1 (S' := (11, [some (.ref a0), some (vI x1), some (vI x2), some (vI x1), some (vI 374761393), none, none, none, none], [vI 16, vI (x2 - x1)], hp S, 0, 0)) rfl ?_
  refine mv_icmp 167 rfl rfl (fun c => ?_) (fun c => ?_)
  · have F := F.1 c
    exact F
  · have F := F.2 c
    refine ev_bk 8 (S' := (29, [some (.ref a0), some (vI x1), some (vI x2), some (vI x1), some (vI 374761393), some (vI 606290984), some (vI ((-2048144777))), some (vI 0), some (vI 1640531535)], [], hp S, 0, 0)) rfl ?_
    exact F
theorem vc_Row_mixed_29 {q : Nat × (Nat → Int32)} {S S' : ms} {r : Option Value} (x1 x2 x3 x4 x5 x6 x7 x8 : Int) (a0 na0 : Nat) (ha0 : SH a0 = (0, na0, []))
    (F : ((w32 x2 < w32 (x3 + 16)) → ∃ (z3 : Int) (S1 : ms), EV q 32 0 [some (vI x5), some (vI 1)] [] S (some (vI z3)) S1 ∧ ∃ (z6 : Int) (S4 : ms), EV q 32 0 [some (vI x6), some (vI 7)] [] S1 (some (vI z6)) S4 ∧ ∃ (z9 : Int) (S7 : ms), EV q 32 0 [some (vI x7), some (vI 12)] [] S4 (some (vI z9)) S7 ∧ ∃ (z12 : Int) (S10 : ms), EV q 32 0 [some (vI x8), some (vI 18)] [] S7 (some (vI z12)) S10 ∧ EV q 30 167 [some (.ref a0), some (vI x1), some (vI x2), some (vI x3), some (vI (z3 + z6 + z9 + z12)), none, none, none, none] [] S10 r S') ∧ ((¬ w32 x2 < w32 (x3 + 16)) → ∃ (z15 : Int) (S13 : ms), EV q 31 0 [some (.ref a0), some (vI x3)] [] S (some (vI z15)) S13 ∧ ∃ (z18 : Int) (S16 : ms), EV q 32 0 [some (vI (x5 + (z15 * ((-2048144777))))), some (vI 13)] [] S13 (some (vI z18)) S16 ∧ ∃ (z21 : Int) (S19 : ms), EV q 31 0 [some (.ref a0), some (vI (x3 + 4))] [] S16 (some (vI z21)) S19 ∧ ∃ (z24 : Int) (S22 : ms), EV q 32 0 [some (vI (x6 + (z21 * ((-2048144777))))), some (vI 13)] [] S19 (some (vI z24)) S22 ∧ ∃ (z27 : Int) (S25 : ms), EV q 31 0 [some (.ref a0), some (vI (x3 + 8))] [] S22 (some (vI z27)) S25 ∧ ∃ (z30 : Int) (S28 : ms), EV q 32 0 [some (vI (x7 + (z27 * ((-2048144777))))), some (vI 13)] [] S25 (some (vI z30)) S28 ∧ ∃ (z33 : Int) (S31 : ms), EV q 31 0 [some (.ref a0), some (vI (x3 + 12))] [] S28 (some (vI z33)) S31 ∧ ∃ (z36 : Int) (S34 : ms), EV q 32 0 [some (vI (x8 + (z33 * ((-2048144777))))), some (vI 13)] [] S31 (some (vI z36)) S34 ∧ EV q 30 29 [some (.ref a0), some (vI x1), some (vI x2), some (vI (x3 + 16)), some (vI x4), some (vI (z18 * ((-1640531535)))), some (vI (z24 * ((-1640531535)))), some (vI (z30 * ((-1640531535)))), some (vI (z36 * ((-1640531535))))] [] S34 r S')) : EV q 30 29 [some (.ref a0), some (vI x1), some (vI x2), some (vI x3), some (vI x4), some (vI x5), some (vI x6), some (vI x7), some (vI x8)] [] S r S' := by
  unfold EV
  refine ev_bk 2 (S' := (32, [some (.ref a0), some (vI x1), some (vI x2), some (vI x3), some (vI x4), some (vI x5), some (vI x6), some (vI x7), some (vI x8)], [vI 16, vI x3], hp S, 0, 0)) rfl ?_
  refine mv_iadd rfl ?_
  refine ev_bk 1 (S' := (34, [some (.ref a0), some (vI x1), some (vI x2), some (vI x3), some (vI x4), some (vI x5), some (vI x6), some (vI x7), some (vI x8)], [vI x2, vI (x3 + 16)], hp S, 0, 0)) rfl ?_
  refine mv_icmp 135 rfl rfl (fun c => ?_) (fun c => ?_)
  · have F := F.1 c
    refine ev_bk 2 (S' := (138, [some (.ref a0), some (vI x1), some (vI x2), some (vI x3), some (vI x4), some (vI x5), some (vI x6), some (vI x7), some (vI x8)], [vI 1, vI x5], hp S, 0, 0)) rfl ?_
    obtain ⟨z3, S1, e2, F⟩ := F
    refine mv_cals (as := [vI x5, vI 1]) (rest := []) e2 rfl rfl rfl ⟨rfl, rfl, rfl⟩ rfl rfl rfl rfl ?_
    refine ev_bk 2 (S' := (145, [some (.ref a0), some (vI x1), some (vI x2), some (vI x3), some (vI x4), some (vI x5), some (vI x6), some (vI x7), some (vI x8)], [vI 7, vI x6, vI z3], hp S1, 0, 0)) rfl ?_
    obtain ⟨z6, S4, e5, F⟩ := F
    refine mv_cals (as := [vI x6, vI 7]) (rest := [vI z3]) e5 rfl rfl rfl ⟨rfl, rfl, rfl⟩ rfl rfl rfl rfl ?_
    refine mv_iadd rfl ?_
    refine ev_bk 2 (S' := (153, [some (.ref a0), some (vI x1), some (vI x2), some (vI x3), some (vI x4), some (vI x5), some (vI x6), some (vI x7), some (vI x8)], [vI 12, vI x7, vI (z3 + z6)], hp S4, 0, 0)) rfl ?_
    obtain ⟨z9, S7, e8, F⟩ := F
    refine mv_cals (as := [vI x7, vI 12]) (rest := [vI (z3 + z6)]) e8 rfl rfl rfl ⟨rfl, rfl, rfl⟩ rfl rfl rfl rfl ?_
    refine mv_iadd rfl ?_
    refine ev_bk 2 (S' := (161, [some (.ref a0), some (vI x1), some (vI x2), some (vI x3), some (vI x4), some (vI x5), some (vI x6), some (vI x7), some (vI x8)], [vI 18, vI x8, vI (z3 + z6 + z9)], hp S7, 0, 0)) rfl ?_
    obtain ⟨z12, S10, e11, F⟩ := F
    refine mv_cals (as := [vI x8, vI 18]) (rest := [vI (z3 + z6 + z9)]) e11 rfl rfl rfl ⟨rfl, rfl, rfl⟩ rfl rfl rfl rfl ?_
    refine mv_iadd rfl ?_
    refine ev_bk 1 (S' := (167, [some (.ref a0), some (vI x1), some (vI x2), some (vI x3), some (vI (z3 + z6 + z9 + z12)), some (vI x5), some (vI x6), some (vI x7), some (vI x8)], [], hp S10, 0, 0)) rfl ?_
    exact ev_wk (le_s (le_s (le_s (le_s (le_s (le_n (le_n (le_n (le_n le_0))))))))) F
  · have F := F.2 c
    refine ev_bk 3 (S' := (41, [some (.ref a0), some (vI x1), some (vI x2), some (vI x3), some (vI x4), some (vI x5), some (vI x6), some (vI x7), some (vI x8)], [vI x3, .ref a0, vI x5], hp S, 0, 0)) rfl ?_
    obtain ⟨z15, S13, e14, F⟩ := F
    refine mv_cals (as := [.ref a0, vI x3]) (rest := [vI x5]) e14 rfl rfl rfl ⟨rfl, rfl, rfl⟩ rfl rfl rfl rfl ?_
    refine ev_bk 1 (S' := (46, [some (.ref a0), some (vI x1), some (vI x2), some (vI x3), some (vI x4), some (vI x5), some (vI x6), some (vI x7), some (vI x8)], [vI ((-2048144777)), vI z15, vI x5], hp S13, 0, 0)) rfl ?_
    refine mv_imul rfl ?_
    refine mv_iadd rfl ?_
    refine ev_bk 1 (S' := (50, [some (.ref a0), some (vI x1), some (vI x2), some (vI x3), some (vI x4), some (vI x5), some (vI x6), some (vI x7), some (vI x8)], [vI 13, vI (x5 + (z15 * ((-2048144777))))], hp S13, 0, 0)) rfl ?_
    obtain ⟨z18, S16, e17, F⟩ := F
    refine mv_cals (as := [vI (x5 + (z15 * ((-2048144777)))), vI 13]) (rest := []) e17 rfl rfl rfl ⟨rfl, rfl, rfl⟩ rfl rfl rfl rfl ?_
    refine ev_bk 1 (S' := (55, [some (.ref a0), some (vI x1), some (vI x2), some (vI x3), some (vI x4), some (vI x5), some (vI x6), some (vI x7), some (vI x8)], [vI ((-1640531535)), vI z18], hp S16, 0, 0)) rfl ?_
    refine mv_imul rfl ?_
    refine ev_bk 5 (S' := (63, [some (.ref a0), some (vI x1), some (vI x2), some (vI x3), some (vI x4), some (vI (z18 * ((-1640531535)))), some (vI x6), some (vI x7), some (vI x8)], [vI 4, vI x3, .ref a0, vI x6], hp S16, 0, 0)) rfl ?_
    refine mv_iadd rfl ?_
    obtain ⟨z21, S19, e20, F⟩ := F
    refine mv_cals (as := [.ref a0, vI (x3 + 4)]) (rest := [vI x6]) e20 rfl rfl rfl ⟨rfl, rfl, rfl⟩ rfl rfl rfl rfl ?_
    refine ev_bk 1 (S' := (69, [some (.ref a0), some (vI x1), some (vI x2), some (vI x3), some (vI x4), some (vI (z18 * ((-1640531535)))), some (vI x6), some (vI x7), some (vI x8)], [vI ((-2048144777)), vI z21, vI x6], hp S19, 0, 0)) rfl ?_
    refine mv_imul rfl ?_
    refine mv_iadd rfl ?_
    refine ev_bk 1 (S' := (73, [some (.ref a0), some (vI x1), some (vI x2), some (vI x3), some (vI x4), some (vI (z18 * ((-1640531535)))), some (vI x6), some (vI x7), some (vI x8)], [vI 13, vI (x6 + (z21 * ((-2048144777))))], hp S19, 0, 0)) rfl ?_
    obtain ⟨z24, S22, e23, F⟩ := F
    refine mv_cals (as := [vI (x6 + (z21 * ((-2048144777)))), vI 13]) (rest := []) e23 rfl rfl rfl ⟨rfl, rfl, rfl⟩ rfl rfl rfl rfl ?_
    refine ev_bk 1 (S' := (78, [some (.ref a0), some (vI x1), some (vI x2), some (vI x3), some (vI x4), some (vI (z18 * ((-1640531535)))), some (vI x6), some (vI x7), some (vI x8)], [vI ((-1640531535)), vI z24], hp S22, 0, 0)) rfl ?_
    refine mv_imul rfl ?_
    refine ev_bk 5 (S' := (87, [some (.ref a0), some (vI x1), some (vI x2), some (vI x3), some (vI x4), some (vI (z18 * ((-1640531535)))), some (vI (z24 * ((-1640531535)))), some (vI x7), some (vI x8)], [vI 8, vI x3, .ref a0, vI x7], hp S22, 0, 0)) rfl ?_
    refine mv_iadd rfl ?_
    obtain ⟨z27, S25, e26, F⟩ := F
    refine mv_cals (as := [.ref a0, vI (x3 + 8)]) (rest := [vI x7]) e26 rfl rfl rfl ⟨rfl, rfl, rfl⟩ rfl rfl rfl rfl ?_
    refine ev_bk 1 (S' := (93, [some (.ref a0), some (vI x1), some (vI x2), some (vI x3), some (vI x4), some (vI (z18 * ((-1640531535)))), some (vI (z24 * ((-1640531535)))), some (vI x7), some (vI x8)], [vI ((-2048144777)), vI z27, vI x7], hp S25, 0, 0)) rfl ?_
    refine mv_imul rfl ?_
    refine mv_iadd rfl ?_
    refine ev_bk 1 (S' := (97, [some (.ref a0), some (vI x1), some (vI x2), some (vI x3), some (vI x4), some (vI (z18 * ((-1640531535)))), some (vI (z24 * ((-1640531535)))), some (vI x7), some (vI x8)], [vI 13, vI (x7 + (z27 * ((-2048144777))))], hp S25, 0, 0)) rfl ?_
    obtain ⟨z30, S28, e29, F⟩ := F
    refine mv_cals (as := [vI (x7 + (z27 * ((-2048144777)))), vI 13]) (rest := []) e29 rfl rfl rfl ⟨rfl, rfl, rfl⟩ rfl rfl rfl rfl ?_
    refine ev_bk 1 (S' := (102, [some (.ref a0), some (vI x1), some (vI x2), some (vI x3), some (vI x4), some (vI (z18 * ((-1640531535)))), some (vI (z24 * ((-1640531535)))), some (vI x7), some (vI x8)], [vI ((-1640531535)), vI z30], hp S28, 0, 0)) rfl ?_
    refine mv_imul rfl ?_
    refine ev_bk 5 (S' := (111, [some (.ref a0), some (vI x1), some (vI x2), some (vI x3), some (vI x4), some (vI (z18 * ((-1640531535)))), some (vI (z24 * ((-1640531535)))), some (vI (z30 * ((-1640531535)))), some (vI x8)], [vI 12, vI x3, .ref a0, vI x8], hp S28, 0, 0)) rfl ?_
    refine mv_iadd rfl ?_
    obtain ⟨z33, S31, e32, F⟩ := F
    refine mv_cals (as := [.ref a0, vI (x3 + 12)]) (rest := [vI x8]) e32 rfl rfl rfl ⟨rfl, rfl, rfl⟩ rfl rfl rfl rfl ?_
    refine ev_bk 1 (S' := (117, [some (.ref a0), some (vI x1), some (vI x2), some (vI x3), some (vI x4), some (vI (z18 * ((-1640531535)))), some (vI (z24 * ((-1640531535)))), some (vI (z30 * ((-1640531535)))), some (vI x8)], [vI ((-2048144777)), vI z33, vI x8], hp S31, 0, 0)) rfl ?_
    refine mv_imul rfl ?_
    refine mv_iadd rfl ?_
    refine ev_bk 1 (S' := (121, [some (.ref a0), some (vI x1), some (vI x2), some (vI x3), some (vI x4), some (vI (z18 * ((-1640531535)))), some (vI (z24 * ((-1640531535)))), some (vI (z30 * ((-1640531535)))), some (vI x8)], [vI 13, vI (x8 + (z33 * ((-2048144777))))], hp S31, 0, 0)) rfl ?_
    obtain ⟨z36, S34, e35, F⟩ := F
    refine mv_cals (as := [vI (x8 + (z33 * ((-2048144777)))), vI 13]) (rest := []) e35 rfl rfl rfl ⟨rfl, rfl, rfl⟩ rfl rfl rfl rfl ?_
    refine ev_bk 1 (S' := (126, [some (.ref a0), some (vI x1), some (vI x2), some (vI x3), some (vI x4), some (vI (z18 * ((-1640531535)))), some (vI (z24 * ((-1640531535)))), some (vI (z30 * ((-1640531535)))), some (vI x8)], [vI ((-1640531535)), vI z36], hp S34, 0, 0)) rfl ?_
    refine mv_imul rfl ?_
    refine ev_bk 1 (S' := (129, [some (.ref a0), some (vI x1), some (vI x2), some (vI x3), some (vI x4), some (vI (z18 * ((-1640531535)))), some (vI (z24 * ((-1640531535)))), some (vI (z30 * ((-1640531535)))), some (vI (z36 * ((-1640531535))))], [], hp S34, 0, 0)) rfl ?_
    refine mv_inc (lv' := [some (.ref a0), some (vI x1), some (vI x2), some (vI (x3 + 16)), some (vI x4), some (vI (z18 * ((-1640531535)))), some (vI (z24 * ((-1640531535)))), some (vI (z30 * ((-1640531535)))), some (vI (z36 * ((-1640531535))))]) 3 16 rfl rfl rfl rfl ?_
    refine mv_goto 29 rfl rfl ?_
    exact F
theorem vc_Row_mixed_167 {q : Nat × (Nat → Int32)} {S S' : ms} {r : Option Value} (x1 x2 x3 x4 : Int) (a0 na0 : Nat) (ha0 : SH a0 = (0, na0, []))
    (F : EV q 30 175 [some (.ref a0), some (vI x1), some (vI x2), some (vI x3), some (vI (x4 + (x2 - x1))), none, none, none, none] [] S r S') : EV q 30 167 [some (.ref a0), some (vI x1), some (vI x2), some (vI x3), some (vI x4), none, none, none, none] [] S r S' := by
  unfold EV
  refine ev_bk 3 (S' := (171, [some (.ref a0), some (vI x1), some (vI x2), some (vI x3), some (vI x4), none, none, none, none], [vI x1, vI x2, vI x4], hp S, 0, 0)) rfl ?_
  refine mv_isub rfl ?_
  refine mv_iadd rfl ?_
  refine ev_bk 1 (S' := (175, [some (.ref a0), some (vI x1), some (vI x2), some (vI x3), some (vI (x4 + (x2 - x1))), none, none, none, none], [], hp S, 0, 0)) rfl ?_
  exact F
theorem vc_Row_mixed_175 {q : Nat × (Nat → Int32)} {S S' : ms} {r : Option Value} (x1 x2 x3 x4 : Int) (a0 na0 : Nat) (ha0 : SH a0 = (0, na0, []))
    (F : ((w32 x2 < w32 (x3 + 4)) → EV q 30 209 [some (.ref a0), some (vI x1), some (vI x2), some (vI x3), some (vI x4), none, none, none, none] [] S r S') ∧ ((¬ w32 x2 < w32 (x3 + 4)) → ∃ (z3 : Int) (S1 : ms), EV q 31 0 [some (.ref a0), some (vI x3)] [] S (some (vI z3)) S1 ∧ ∃ (z6 : Int) (S4 : ms), EV q 32 0 [some (vI (x4 + (z3 * ((-1028477379))))), some (vI 17)] [] S1 (some (vI z6)) S4 ∧ EV q 30 175 [some (.ref a0), some (vI x1), some (vI x2), some (vI (x3 + 4)), some (vI (z6 * 668265263)), none, none, none, none] [] S4 r S')) : EV q 30 175 [some (.ref a0), some (vI x1), some (vI x2), some (vI x3), some (vI x4), none, none, none, none] [] S r S' := by
  unfold EV
  refine ev_bk 2 (S' := (177, [some (.ref a0), some (vI x1), some (vI x2), some (vI x3), some (vI x4), none, none, none, none], [vI 4, vI x3], hp S, 0, 0)) rfl ?_
  refine mv_iadd rfl ?_
  refine ev_bk 1 (S' := (179, [some (.ref a0), some (vI x1), some (vI x2), some (vI x3), some (vI x4), none, none, none, none], [vI x2, vI (x3 + 4)], hp S, 0, 0)) rfl ?_
  refine mv_icmp 209 rfl rfl (fun c => ?_) (fun c => ?_)
  · have F := F.1 c
    exact F
  · have F := F.2 c
    refine ev_bk 3 (S' := (186, [some (.ref a0), some (vI x1), some (vI x2), some (vI x3), some (vI x4), none, none, none, none], [vI x3, .ref a0, vI x4], hp S, 0, 0)) rfl ?_
    obtain ⟨z3, S1, e2, F⟩ := F
    refine mv_cals (as := [.ref a0, vI x3]) (rest := [vI x4]) e2 rfl rfl rfl ⟨rfl, rfl, rfl⟩ rfl rfl rfl rfl ?_
    refine ev_bk 1 (S' := (191, [some (.ref a0), some (vI x1), some (vI x2), some (vI x3), some (vI x4), none, none, none, none], [vI ((-1028477379)), vI z3, vI x4], hp S1, 0, 0)) rfl ?_
    refine mv_imul rfl ?_
    refine mv_iadd rfl ?_
    refine ev_bk 1 (S' := (195, [some (.ref a0), some (vI x1), some (vI x2), some (vI x3), some (vI x4), none, none, none, none], [vI 17, vI (x4 + (z3 * ((-1028477379))))], hp S1, 0, 0)) rfl ?_
    obtain ⟨z6, S4, e5, F⟩ := F
    refine mv_cals (as := [vI (x4 + (z3 * ((-1028477379)))), vI 17]) (rest := []) e5 rfl rfl rfl ⟨rfl, rfl, rfl⟩ rfl rfl rfl rfl ?_
    refine ev_bk 1 (S' := (200, [some (.ref a0), some (vI x1), some (vI x2), some (vI x3), some (vI x4), none, none, none, none], [vI 668265263, vI z6], hp S4, 0, 0)) rfl ?_
    refine mv_imul rfl ?_
    refine ev_bk 1 (S' := (203, [some (.ref a0), some (vI x1), some (vI x2), some (vI x3), some (vI (z6 * 668265263)), none, none, none, none], [], hp S4, 0, 0)) rfl ?_
    refine mv_inc (lv' := [some (.ref a0), some (vI x1), some (vI x2), some (vI (x3 + 4)), some (vI (z6 * 668265263)), none, none, none, none]) 3 4 rfl rfl rfl rfl ?_
    refine mv_goto 175 rfl rfl ?_
    exact F
theorem vc_Row_mixed_209 {q : Nat × (Nat → Int32)} {S S' : ms} {r : Option Value} (x1 x2 x3 x4 : Int) (a0 na0 : Nat) (ha0 : SH a0 = (0, na0, []))
    (F : ((w32 x2 ≤ w32 x3) → r = some (vI (bX ((bX ((bX x4 (x4 % 4294967296 / 32768)) * ((-2048144777))) (((bX x4 (x4 % 4294967296 / 32768)) * ((-2048144777))) % 4294967296 / 8192)) * ((-1028477379))) (((bX ((bX x4 (x4 % 4294967296 / 32768)) * ((-2048144777))) (((bX x4 (x4 % 4294967296 / 32768)) * ((-2048144777))) % 4294967296 / 8192)) * ((-1028477379))) % 4294967296 / 65536))) ∧ S' = S) ∧ ((¬ w32 x2 ≤ w32 x3) → (0 ≤ w32 x3 ∧ w32 x3 < (na0 : Nat)) ∧ ∃ (z4 : Int) (S2 : ms), EV q 32 0 [some (vI (x4 + ((S.1 a0 (w32 x3)) * 374761393))), some (vI 11)] [] S (some (vI z4)) S2 ∧ EV q 30 209 [some (.ref a0), some (vI x1), some (vI x2), some (vI (x3 + 1)), some (vI (z4 * ((-1640531535)))), none, none, none, none] [] S2 r S')) : EV q 30 209 [some (.ref a0), some (vI x1), some (vI x2), some (vI x3), some (vI x4), none, none, none, none] [] S r S' := by
  unfold EV
  refine ev_bk 2 (S' := (211, [some (.ref a0), some (vI x1), some (vI x2), some (vI x3), some (vI x4), none, none, none, none], [vI x2, vI x3], hp S, 0, 0)) rfl ?_
  refine mv_icmp 239 rfl rfl (fun c => ?_) (fun c => ?_)
  · have F := F.1 c
    refine ev_bk 3 (S' := (245, [some (.ref a0), some (vI x1), some (vI x2), some (vI x3), some (vI x4), none, none, none, none], [vI 15, vI x4, vI x4], hp S, 0, 0)) rfl ?_
    refine mv_iushr 32768 rfl rfl ?_
    refine mv_ixor rfl ?_
    refine ev_bk 1 (S' := (249, [some (.ref a0), some (vI x1), some (vI x2), some (vI x3), some (vI x4), none, none, none, none], [vI ((-2048144777)), vI (bX x4 (x4 % 4294967296 / 32768))], hp S, 0, 0)) rfl ?_
    refine mv_imul rfl ?_
    refine ev_bk 4 (S' := (258, [some (.ref a0), some (vI x1), some (vI x2), some (vI x3), some (vI ((bX x4 (x4 % 4294967296 / 32768)) * ((-2048144777)))), none, none, none, none], [vI 13, vI ((bX x4 (x4 % 4294967296 / 32768)) * ((-2048144777))), vI ((bX x4 (x4 % 4294967296 / 32768)) * ((-2048144777)))], hp S, 0, 0)) rfl ?_
    refine mv_iushr 8192 rfl rfl ?_
    refine mv_ixor rfl ?_
    refine ev_bk 1 (S' := (262, [some (.ref a0), some (vI x1), some (vI x2), some (vI x3), some (vI ((bX x4 (x4 % 4294967296 / 32768)) * ((-2048144777)))), none, none, none, none], [vI ((-1028477379)), vI (bX ((bX x4 (x4 % 4294967296 / 32768)) * ((-2048144777))) (((bX x4 (x4 % 4294967296 / 32768)) * ((-2048144777))) % 4294967296 / 8192))], hp S, 0, 0)) rfl ?_
    refine mv_imul rfl ?_
    refine ev_bk 4 (S' := (271, [some (.ref a0), some (vI x1), some (vI x2), some (vI x3), some (vI ((bX ((bX x4 (x4 % 4294967296 / 32768)) * ((-2048144777))) (((bX x4 (x4 % 4294967296 / 32768)) * ((-2048144777))) % 4294967296 / 8192)) * ((-1028477379)))), none, none, none, none], [vI 16, vI ((bX ((bX x4 (x4 % 4294967296 / 32768)) * ((-2048144777))) (((bX x4 (x4 % 4294967296 / 32768)) * ((-2048144777))) % 4294967296 / 8192)) * ((-1028477379))), vI ((bX ((bX x4 (x4 % 4294967296 / 32768)) * ((-2048144777))) (((bX x4 (x4 % 4294967296 / 32768)) * ((-2048144777))) % 4294967296 / 8192)) * ((-1028477379)))], hp S, 0, 0)) rfl ?_
    refine mv_iushr 65536 rfl rfl ?_
    refine mv_ixor rfl ?_
    obtain ⟨rfl, rfl⟩ := F
    exact ev_ret rfl rfl
  · have F := F.2 c
    refine ev_bk 3 (S' := (218, [some (.ref a0), some (vI x1), some (vI x2), some (vI x3), some (vI x4), none, none, none, none], [vI x3, .ref a0, vI x4], hp S, 0, 0)) rfl ?_
    obtain ⟨b1, F⟩ := F
    refine mv_ial rfl (ha0) b1 ?_
    refine ev_bk 1 (S' := (221, [some (.ref a0), some (vI x1), some (vI x2), some (vI x3), some (vI x4), none, none, none, none], [vI 374761393, vI (S.1 a0 (w32 x3)), vI x4], hp S, 0, 0)) rfl ?_
    refine mv_imul rfl ?_
    refine mv_iadd rfl ?_
    refine ev_bk 1 (S' := (225, [some (.ref a0), some (vI x1), some (vI x2), some (vI x3), some (vI x4), none, none, none, none], [vI 11, vI (x4 + ((S.1 a0 (w32 x3)) * 374761393))], hp S, 0, 0)) rfl ?_
    obtain ⟨z4, S2, e3, F⟩ := F
    refine mv_cals (as := [vI (x4 + ((S.1 a0 (w32 x3)) * 374761393)), vI 11]) (rest := []) e3 rfl rfl rfl ⟨rfl, rfl, rfl⟩ rfl rfl rfl rfl ?_
    refine ev_bk 1 (S' := (230, [some (.ref a0), some (vI x1), some (vI x2), some (vI x3), some (vI x4), none, none, none, none], [vI ((-1640531535)), vI z4], hp S2, 0, 0)) rfl ?_
    refine mv_imul rfl ?_
    refine ev_bk 1 (S' := (233, [some (.ref a0), some (vI x1), some (vI x2), some (vI x3), some (vI (z4 * ((-1640531535)))), none, none, none, none], [], hp S2, 0, 0)) rfl ?_
    refine mv_inc (lv' := [some (.ref a0), some (vI x1), some (vI x2), some (vI (x3 + 1)), some (vI (z4 * ((-1640531535)))), none, none, none, none]) 3 1 rfl rfl rfl rfl ?_
    refine mv_goto 209 rfl rfl ?_
    exact F
theorem vc_Row_word {q : Nat × (Nat → Int32)} {S S' : ms} {r : Option Value} (x1 : Int) (a0 na0 : Nat) (ha0 : SH a0 = (0, na0, []))
    (F : (0 ≤ w32 x1 ∧ w32 x1 < (na0 : Nat)) ∧ (0 ≤ w32 (x1 + 1) ∧ w32 (x1 + 1) < (na0 : Nat)) ∧ (0 ≤ w32 (x1 + 2) ∧ w32 (x1 + 2) < (na0 : Nat)) ∧ (0 ≤ w32 (x1 + 3) ∧ w32 (x1 + 3) < (na0 : Nat)) ∧ r = some (vI (bO (bO (bO (S.1 a0 (w32 x1)) ((S.1 a0 (w32 (x1 + 1))) * 256)) ((S.1 a0 (w32 (x1 + 2))) * 65536)) ((S.1 a0 (w32 (x1 + 3))) * 16777216))) ∧ S' = S) : EV q 31 0 [some (.ref a0), some (vI x1)] [] S r S' := by
  unfold EV
  refine ev_bk 2 (S' := (2, [some (.ref a0), some (vI x1)], [vI x1, .ref a0], hp S, 0, 0)) rfl ?_
  obtain ⟨b1, F⟩ := F
  refine mv_ial rfl (ha0) b1 ?_
  refine ev_bk 3 (S' := (6, [some (.ref a0), some (vI x1)], [vI 1, vI x1, .ref a0, vI (S.1 a0 (w32 x1))], hp S, 0, 0)) rfl ?_
  refine mv_iadd rfl ?_
  obtain ⟨b2, F⟩ := F
  refine mv_ial rfl (ha0) b2 ?_
  refine ev_bk 1 (S' := (10, [some (.ref a0), some (vI x1)], [vI 8, vI (S.1 a0 (w32 (x1 + 1))), vI (S.1 a0 (w32 x1))], hp S, 0, 0)) rfl ?_
  refine mv_ishl 256 rfl rfl ?_
  refine mv_ior rfl ?_
  refine ev_bk 3 (S' := (15, [some (.ref a0), some (vI x1)], [vI 2, vI x1, .ref a0, vI (bO (S.1 a0 (w32 x1)) ((S.1 a0 (w32 (x1 + 1))) * 256))], hp S, 0, 0)) rfl ?_
  refine mv_iadd rfl ?_
  obtain ⟨b3, F⟩ := F
  refine mv_ial rfl (ha0) b3 ?_
  refine ev_bk 1 (S' := (19, [some (.ref a0), some (vI x1)], [vI 16, vI (S.1 a0 (w32 (x1 + 2))), vI (bO (S.1 a0 (w32 x1)) ((S.1 a0 (w32 (x1 + 1))) * 256))], hp S, 0, 0)) rfl ?_
  refine mv_ishl 65536 rfl rfl ?_
  refine mv_ior rfl ?_
  refine ev_bk 3 (S' := (24, [some (.ref a0), some (vI x1)], [vI 3, vI x1, .ref a0, vI (bO (bO (S.1 a0 (w32 x1)) ((S.1 a0 (w32 (x1 + 1))) * 256)) ((S.1 a0 (w32 (x1 + 2))) * 65536))], hp S, 0, 0)) rfl ?_
  refine mv_iadd rfl ?_
  obtain ⟨b4, F⟩ := F
  refine mv_ial rfl (ha0) b4 ?_
  refine ev_bk 1 (S' := (28, [some (.ref a0), some (vI x1)], [vI 24, vI (S.1 a0 (w32 (x1 + 3))), vI (bO (bO (S.1 a0 (w32 x1)) ((S.1 a0 (w32 (x1 + 1))) * 256)) ((S.1 a0 (w32 (x1 + 2))) * 65536))], hp S, 0, 0)) rfl ?_
  refine mv_ishl 16777216 rfl rfl ?_
  refine mv_ior rfl ?_
  obtain ⟨rfl, rfl⟩ := F
  exact ev_ret rfl rfl
theorem vc_Row_rotated {q : Nat × (Nat → Int32)} {S S' : ms} {r : Option Value} (x0 x1 : Int)
    (F : r = some (vI (bO (x0 * ((2 : Int) ^ (x1 % 32).toNat)) (x0 % 4294967296 / ((2 : Int) ^ ((32 - x1) % 32).toNat)))) ∧ S' = S) : EV q 32 0 [some (vI x0), some (vI x1)] [] S r S' := by
  unfold EV
  refine ev_bk 2 (S' := (2, [some (vI x0), some (vI x1)], [vI x1, vI x0], hp S, 0, 0)) rfl ?_
  refine mv_ishl ((2 : Int) ^ (x1 % 32).toNat) rfl rfl ?_
  refine ev_bk 3 (S' := (7, [some (vI x0), some (vI x1)], [vI x1, vI 32, vI x0, vI (x0 * ((2 : Int) ^ (x1 % 32).toNat))], hp S, 0, 0)) rfl ?_
  refine mv_isub rfl ?_
  refine mv_iushr ((2 : Int) ^ ((32 - x1) % 32).toNat) rfl rfl ?_
  refine mv_ior rfl ?_
  obtain ⟨rfl, rfl⟩ := F
  exact ev_ret rfl rfl
theorem vc_Row_clear {q : Nat × (Nat → Int32)} {S S' : ms} {r : Option Value} (a0 na0 : Nat) (ha0 : isRow a0 na0)
    (F : ∀ S1 : ms, S1 = wI S a0 1 0 → ∀ S2 : ms, S2 = wI S1 a0 2 0 → ∀ S3 : ms, S3 = wI S2 a0 3 0 → r = none ∧ S' = S3) : EV q 37 0 [some (.ref a0)] [] S r S' := by
  unfold EV
  refine ev_bk 2 (S' := (2, [some (.ref a0)], [vI 0, .ref a0], hp S, 0, 0)) rfl ?_
  refine mv_pfI rfl rfl (ha0.1) (by decide) rfl rfl ?_
  have F := F _ rfl
  refine ev_bk 2 (S' := (7, [some (.ref a0)], [vI 0, .ref a0], hp (wI S a0 1 0), 0, 0)) rfl ?_
  refine mv_pfI rfl rfl (ha0.1) (by decide) rfl rfl ?_
  have F := F _ rfl
  refine ev_bk 2 (S' := (12, [some (.ref a0)], [vI 0, .ref a0], hp (wI (wI S a0 1 0) a0 2 0), 0, 0)) rfl ?_
  refine mv_pfI rfl rfl (ha0.1) (by decide) rfl rfl ?_
  have F := F _ rfl
  obtain ⟨rfl, rfl⟩ := F
  exact ev_ret rfl rfl
theorem vc_Row_addSpan {q : Nat × (Nat → Int32)} {S S' : ms} {r : Option Value} (x2 x3 : Int) (a0 na0 : Nat) (ha0 : isRow a0 na0) (a1 na1 : Nat) (ha1 : SH a1 = (0, na1, []))
    (F : ((w32 x2 < 0) → r = none ∧ S' = S) ∧ ((¬ w32 x2 < 0) → ((0 < w32 ((min (w32 x3) (w32 ((na1 : Nat)))) - x2)) → ((w32 ((min (w32 x3) (w32 ((na1 : Nat)))) - x2) ≤ w32 (((na0 : Nat)) - (S.1 a0 1))) → (0 ≤ w32 x2 ∧ 0 ≤ w32 (S.1 a0 1) ∧ 0 ≤ w32 ((min (w32 x3) (w32 ((na1 : Nat)))) - x2) ∧ w32 (S.1 a0 1) + w32 ((min (w32 x3) (w32 ((na1 : Nat)))) - x2) ≤ (na0 : Nat) ∧ w32 x2 + w32 ((min (w32 x3) (w32 ((na1 : Nat)))) - x2) ≤ (na1 : Nat)) ∧ ∀ S2 : ms, S2 = wC S (a0 + 1) (w32 (S.1 a0 1)) (w32 ((min (w32 x3) (w32 ((na1 : Nat)))) - x2)) (fun k => S.1 a1 (w32 x2 + k)) → ∀ S3 : ms, S3 = wI S2 a0 1 (S2.1 a0 1 + ((min (w32 x3) (w32 ((na1 : Nat)))) - x2)) → r = none ∧ S' = S3) ∧ ((¬ w32 ((min (w32 x3) (w32 ((na1 : Nat)))) - x2) ≤ w32 (((na0 : Nat)) - (S.1 a0 1))) → ∀ S4 : ms, S4 = wI S a0 2 1 → r = none ∧ S' = S4)) ∧ ((¬ 0 < w32 ((min (w32 x3) (w32 ((na1 : Nat)))) - x2)) → r = none ∧ S' = S))) : EV q 38 0 [some (.ref a0), some (.ref a1), some (vI x2), some (vI x3), none] [] S r S' := by
  unfold EV
  refine ev_bk 2 (S' := (2, [some (.ref a0), some (.ref a1), some (vI x2), some (vI x3), none], [.ref a1, vI x3], hp S, 0, 0)) rfl ?_
  refine mv_len rfl (ha1) (by decide) ?_
  refine mv_min rfl rfl rfl ?_
  refine ev_bk 1 (S' := (7, [some (.ref a0), some (.ref a1), some (vI x2), some (vI x3), none], [vI x2, vI (min (w32 x3) (w32 ((na1 : Nat))))], hp S, 0, 0)) rfl ?_
  refine mv_isub rfl ?_
  refine ev_bk 2 (S' := (11, [some (.ref a0), some (.ref a1), some (vI x2), some (vI x3), some (vI ((min (w32 x3) (w32 ((na1 : Nat)))) - x2))], [vI x2], hp S, 0, 0)) rfl ?_
  refine mv_if 19 rfl rfl (fun c => ?_) (fun c => ?_)
  · have F := F.1 c
    obtain ⟨rfl, rfl⟩ := F
    exact ev_ret rfl rfl
  · have F := F.2 c
    refine ev_bk 1 (S' := (16, [some (.ref a0), some (.ref a1), some (vI x2), some (vI x3), some (vI ((min (w32 x3) (w32 ((na1 : Nat)))) - x2))], [vI ((min (w32 x3) (w32 ((na1 : Nat)))) - x2)], hp S, 0, 0)) rfl ?_
    refine mv_if 20 rfl rfl (fun c => ?_) (fun c => ?_)
    · have F := F.1 c
      refine ev_bk 2 (S' := (23, [some (.ref a0), some (.ref a1), some (vI x2), some (vI x3), some (vI ((min (w32 x3) (w32 ((na1 : Nat)))) - x2))], [.ref a0, vI ((min (w32 x3) (w32 ((na1 : Nat)))) - x2)], hp S, 0, 0)) rfl ?_
      refine mv_gfR rfl rfl (ha0.1) (by decide) rfl ?_
      refine mv_len rfl (ha0.2) (by decide) ?_
      refine ev_bk 1 (S' := (28, [some (.ref a0), some (.ref a1), some (vI x2), some (vI x3), some (vI ((min (w32 x3) (w32 ((na1 : Nat)))) - x2))], [.ref a0, vI ((na0 : Nat)), vI ((min (w32 x3) (w32 ((na1 : Nat)))) - x2)], hp S, 0, 0)) rfl ?_
      refine mv_gfI rfl rfl (ha0.1) (by decide) rfl ?_
      refine mv_isub rfl ?_
      refine mv_icmp 41 rfl rfl (fun c => ?_) (fun c => ?_)
      · have F := F.1 c
        refine ev_bk 3 (S' := (44, [some (.ref a0), some (.ref a1), some (vI x2), some (vI x3), some (vI ((min (w32 x3) (w32 ((na1 : Nat)))) - x2))], [.ref a0, vI x2, .ref a1], hp S, 0, 0)) rfl ?_
        refine mv_gfR rfl rfl (ha0.1) (by decide) rfl ?_
        refine ev_bk 1 (S' := (48, [some (.ref a0), some (.ref a1), some (vI x2), some (vI x3), some (vI ((min (w32 x3) (w32 ((na1 : Nat)))) - x2))], [.ref a0, .ref (a0 + 1), vI x2, .ref a1], hp S, 0, 0)) rfl ?_
        refine mv_gfI rfl rfl (ha0.1) (by decide) rfl ?_
        refine ev_bk 1 (S' := (53, [some (.ref a0), some (.ref a1), some (vI x2), some (vI x3), some (vI ((min (w32 x3) (w32 ((na1 : Nat)))) - x2))], [vI ((min (w32 x3) (w32 ((na1 : Nat)))) - x2), vI (S.1 a0 1), .ref (a0 + 1), vI x2, .ref a1], hp S, 0, 0)) rfl ?_
        obtain ⟨b1, F⟩ := F
        refine mv_cpy rfl rfl ⟨by decide, by decide⟩ (ha0.2) (ha1) b1 ?_
        have F := F _ rfl
        refine ev_bk 2 (S' := (58, [some (.ref a0), some (.ref a1), some (vI x2), some (vI x3), some (vI ((min (w32 x3) (w32 ((na1 : Nat)))) - x2))], [.ref a0, .ref a0], hp (wC S (a0 + 1) (w32 (S.1 a0 1)) (w32 ((min (w32 x3) (w32 ((na1 : Nat)))) - x2)) (fun k => S.1 a1 (w32 x2 + k))), 0, 0)) rfl ?_
        refine mv_gfI rfl rfl (ha0.1) (by decide) rfl ?_
        refine ev_bk 1 (S' := (63, [some (.ref a0), some (.ref a1), some (vI x2), some (vI x3), some (vI ((min (w32 x3) (w32 ((na1 : Nat)))) - x2))], [vI ((min (w32 x3) (w32 ((na1 : Nat)))) - x2), vI ((wC S (a0 + 1) (w32 (S.1 a0 1)) (w32 ((min (w32 x3) (w32 ((na1 : Nat)))) - x2)) (fun k => S.1 a1 (w32 x2 + k))).1 a0 1), .ref a0], hp (wC S (a0 + 1) (w32 (S.1 a0 1)) (w32 ((min (w32 x3) (w32 ((na1 : Nat)))) - x2)) (fun k => S.1 a1 (w32 x2 + k))), 0, 0)) rfl ?_
        refine mv_iadd rfl ?_
        refine mv_pfI rfl rfl (ha0.1) (by decide) rfl rfl ?_
        have F := F _ rfl
        obtain ⟨rfl, rfl⟩ := F
        exact ev_ret rfl rfl
      · have F := F.2 c
        refine ev_bk 2 (S' := (37, [some (.ref a0), some (.ref a1), some (vI x2), some (vI x3), some (vI ((min (w32 x3) (w32 ((na1 : Nat)))) - x2))], [vI 1, .ref a0], hp S, 0, 0)) rfl ?_
        refine mv_pfI rfl rfl (ha0.1) (by decide) rfl rfl ?_
        have F := F _ rfl
        obtain ⟨rfl, rfl⟩ := F
        exact ev_ret rfl rfl
    · have F := F.2 c
      obtain ⟨rfl, rfl⟩ := F
      exact ev_ret rfl rfl
theorem vc_Row_addSpan_s8 {q : Nat × (Nat → Int32)} {S S' : ms} {r : Option Value} (x2 x3 : Int) (a0 na0 : Nat) (ha0 : isRow a0 na0)
    (F : ((w32 x2 < 0) → r = none ∧ S' = S) ∧ ((¬ w32 x2 < 0) → ((0 < w32 ((min (w32 x3) (w32 8)) - x2)) → ((w32 ((min (w32 x3) (w32 8)) - x2) ≤ w32 (((na0 : Nat)) - (S.1 a0 1))) → (0 ≤ w32 x2 ∧ 0 ≤ w32 (S.1 a0 1) ∧ 0 ≤ w32 ((min (w32 x3) (w32 8)) - x2) ∧ w32 (S.1 a0 1) + w32 ((min (w32 x3) (w32 8)) - x2) ≤ (na0 : Nat) ∧ w32 x2 + w32 ((min (w32 x3) (w32 8)) - x2) ≤ (8 : Nat)) ∧ ∀ S2 : ms, S2 = wC S (a0 + 1) (w32 (S.1 a0 1)) (w32 ((min (w32 x3) (w32 8)) - x2)) (fun k => sS 8 (w32 x2 + k)) → ∀ S3 : ms, S3 = wI S2 a0 1 (S2.1 a0 1 + ((min (w32 x3) (w32 8)) - x2)) → r = none ∧ S' = S3) ∧ ((¬ w32 ((min (w32 x3) (w32 8)) - x2) ≤ w32 (((na0 : Nat)) - (S.1 a0 1))) → ∀ S4 : ms, S4 = wI S a0 2 1 → r = none ∧ S' = S4)) ∧ ((¬ 0 < w32 ((min (w32 x3) (w32 8)) - x2)) → r = none ∧ S' = S))) : EV q 38 0 [some (.ref a0), some (.ref (en_b + 8)), some (vI x2), some (vI x3), none] [] S r S' := by
  unfold EV
  refine ev_bk 2 (S' := (2, [some (.ref a0), some (.ref (en_b + 8)), some (vI x2), some (vI x3), none], [.ref (en_b + 8), vI x3], hp S, 0, 0)) rfl ?_
  refine mv_slen (k := 8) rfl rfl (by decide) ?_
  refine mv_min rfl rfl rfl ?_
  refine ev_bk 1 (S' := (7, [some (.ref a0), some (.ref (en_b + 8)), some (vI x2), some (vI x3), none], [vI x2, vI (min (w32 x3) (w32 8))], hp S, 0, 0)) rfl ?_
  refine mv_isub rfl ?_
  refine ev_bk 2 (S' := (11, [some (.ref a0), some (.ref (en_b + 8)), some (vI x2), some (vI x3), some (vI ((min (w32 x3) (w32 8)) - x2))], [vI x2], hp S, 0, 0)) rfl ?_
  refine mv_if 19 rfl rfl (fun c => ?_) (fun c => ?_)
  · have F := F.1 c
    obtain ⟨rfl, rfl⟩ := F
    exact ev_ret rfl rfl
  · have F := F.2 c
    refine ev_bk 1 (S' := (16, [some (.ref a0), some (.ref (en_b + 8)), some (vI x2), some (vI x3), some (vI ((min (w32 x3) (w32 8)) - x2))], [vI ((min (w32 x3) (w32 8)) - x2)], hp S, 0, 0)) rfl ?_
    refine mv_if 20 rfl rfl (fun c => ?_) (fun c => ?_)
    · have F := F.1 c
      refine ev_bk 2 (S' := (23, [some (.ref a0), some (.ref (en_b + 8)), some (vI x2), some (vI x3), some (vI ((min (w32 x3) (w32 8)) - x2))], [.ref a0, vI ((min (w32 x3) (w32 8)) - x2)], hp S, 0, 0)) rfl ?_
      refine mv_gfR rfl rfl (ha0.1) (by decide) rfl ?_
      refine mv_len rfl (ha0.2) (by decide) ?_
      refine ev_bk 1 (S' := (28, [some (.ref a0), some (.ref (en_b + 8)), some (vI x2), some (vI x3), some (vI ((min (w32 x3) (w32 8)) - x2))], [.ref a0, vI ((na0 : Nat)), vI ((min (w32 x3) (w32 8)) - x2)], hp S, 0, 0)) rfl ?_
      refine mv_gfI rfl rfl (ha0.1) (by decide) rfl ?_
      refine mv_isub rfl ?_
      refine mv_icmp 41 rfl rfl (fun c => ?_) (fun c => ?_)
      · have F := F.1 c
        refine ev_bk 3 (S' := (44, [some (.ref a0), some (.ref (en_b + 8)), some (vI x2), some (vI x3), some (vI ((min (w32 x3) (w32 8)) - x2))], [.ref a0, vI x2, .ref (en_b + 8)], hp S, 0, 0)) rfl ?_
        refine mv_gfR rfl rfl (ha0.1) (by decide) rfl ?_
        refine ev_bk 1 (S' := (48, [some (.ref a0), some (.ref (en_b + 8)), some (vI x2), some (vI x3), some (vI ((min (w32 x3) (w32 8)) - x2))], [.ref a0, .ref (a0 + 1), vI x2, .ref (en_b + 8)], hp S, 0, 0)) rfl ?_
        refine mv_gfI rfl rfl (ha0.1) (by decide) rfl ?_
        refine ev_bk 1 (S' := (53, [some (.ref a0), some (.ref (en_b + 8)), some (vI x2), some (vI x3), some (vI ((min (w32 x3) (w32 8)) - x2))], [vI ((min (w32 x3) (w32 8)) - x2), vI (S.1 a0 1), .ref (a0 + 1), vI x2, .ref (en_b + 8)], hp S, 0, 0)) rfl ?_
        obtain ⟨b1, F⟩ := F
        refine mv_scpy (k0 := 8) rfl rfl ⟨by decide, by decide⟩ (ha0.2) rfl (by decide) b1 ?_
        have F := F _ rfl
        refine ev_bk 2 (S' := (58, [some (.ref a0), some (.ref (en_b + 8)), some (vI x2), some (vI x3), some (vI ((min (w32 x3) (w32 8)) - x2))], [.ref a0, .ref a0], hp (wC S (a0 + 1) (w32 (S.1 a0 1)) (w32 ((min (w32 x3) (w32 8)) - x2)) (fun k => sS 8 (w32 x2 + k))), 0, 0)) rfl ?_
        refine mv_gfI rfl rfl (ha0.1) (by decide) rfl ?_
        refine ev_bk 1 (S' := (63, [some (.ref a0), some (.ref (en_b + 8)), some (vI x2), some (vI x3), some (vI ((min (w32 x3) (w32 8)) - x2))], [vI ((min (w32 x3) (w32 8)) - x2), vI ((wC S (a0 + 1) (w32 (S.1 a0 1)) (w32 ((min (w32 x3) (w32 8)) - x2)) (fun k => sS 8 (w32 x2 + k))).1 a0 1), .ref a0], hp (wC S (a0 + 1) (w32 (S.1 a0 1)) (w32 ((min (w32 x3) (w32 8)) - x2)) (fun k => sS 8 (w32 x2 + k))), 0, 0)) rfl ?_
        refine mv_iadd rfl ?_
        refine mv_pfI rfl rfl (ha0.1) (by decide) rfl rfl ?_
        have F := F _ rfl
        obtain ⟨rfl, rfl⟩ := F
        exact ev_ret rfl rfl
      · have F := F.2 c
        refine ev_bk 2 (S' := (37, [some (.ref a0), some (.ref (en_b + 8)), some (vI x2), some (vI x3), some (vI ((min (w32 x3) (w32 8)) - x2))], [vI 1, .ref a0], hp S, 0, 0)) rfl ?_
        refine mv_pfI rfl rfl (ha0.1) (by decide) rfl rfl ?_
        have F := F _ rfl
        obtain ⟨rfl, rfl⟩ := F
        exact ev_ret rfl rfl
    · have F := F.2 c
      obtain ⟨rfl, rfl⟩ := F
      exact ev_ret rfl rfl
theorem vc_Row_lowBits {q : Nat × (Nat → Int32)} {S S' : ms} {r : Option Value} (x1 x2 : Int) (a0 na0 : Nat) (ha0 : isRow a0 na0)
    (F : EV q 49 8 [some (.ref a0), some (vI x1), some (vI x2), some (vI x1), some (vI x2), some (vI 0), none, none] [] S r S') : EV q 49 0 [some (.ref a0), some (vI x1), some (vI x2), none, none, none, none, none] [] S r S' := by
  unfold EV
  refine ev_bk 6 (S' := (8, [some (.ref a0), some (vI x1), some (vI x2), some (vI x1), some (vI x2), some (vI 0), none, none], [], hp S, 0, 0)) rfl ?_
  exact F
theorem vc_Row_lowBits_8 {q : Nat × (Nat → Int32)} {S S' : ms} {r : Option Value} (x1 x2 x3 x4 x5 : Int) (a0 na0 : Nat) (ha0 : isRow a0 na0)
    (F : ((32 ≤ w32 x5) → r = none ∧ S' = S) ∧ ((¬ 32 ≤ w32 x5) → ((w32 x4 ≤ 0) → r = none ∧ S' = S) ∧ ((¬ w32 x4 ≤ 0) → ((¬ w32 (S.1 a0 3) = 0) → EV q 49 38 [some (.ref a0), some (vI x1), some (vI x2), some (vI x3), some (vI x4), some (vI x5), none, none] [] S r S') ∧ ((¬ (¬ w32 (S.1 a0 3) = 0)) → ∃ (S1 : ms), EV q 19 0 [some (.ref a0), some (vI 0)] [] S none S1 ∧ ∀ S3 : ms, S3 = wI S1 a0 3 8 → EV q 49 38 [some (.ref a0), some (vI x1), some (vI x2), some (vI x3), some (vI x4), some (vI x5), none, none] [] S3 r S')))) : EV q 49 8 [some (.ref a0), some (vI x1), some (vI x2), some (vI x3), some (vI x4), some (vI x5), none, none] [] S r S' := by
  unfold EV
  refine ev_bk 2 (S' := (12, [some (.ref a0), some (vI x1), some (vI x2), some (vI x3), some (vI x4), some (vI x5), none, none], [vI 32, vI x5], hp S, 0, 0)) rfl ?_
  refine mv_icmp 126 rfl rfl (fun c => ?_) (fun c => ?_)
  · have F := F.1 c
    obtain ⟨rfl, rfl⟩ := F
    exact ev_ret rfl rfl
  · have F := F.2 c
    refine ev_bk 1 (S' := (17, [some (.ref a0), some (vI x1), some (vI x2), some (vI x3), some (vI x4), some (vI x5), none, none], [vI x4], hp S, 0, 0)) rfl ?_
    refine mv_if 126 rfl rfl (fun c => ?_) (fun c => ?_)
    · have F := F.1 c
      obtain ⟨rfl, rfl⟩ := F
      exact ev_ret rfl rfl
    · have F := F.2 c
      refine ev_bk 1 (S' := (21, [some (.ref a0), some (vI x1), some (vI x2), some (vI x3), some (vI x4), some (vI x5), none, none], [.ref a0], hp S, 0, 0)) rfl ?_
      refine mv_gfI rfl rfl (ha0.1) (by decide) rfl ?_
      refine mv_if 38 rfl rfl (fun c => ?_) (fun c => ?_)
      · have F := F.1 c
        exact F
      · have F := F.2 c
        refine ev_bk 2 (S' := (29, [some (.ref a0), some (vI x1), some (vI x2), some (vI x3), some (vI x4), some (vI x5), none, none], [vI 0, .ref a0], hp S, 0, 0)) rfl ?_
        obtain ⟨S1, e2, F⟩ := F
        refine mv_calv (as := [vI 0]) (rest := []) e2 (ha0.1) rfl rfl rfl ⟨rfl, rfl⟩ rfl rfl rfl rfl rfl ?_
        refine ev_bk 2 (S' := (35, [some (.ref a0), some (vI x1), some (vI x2), some (vI x3), some (vI x4), some (vI x5), none, none], [vI 8, .ref a0], hp S1, 0, 0)) rfl ?_
        refine mv_pfI rfl rfl (ha0.1) (by decide) rfl rfl ?_
        have F := F _ rfl
        exact F
theorem vc_Row_lowBits_38 {q : Nat × (Nat → Int32)} {S S' : ms} {r : Option Value} (x1 x2 x3 x4 x5 : Int) (a0 na0 : Nat) (ha0 : isRow a0 na0)
    (F : ((w32 (S.1 a0 1) ≤ 0) → EV q 49 97 [some (.ref a0), some (vI x1), some (vI x2), some (vI x3), some (vI x4), some (vI x5), some (vI (min (w32 (S.1 a0 3)) (w32 x4))), some (vI (bA x3 ((1 * ((2 : Int) ^ ((min (w32 (S.1 a0 3)) (w32 x4)) % 32).toNat)) - 1)))] [] S r S') ∧ ((¬ w32 (S.1 a0 1) ≤ 0) → ((¬ w32 (S.1 a0 2) = 0) → EV q 49 97 [some (.ref a0), some (vI x1), some (vI x2), some (vI x3), some (vI x4), some (vI x5), some (vI (min (w32 (S.1 a0 3)) (w32 x4))), some (vI (bA x3 ((1 * ((2 : Int) ^ ((min (w32 (S.1 a0 3)) (w32 x4)) % 32).toNat)) - 1)))] [] S r S') ∧ ((¬ (¬ w32 (S.1 a0 2) = 0)) → (0 ≤ w32 ((S.1 a0 1) - 1) ∧ w32 ((S.1 a0 1) - 1) < (na0 : Nat)) ∧ (0 ≤ w32 ((S.1 a0 1) - 1) ∧ w32 ((S.1 a0 1) - 1) < (na0 : Nat)) ∧ ∀ S3 : ms, S3 = wI S (a0 + 1) (w32 ((S.1 a0 1) - 1)) (bO (S.1 (a0 + 1) (w32 ((S.1 a0 1) - 1))) ((bA x3 ((1 * ((2 : Int) ^ ((min (w32 (S.1 a0 3)) (w32 x4)) % 32).toNat)) - 1)) * ((2 : Int) ^ ((8 - (S.1 a0 3)) % 32).toNat))) → EV q 49 97 [some (.ref a0), some (vI x1), some (vI x2), some (vI x3), some (vI x4), some (vI x5), some (vI (min (w32 (S.1 a0 3)) (w32 x4))), some (vI (bA x3 ((1 * ((2 : Int) ^ ((min (w32 (S.1 a0 3)) (w32 x4)) % 32).toNat)) - 1)))] [] S3 r S'))) : EV q 49 38 [some (.ref a0), some (vI x1), some (vI x2), some (vI x3), some (vI x4), some (vI x5), none, none] [] S r S' := by
  unfold EV
  refine ev_bk 1 (S' := (39, [some (.ref a0), some (vI x1), some (vI x2), some (vI x3), some (vI x4), some (vI x5), none, none], [.ref a0], hp S, 0, 0)) rfl ?_
  refine mv_gfI rfl rfl (ha0.1) (by decide) rfl ?_
  refine ev_bk 1 (S' := (44, [some (.ref a0), some (vI x1), some (vI x2), some (vI x3), some (vI x4), some (vI x5), none, none], [vI x4, vI (S.1 a0 3)], hp S, 0, 0)) rfl ?_
  refine mv_min rfl rfl rfl ?_
  refine ev_bk 4 (S' := (53, [some (.ref a0), some (vI x1), some (vI x2), some (vI x3), some (vI x4), some (vI x5), some (vI (min (w32 (S.1 a0 3)) (w32 x4))), none], [vI (min (w32 (S.1 a0 3)) (w32 x4)), vI 1, vI x3], hp S, 0, 0)) rfl ?_
  refine mv_ishl ((2 : Int) ^ ((min (w32 (S.1 a0 3)) (w32 x4)) % 32).toNat) rfl rfl ?_
  refine ev_bk 1 (S' := (55, [some (.ref a0), some (vI x1), some (vI x2), some (vI x3), some (vI x4), some (vI x5), some (vI (min (w32 (S.1 a0 3)) (w32 x4))), none], [vI 1, vI (1 * ((2 : Int) ^ ((min (w32 (S.1 a0 3)) (w32 x4)) % 32).toNat)), vI x3], hp S, 0, 0)) rfl ?_
  refine mv_isub rfl ?_
  refine mv_iand rfl ?_
  refine ev_bk 2 (S' := (60, [some (.ref a0), some (vI x1), some (vI x2), some (vI x3), some (vI x4), some (vI x5), some (vI (min (w32 (S.1 a0 3)) (w32 x4))), some (vI (bA x3 ((1 * ((2 : Int) ^ ((min (w32 (S.1 a0 3)) (w32 x4)) % 32).toNat)) - 1)))], [.ref a0], hp S, 0, 0)) rfl ?_
  refine mv_gfI rfl rfl (ha0.1) (by decide) rfl ?_
  refine mv_if 97 rfl rfl (fun c => ?_) (fun c => ?_)
  · have F := F.1 c
    exact F
  · have F := F.2 c
    refine ev_bk 1 (S' := (67, [some (.ref a0), some (vI x1), some (vI x2), some (vI x3), some (vI x4), some (vI x5), some (vI (min (w32 (S.1 a0 3)) (w32 x4))), some (vI (bA x3 ((1 * ((2 : Int) ^ ((min (w32 (S.1 a0 3)) (w32 x4)) % 32).toNat)) - 1)))], [.ref a0], hp S, 0, 0)) rfl ?_
    refine mv_gfI rfl rfl (ha0.1) (by decide) rfl ?_
    refine mv_if 97 rfl rfl (fun c => ?_) (fun c => ?_)
    · have F := F.1 c
      exact F
    · have F := F.2 c
      refine ev_bk 1 (S' := (74, [some (.ref a0), some (vI x1), some (vI x2), some (vI x3), some (vI x4), some (vI x5), some (vI (min (w32 (S.1 a0 3)) (w32 x4))), some (vI (bA x3 ((1 * ((2 : Int) ^ ((min (w32 (S.1 a0 3)) (w32 x4)) % 32).toNat)) - 1)))], [.ref a0], hp S, 0, 0)) rfl ?_
      refine mv_gfR rfl rfl (ha0.1) (by decide) rfl ?_
      refine ev_bk 1 (S' := (78, [some (.ref a0), some (vI x1), some (vI x2), some (vI x3), some (vI x4), some (vI x5), some (vI (min (w32 (S.1 a0 3)) (w32 x4))), some (vI (bA x3 ((1 * ((2 : Int) ^ ((min (w32 (S.1 a0 3)) (w32 x4)) % 32).toNat)) - 1)))], [.ref a0, .ref (a0 + 1)], hp S, 0, 0)) rfl ?_
      refine mv_gfI rfl rfl (ha0.1) (by decide) rfl ?_
      refine ev_bk 1 (S' := (82, [some (.ref a0), some (vI x1), some (vI x2), some (vI x3), some (vI x4), some (vI x5), some (vI (min (w32 (S.1 a0 3)) (w32 x4))), some (vI (bA x3 ((1 * ((2 : Int) ^ ((min (w32 (S.1 a0 3)) (w32 x4)) % 32).toNat)) - 1)))], [vI 1, vI (S.1 a0 1), .ref (a0 + 1)], hp S, 0, 0)) rfl ?_
      refine mv_isub rfl ?_
      refine ev_bk 1 (S' := (84, [some (.ref a0), some (vI x1), some (vI x2), some (vI x3), some (vI x4), some (vI x5), some (vI (min (w32 (S.1 a0 3)) (w32 x4))), some (vI (bA x3 ((1 * ((2 : Int) ^ ((min (w32 (S.1 a0 3)) (w32 x4)) % 32).toNat)) - 1)))], [vI ((S.1 a0 1) - 1), .ref (a0 + 1), vI ((S.1 a0 1) - 1), .ref (a0 + 1)], hp S, 0, 0)) rfl ?_
      obtain ⟨b1, F⟩ := F
      refine mv_ial rfl (ha0.2) b1 ?_
      refine ev_bk 3 (S' := (90, [some (.ref a0), some (vI x1), some (vI x2), some (vI x3), some (vI x4), some (vI x5), some (vI (min (w32 (S.1 a0 3)) (w32 x4))), some (vI (bA x3 ((1 * ((2 : Int) ^ ((min (w32 (S.1 a0 3)) (w32 x4)) % 32).toNat)) - 1)))], [.ref a0, vI 8, vI (bA x3 ((1 * ((2 : Int) ^ ((min (w32 (S.1 a0 3)) (w32 x4)) % 32).toNat)) - 1)), vI (S.1 (a0 + 1) (w32 ((S.1 a0 1) - 1))), vI ((S.1 a0 1) - 1), .ref (a0 + 1)], hp S, 0, 0)) rfl ?_
      refine mv_gfI rfl rfl (ha0.1) (by decide) rfl ?_
      refine mv_isub rfl ?_
      refine mv_ishl ((2 : Int) ^ ((8 - (S.1 a0 3)) % 32).toNat) rfl rfl ?_
      refine mv_ior rfl ?_
      obtain ⟨b2, F⟩ := F
      refine mv_ias rfl (ha0.2) b2 ?_
      have F := F _ rfl
      exact F
theorem vc_Row_lowBits_97 {q : Nat × (Nat → Int32)} {S S' : ms} {r : Option Value} (x1 x2 x3 x4 x5 x6 x7 : Int) (a0 na0 : Nat) (ha0 : isRow a0 na0)
    (F : ∀ S1 : ms, S1 = wI S a0 3 ((S.1 a0 3) - x6) → EV q 49 8 [some (.ref a0), some (vI x1), some (vI x2), some (vI (x3 % 4294967296 / ((2 : Int) ^ (x6 % 32).toNat))), some (vI (x4 - x6)), some (vI (x5 + 1)), none, none] [] S1 r S') : EV q 49 97 [some (.ref a0), some (vI x1), some (vI x2), some (vI x3), some (vI x4), some (vI x5), some (vI x6), some (vI x7)] [] S r S' := by
  unfold EV
  refine ev_bk 2 (S' := (100, [some (.ref a0), some (vI x1), some (vI x2), some (vI x3), some (vI x4), some (vI x5), some (vI x6), some (vI x7)], [vI x6, vI x3], hp S, 0, 0)) rfl ?_
  refine mv_iushr ((2 : Int) ^ (x6 % 32).toNat) rfl rfl ?_
  refine ev_bk 3 (S' := (106, [some (.ref a0), some (vI x1), some (vI x2), some (vI (x3 % 4294967296 / ((2 : Int) ^ (x6 % 32).toNat))), some (vI x4), some (vI x5), some (vI x6), some (vI x7)], [vI x6, vI x4], hp S, 0, 0)) rfl ?_
  refine mv_isub rfl ?_
  refine ev_bk 3 (S' := (111, [some (.ref a0), some (vI x1), some (vI x2), some (vI (x3 % 4294967296 / ((2 : Int) ^ (x6 % 32).toNat))), some (vI (x4 - x6)), some (vI x5), some (vI x6), some (vI x7)], [.ref a0, .ref a0], hp S, 0, 0)) rfl ?_
  refine mv_gfI rfl rfl (ha0.1) (by decide) rfl ?_
  refine ev_bk 1 (S' := (116, [some (.ref a0), some (vI x1), some (vI x2), some (vI (x3 % 4294967296 / ((2 : Int) ^ (x6 % 32).toNat))), some (vI (x4 - x6)), some (vI x5), some (vI x6), some (vI x7)], [vI x6, vI (S.1 a0 3), .ref a0], hp S, 0, 0)) rfl ?_
  refine mv_isub rfl ?_
  refine mv_pfI rfl rfl (ha0.1) (by decide) rfl rfl ?_
  have F := F _ rfl
  refine mv_inc (lv' := [some (.ref a0), some (vI x1), some (vI x2), some (vI (x3 % 4294967296 / ((2 : Int) ^ (x6 % 32).toNat))), some (vI (x4 - x6)), some (vI (x5 + 1)), some (vI x6), some (vI x7)]) 5 1 rfl rfl rfl rfl ?_
  refine mv_goto 8 rfl rfl ?_
  exact ev_wk (le_s (le_s (le_s (le_s (le_s (le_s (le_n (le_n le_0)))))))) F
theorem vc_Row_closeOctet {q : Nat × (Nat → Int32)} {S S' : ms} {r : Option Value} (a0 na0 : Nat) (ha0 : isRow a0 na0)
    (F : ∀ S1 : ms, S1 = wI S a0 3 0 → r = none ∧ S' = S1) : EV q 53 0 [some (.ref a0)] [] S r S' := by
  unfold EV
  refine ev_bk 2 (S' := (2, [some (.ref a0)], [vI 0, .ref a0], hp S, 0, 0)) rfl ?_
  refine mv_pfI rfl rfl (ha0.1) (by decide) rfl rfl ?_
  have F := F _ rfl
  obtain ⟨rfl, rfl⟩ := F
  exact ev_ret rfl rfl
theorem vc_Row_addLow {q : Nat × (Nat → Int32)} {S S' : ms} {r : Option Value} (x1 x3 : Int) (a0 na0 : Nat) (ha0 : isRow a0 na0)
    (F : EV q 57 3 [some (.ref a0), some (vL x1), none, some (vI x3), some (vI 0)] [] S r S') : EV q 57 0 [some (.ref a0), some (vL x1), none, some (vI x3), none] [] S r S' := by
  unfold EV
  refine ev_bk 2 (S' := (3, [some (.ref a0), some (vL x1), none, some (vI x3), some (vI 0)], [], hp S, 0, 0)) rfl ?_
  exact F
theorem vc_Row_addLow_3 {q : Nat × (Nat → Int32)} {S S' : ms} {r : Option Value} (x1 x3 x4 : Int) (a0 na0 : Nat) (ha0 : isRow a0 na0)
    (F : ((w32 x3 ≤ w32 x4) → r = none ∧ S' = S) ∧ ((¬ w32 x3 ≤ w32 x4) → ∃ (S1 : ms), EV q 19 0 [some (.ref a0), some (vI (x1 % 18446744073709551616 / ((2 : Int) ^ ((8 * x4) % 64).toNat)))] [] S none S1 ∧ EV q 57 3 [some (.ref a0), some (vL x1), none, some (vI x3), some (vI (x4 + 1))] [] S1 r S')) : EV q 57 3 [some (.ref a0), some (vL x1), none, some (vI x3), some (vI x4)] [] S r S' := by
  unfold EV
  refine ev_bk 2 (S' := (6, [some (.ref a0), some (vL x1), none, some (vI x3), some (vI x4)], [vI x3, vI x4], hp S, 0, 0)) rfl ?_
  refine mv_icmp 27 rfl rfl (fun c => ?_) (fun c => ?_)
  · have F := F.1 c
    obtain ⟨rfl, rfl⟩ := F
    exact ev_ret rfl rfl
  · have F := F.2 c
    refine ev_bk 4 (S' := (15, [some (.ref a0), some (vL x1), none, some (vI x3), some (vI x4)], [vI x4, vI 8, vL x1, .ref a0], hp S, 0, 0)) rfl ?_
    refine mv_imul rfl ?_
    refine mv_lushr ((2 : Int) ^ ((8 * x4) % 64).toNat) rfl rfl ?_
    refine mv_l2i rfl ?_
    obtain ⟨S1, e2, F⟩ := F
    refine mv_calv (as := [vI (x1 % 18446744073709551616 / ((2 : Int) ^ ((8 * x4) % 64).toNat))]) (rest := []) e2 (ha0.1) rfl rfl rfl ⟨rfl, rfl⟩ rfl rfl rfl rfl rfl ?_
    refine mv_inc (lv' := [some (.ref a0), some (vL x1), none, some (vI x3), some (vI (x4 + 1))]) 4 1 rfl rfl rfl rfl ?_
    refine mv_goto 3 rfl rfl ?_
    exact F
theorem vc_Code_byCounts {q : Nat × (Nat → Int32)} {S S' : ms} {r : Option Value} (x2 x3 : Int) (a0 : Nat) (ha0 : isCode a0) (a1 na1 : Nat) (ha1 : SH a1 = (0, na1, []))
    (F : EV q 70 3 [some (.ref a0), some (.ref a1), some (vI x2), some (vI x3), some (vI 0), none, none] [] S r S') : EV q 70 0 [some (.ref a0), some (.ref a1), some (vI x2), some (vI x3), none, none, none] [] S r S' := by
  unfold EV
  refine ev_bk 2 (S' := (3, [some (.ref a0), some (.ref a1), some (vI x2), some (vI x3), some (vI 0), none, none], [], hp S, 0, 0)) rfl ?_
  exact F
theorem vc_Code_byCounts_3 {q : Nat × (Nat → Int32)} {S S' : ms} {r : Option Value} (x2 x3 x4 : Int) (a0 : Nat) (ha0 : isCode a0) (a1 na1 : Nat) (ha1 : SH a1 = (0, na1, []))
    (F : ((w32 x2 ≤ w32 x4) → EV q 70 29 [some (.ref a0), some (.ref a1), some (vI x2), some (vI x3), some (vI 0), none, none] [] S r S') ∧ ((¬ w32 x2 ≤ w32 x4) → (0 ≤ w32 x4 ∧ w32 x4 < (na1 : Nat)) ∧ (0 ≤ w32 x4 ∧ w32 x4 < (288 : Nat)) ∧ ∀ S3 : ms, S3 = wI S (a0 + 8) (w32 x4) (S.1 a1 (w32 x4)) → EV q 70 3 [some (.ref a0), some (.ref a1), some (vI x2), some (vI x3), some (vI (x4 + 1)), none, none] [] S3 r S')) : EV q 70 3 [some (.ref a0), some (.ref a1), some (vI x2), some (vI x3), some (vI x4), none, none] [] S r S' := by
  unfold EV
  refine ev_bk 2 (S' := (6, [some (.ref a0), some (.ref a1), some (vI x2), some (vI x3), some (vI x4), none, none], [vI x2, vI x4], hp S, 0, 0)) rfl ?_
  refine mv_icmp 26 rfl rfl (fun c => ?_) (fun c => ?_)
  · have F := F.1 c
    refine ev_bk 2 (S' := (29, [some (.ref a0), some (.ref a1), some (vI x2), some (vI x3), some (vI 0), none, none], [], hp S, 0, 0)) rfl ?_
    exact F
  · have F := F.2 c
    refine ev_bk 1 (S' := (10, [some (.ref a0), some (.ref a1), some (vI x2), some (vI x3), some (vI x4), none, none], [.ref a0], hp S, 0, 0)) rfl ?_
    refine mv_gfR rfl rfl (ha0.1) (by decide) rfl ?_
    refine ev_bk 3 (S' := (18, [some (.ref a0), some (.ref a1), some (vI x2), some (vI x3), some (vI x4), none, none], [vI x4, .ref a1, vI x4, .ref (a0 + 8)], hp S, 0, 0)) rfl ?_
    obtain ⟨b1, F⟩ := F
    refine mv_ial rfl (ha1) b1 ?_
    obtain ⟨b2, F⟩ := F
    refine mv_ias rfl (ha0.2.2.2.2.2.2.2.2.1) b2 ?_
    have F := F _ rfl
    refine mv_inc (lv' := [some (.ref a0), some (.ref a1), some (vI x2), some (vI x3), some (vI (x4 + 1)), none, none]) 4 1 rfl rfl rfl rfl ?_
    refine mv_goto 3 rfl rfl ?_
    exact F
theorem vc_Code_byCounts_29 {q : Nat × (Nat → Int32)} {S S' : ms} {r : Option Value} (x2 x3 x4 : Int) (a0 : Nat) (ha0 : isCode a0) (a1 na1 : Nat) (ha1 : SH a1 = (0, na1, []))
    (F : ((40 ≤ w32 x4) → r = none ∧ S' = S) ∧ ((¬ 40 ≤ w32 x4) → ∃ (z3 : Int) (S1 : ms), EV q 71 0 [some (.ref a0), some (vI x2), none, none, none] [] S (some (vI z3)) S1 ∧ ∃ (S4 : ms), EV q 72 0 [some (.ref a0), some (vI z3), none, none, none, none, none, none] [] S1 none S4 ∧ ∃ (S6 : ms), EV q 73 0 [some (.ref a0), some (vI x2), some (vI z3), none] [] S4 none S6 ∧ ∃ (S8 : ms), EV q 10 0 [some (.ref a0), some (vI x2), none, none] [] S6 none S8 ∧ ((w32 x3 < w32 (S8.1 a0 5)) → EV q 70 73 [some (.ref a0), some (.ref a1), some (vI x2), some (vI x3), some (vI x4), some (vI z3), some (vI 0)] [] S8 r S') ∧ ((¬ w32 x3 < w32 (S8.1 a0 5)) → r = none ∧ S' = S8))) : EV q 70 29 [some (.ref a0), some (.ref a1), some (vI x2), some (vI x3), some (vI x4), none, none] [] S r S' := by
  unfold EV
  refine ev_bk 2 (S' := (33, [some (.ref a0), some (.ref a1), some (vI x2), some (vI x3), some (vI x4), none, none], [vI 40, vI x4], hp S, 0, 0)) rfl ?_
  refine mv_icmp 109 rfl rfl (fun c => ?_) (fun c => ?_)
  · have F := F.1 c
    obtain ⟨rfl, rfl⟩ := F
    exact ev_ret rfl rfl
  · have F := F.2 c
    refine ev_bk 2 (S' := (38, [some (.ref a0), some (.ref a1), some (vI x2), some (vI x3), some (vI x4), none, none], [vI x2, .ref a0], hp S, 0, 0)) rfl ?_
    obtain ⟨z3, S1, e2, F⟩ := F
    refine mv_calv (as := [vI x2]) (rest := []) e2 (ha0.1) rfl rfl rfl ⟨rfl, rfl⟩ rfl rfl rfl rfl rfl ?_
    refine ev_bk 3 (S' := (46, [some (.ref a0), some (.ref a1), some (vI x2), some (vI x3), some (vI x4), some (vI z3), none], [vI z3, .ref a0], hp S1, 0, 0)) rfl ?_
    obtain ⟨S4, e5, F⟩ := F
    refine mv_calv (as := [vI z3]) (rest := []) e5 (ha0.1) rfl rfl rfl ⟨rfl, rfl⟩ rfl rfl rfl rfl rfl ?_
    refine ev_bk 3 (S' := (53, [some (.ref a0), some (.ref a1), some (vI x2), some (vI x3), some (vI x4), some (vI z3), none], [vI z3, vI x2, .ref a0], hp S4, 0, 0)) rfl ?_
    obtain ⟨S6, e7, F⟩ := F
    refine mv_calv (as := [vI x2, vI z3]) (rest := []) e7 (ha0.1) rfl rfl rfl ⟨rfl, rfl⟩ rfl rfl rfl rfl rfl ?_
    refine ev_bk 2 (S' := (58, [some (.ref a0), some (.ref a1), some (vI x2), some (vI x3), some (vI x4), some (vI z3), none], [vI x2, .ref a0], hp S6, 0, 0)) rfl ?_
    obtain ⟨S8, e9, F⟩ := F
    refine mv_calv (as := [vI x2]) (rest := []) e9 (ha0.1) rfl rfl rfl ⟨rfl, rfl⟩ rfl rfl rfl rfl rfl ?_
    refine ev_bk 1 (S' := (62, [some (.ref a0), some (.ref a1), some (vI x2), some (vI x3), some (vI x4), some (vI z3), none], [.ref a0], hp S8, 0, 0)) rfl ?_
    refine mv_gfI rfl rfl (ha0.1) (by decide) rfl ?_
    refine ev_bk 1 (S' := (66, [some (.ref a0), some (.ref a1), some (vI x2), some (vI x3), some (vI x4), some (vI z3), none], [vI x3, vI (S8.1 a0 5)], hp S8, 0, 0)) rfl ?_
    refine mv_icmp 70 rfl rfl (fun c => ?_) (fun c => ?_)
    · have F := F.1 c
      refine ev_bk 2 (S' := (73, [some (.ref a0), some (.ref a1), some (vI x2), some (vI x3), some (vI x4), some (vI z3), some (vI 0)], [], hp S8, 0, 0)) rfl ?_
      exact F
    · have F := F.2 c
      obtain ⟨rfl, rfl⟩ := F
      exact ev_ret rfl rfl
theorem vc_Code_byCounts_73 {q : Nat × (Nat → Int32)} {S S' : ms} {r : Option Value} (x2 x3 x4 x5 x6 : Int) (a0 : Nat) (ha0 : isCode a0) (a1 na1 : Nat) (ha1 : SH a1 = (0, na1, []))
    (F : ((w32 x2 ≤ w32 x6) → EV q 70 29 [some (.ref a0), some (.ref a1), some (vI x2), some (vI x3), some (vI (x4 + 1)), none, none] [] S r S') ∧ ((¬ w32 x2 ≤ w32 x6) → (0 ≤ w32 x6 ∧ w32 x6 < (288 : Nat)) ∧ (0 ≤ w32 x6 ∧ w32 x6 < (288 : Nat)) ∧ ∀ S3 : ms, S3 = wI S (a0 + 8) (w32 x6) (Int.tdiv (w32 ((S.1 (a0 + 8) (w32 x6)) + 1)) (w32 2)) → EV q 70 73 [some (.ref a0), some (.ref a1), some (vI x2), some (vI x3), some (vI x4), some (vI x5), some (vI (x6 + 1))] [] S3 r S')) : EV q 70 73 [some (.ref a0), some (.ref a1), some (vI x2), some (vI x3), some (vI x4), some (vI x5), some (vI x6)] [] S r S' := by
  unfold EV
  refine ev_bk 2 (S' := (76, [some (.ref a0), some (.ref a1), some (vI x2), some (vI x3), some (vI x4), some (vI x5), some (vI x6)], [vI x2, vI x6], hp S, 0, 0)) rfl ?_
  refine mv_icmp 103 rfl rfl (fun c => ?_) (fun c => ?_)
  · have F := F.1 c
    refine mv_inc (lv' := [some (.ref a0), some (.ref a1), some (vI x2), some (vI x3), some (vI (x4 + 1)), some (vI x5), some (vI x6)]) 4 1 rfl rfl rfl rfl ?_
    refine mv_goto 29 rfl rfl ?_
    exact ev_wk (le_s (le_s (le_s (le_s (le_s (le_n (le_n le_0))))))) F
  · have F := F.2 c
    refine ev_bk 1 (S' := (80, [some (.ref a0), some (.ref a1), some (vI x2), some (vI x3), some (vI x4), some (vI x5), some (vI x6)], [.ref a0], hp S, 0, 0)) rfl ?_
    refine mv_gfR rfl rfl (ha0.1) (by decide) rfl ?_
    refine ev_bk 2 (S' := (86, [some (.ref a0), some (.ref a1), some (vI x2), some (vI x3), some (vI x4), some (vI x5), some (vI x6)], [.ref a0, vI x6, .ref (a0 + 8)], hp S, 0, 0)) rfl ?_
    refine mv_gfR rfl rfl (ha0.1) (by decide) rfl ?_
    refine ev_bk 1 (S' := (91, [some (.ref a0), some (.ref a1), some (vI x2), some (vI x3), some (vI x4), some (vI x5), some (vI x6)], [vI x6, .ref (a0 + 8), vI x6, .ref (a0 + 8)], hp S, 0, 0)) rfl ?_
    obtain ⟨b1, F⟩ := F
    refine mv_ial rfl (ha0.2.2.2.2.2.2.2.2.1) b1 ?_
    refine ev_bk 1 (S' := (93, [some (.ref a0), some (.ref a1), some (vI x2), some (vI x3), some (vI x4), some (vI x5), some (vI x6)], [vI 1, vI (S.1 (a0 + 8) (w32 x6)), vI x6, .ref (a0 + 8)], hp S, 0, 0)) rfl ?_
    refine mv_iadd rfl ?_
    refine ev_bk 1 (S' := (95, [some (.ref a0), some (.ref a1), some (vI x2), some (vI x3), some (vI x4), some (vI x5), some (vI x6)], [vI 2, vI ((S.1 (a0 + 8) (w32 x6)) + 1), vI x6, .ref (a0 + 8)], hp S, 0, 0)) rfl ?_
    refine mv_idiv (by decide) rfl ?_
    obtain ⟨b2, F⟩ := F
    refine mv_ias rfl (ha0.2.2.2.2.2.2.2.2.1) b2 ?_
    have F := F _ rfl
    refine mv_inc (lv' := [some (.ref a0), some (.ref a1), some (vI x2), some (vI x3), some (vI x4), some (vI x5), some (vI (x6 + 1))]) 6 1 rfl rfl rfl rfl ?_
    refine mv_goto 73 rfl rfl ?_
    exact F
theorem vc_Code_orderLeaves {q : Nat × (Nat → Int32)} {S S' : ms} {r : Option Value} (x1 : Int) (a0 : Nat) (ha0 : isCode a0)
    (F : EV q 71 4 [some (.ref a0), some (vI x1), some (vI 0), some (vI 0), none] [] S r S') : EV q 71 0 [some (.ref a0), some (vI x1), none, none, none] [] S r S' := by
  unfold EV
  refine ev_bk 4 (S' := (4, [some (.ref a0), some (vI x1), some (vI 0), some (vI 0), none], [], hp S, 0, 0)) rfl ?_
  exact F
theorem vc_Code_orderLeaves_4 {q : Nat × (Nat → Int32)} {S S' : ms} {r : Option Value} (x1 x2 x3 : Int) (a0 : Nat) (ha0 : isCode a0)
    (F : ((w32 x1 ≤ w32 x3) → r = some (vI x2) ∧ S' = S) ∧ ((¬ w32 x1 ≤ w32 x3) → (0 ≤ w32 x3 ∧ w32 x3 < (288 : Nat)) ∧ ((w32 (S.1 (a0 + 8) (w32 x3)) ≤ 0) → EV q 71 82 [some (.ref a0), some (vI x1), some (vI x2), some (vI x3), none] [] S r S') ∧ ((¬ w32 (S.1 (a0 + 8) (w32 x3)) ≤ 0) → EV q 71 21 [some (.ref a0), some (vI x1), some (vI x2), some (vI x3), some (vI x2)] [] S r S'))) : EV q 71 4 [some (.ref a0), some (vI x1), some (vI x2), some (vI x3), none] [] S r S' := by
  unfold EV
  refine ev_bk 2 (S' := (6, [some (.ref a0), some (vI x1), some (vI x2), some (vI x3), none], [vI x1, vI x3], hp S, 0, 0)) rfl ?_
  refine mv_icmp 88 rfl rfl (fun c => ?_) (fun c => ?_)
  · have F := F.1 c
    refine ev_bk 1 (S' := (89, [some (.ref a0), some (vI x1), some (vI x2), some (vI x3), none], [vI x2], hp S, 0, 0)) rfl ?_
    obtain ⟨rfl, rfl⟩ := F
    exact ev_ret rfl rfl
  · have F := F.2 c
    refine ev_bk 1 (S' := (10, [some (.ref a0), some (vI x1), some (vI x2), some (vI x3), none], [.ref a0], hp S, 0, 0)) rfl ?_
    refine mv_gfR rfl rfl (ha0.1) (by decide) rfl ?_
    refine ev_bk 1 (S' := (14, [some (.ref a0), some (vI x1), some (vI x2), some (vI x3), none], [vI x3, .ref (a0 + 8)], hp S, 0, 0)) rfl ?_
    obtain ⟨b1, F⟩ := F
    refine mv_ial rfl (ha0.2.2.2.2.2.2.2.2.1) b1 ?_
    refine mv_if 82 rfl rfl (fun c => ?_) (fun c => ?_)
    · have F := F.1 c
      exact F
    · have F := F.2 c
      refine ev_bk 2 (S' := (21, [some (.ref a0), some (vI x1), some (vI x2), some (vI x3), some (vI x2)], [], hp S, 0, 0)) rfl ?_
      exact F
theorem vc_Code_orderLeaves_21 {q : Nat × (Nat → Int32)} {S S' : ms} {r : Option Value} (x1 x2 x3 x4 : Int) (a0 : Nat) (ha0 : isCode a0)
    (F : ((w32 x4 ≤ 0) → EV q 71 71 [some (.ref a0), some (vI x1), some (vI x2), some (vI x3), some (vI x4)] [] S r S') ∧ ((¬ w32 x4 ≤ 0) → (0 ≤ w32 (x4 - 1) ∧ w32 (x4 - 1) < (288 : Nat)) ∧ (0 ≤ w32 (S.1 (a0 + 4) (w32 (x4 - 1))) ∧ w32 (S.1 (a0 + 4) (w32 (x4 - 1))) < (288 : Nat)) ∧ (0 ≤ w32 x3 ∧ w32 x3 < (288 : Nat)) ∧ ((w32 (S.1 (a0 + 8) (w32 (S.1 (a0 + 4) (w32 (x4 - 1))))) ≤ w32 (S.1 (a0 + 8) (w32 x3))) → EV q 71 71 [some (.ref a0), some (vI x1), some (vI x2), some (vI x3), some (vI x4)] [] S r S') ∧ ((¬ w32 (S.1 (a0 + 8) (w32 (S.1 (a0 + 4) (w32 (x4 - 1))))) ≤ w32 (S.1 (a0 + 8) (w32 x3))) → (0 ≤ w32 (x4 - 1) ∧ w32 (x4 - 1) < (288 : Nat)) ∧ (0 ≤ w32 x4 ∧ w32 x4 < (288 : Nat)) ∧ ∀ S6 : ms, S6 = wI S (a0 + 4) (w32 x4) (S.1 (a0 + 4) (w32 (x4 - 1))) → EV q 71 21 [some (.ref a0), some (vI x1), some (vI x2), some (vI x3), some (vI (x4 - 1))] [] S6 r S'))) : EV q 71 21 [some (.ref a0), some (vI x1), some (vI x2), some (vI x3), some (vI x4)] [] S r S' := by
  unfold EV
  refine ev_bk 1 (S' := (23, [some (.ref a0), some (vI x1), some (vI x2), some (vI x3), some (vI x4)], [vI x4], hp S, 0, 0)) rfl ?_
  refine mv_if 71 rfl rfl (fun c => ?_) (fun c => ?_)
  · have F := F.1 c
    exact F
  · have F := F.2 c
    refine ev_bk 1 (S' := (27, [some (.ref a0), some (vI x1), some (vI x2), some (vI x3), some (vI x4)], [.ref a0], hp S, 0, 0)) rfl ?_
    refine mv_gfR rfl rfl (ha0.1) (by decide) rfl ?_
    refine ev_bk 1 (S' := (31, [some (.ref a0), some (vI x1), some (vI x2), some (vI x3), some (vI x4)], [.ref a0, .ref (a0 + 8)], hp S, 0, 0)) rfl ?_
    refine mv_gfR rfl rfl (ha0.1) (by decide) rfl ?_
    refine ev_bk 2 (S' := (37, [some (.ref a0), some (vI x1), some (vI x2), some (vI x3), some (vI x4)], [vI 1, vI x4, .ref (a0 + 4), .ref (a0 + 8)], hp S, 0, 0)) rfl ?_
    refine mv_isub rfl ?_
    obtain ⟨b1, F⟩ := F
    refine mv_ial rfl (ha0.2.2.2.2.1) b1 ?_
    obtain ⟨b2, F⟩ := F
    refine mv_ial rfl (ha0.2.2.2.2.2.2.2.2.1) b2 ?_
    refine ev_bk 1 (S' := (41, [some (.ref a0), some (vI x1), some (vI x2), some (vI x3), some (vI x4)], [.ref a0, vI (S.1 (a0 + 8) (w32 (S.1 (a0 + 4) (w32 (x4 - 1)))))], hp S, 0, 0)) rfl ?_
    refine mv_gfR rfl rfl (ha0.1) (by decide) rfl ?_
    refine ev_bk 1 (S' := (45, [some (.ref a0), some (vI x1), some (vI x2), some (vI x3), some (vI x4)], [vI x3, .ref (a0 + 8), vI (S.1 (a0 + 8) (w32 (S.1 (a0 + 4) (w32 (x4 - 1)))))], hp S, 0, 0)) rfl ?_
    obtain ⟨b3, F⟩ := F
    refine mv_ial rfl (ha0.2.2.2.2.2.2.2.2.1) b3 ?_
    refine mv_icmp 71 rfl rfl (fun c => ?_) (fun c => ?_)
    · have F := F.1 c
      exact F
    · have F := F.2 c
      refine ev_bk 1 (S' := (50, [some (.ref a0), some (vI x1), some (vI x2), some (vI x3), some (vI x4)], [.ref a0], hp S, 0, 0)) rfl ?_
      refine mv_gfR rfl rfl (ha0.1) (by decide) rfl ?_
      refine ev_bk 2 (S' := (56, [some (.ref a0), some (vI x1), some (vI x2), some (vI x3), some (vI x4)], [.ref a0, vI x4, .ref (a0 + 4)], hp S, 0, 0)) rfl ?_
      refine mv_gfR rfl rfl (ha0.1) (by decide) rfl ?_
      refine ev_bk 2 (S' := (62, [some (.ref a0), some (vI x1), some (vI x2), some (vI x3), some (vI x4)], [vI 1, vI x4, .ref (a0 + 4), vI x4, .ref (a0 + 4)], hp S, 0, 0)) rfl ?_
      refine mv_isub rfl ?_
      obtain ⟨b4, F⟩ := F
      refine mv_ial rfl (ha0.2.2.2.2.1) b4 ?_
      obtain ⟨b5, F⟩ := F
      refine mv_ias rfl (ha0.2.2.2.2.1) b5 ?_
      have F := F _ rfl
      refine mv_inc (lv' := [some (.ref a0), some (vI x1), some (vI x2), some (vI x3), some (vI (x4 - 1))]) 4 (-1) rfl rfl rfl (by omega) ?_
      refine mv_goto 21 rfl rfl ?_
      exact F
theorem vc_Code_orderLeaves_71 {q : Nat × (Nat → Int32)} {S S' : ms} {r : Option Value} (x1 x2 x3 x4 : Int) (a0 : Nat) (ha0 : isCode a0)
    (F : (0 ≤ w32 x4 ∧ w32 x4 < (288 : Nat)) ∧ ∀ S2 : ms, S2 = wI S (a0 + 4) (w32 x4) x3 → EV q 71 82 [some (.ref a0), some (vI x1), some (vI (x2 + 1)), some (vI x3), none] [] S2 r S') : EV q 71 71 [some (.ref a0), some (vI x1), some (vI x2), some (vI x3), some (vI x4)] [] S r S' := by
  unfold EV
  refine ev_bk 1 (S' := (72, [some (.ref a0), some (vI x1), some (vI x2), some (vI x3), some (vI x4)], [.ref a0], hp S, 0, 0)) rfl ?_
  refine mv_gfR rfl rfl (ha0.1) (by decide) rfl ?_
  refine ev_bk 2 (S' := (78, [some (.ref a0), some (vI x1), some (vI x2), some (vI x3), some (vI x4)], [vI x3, vI x4, .ref (a0 + 4)], hp S, 0, 0)) rfl ?_
  obtain ⟨b1, F⟩ := F
  refine mv_ias rfl (ha0.2.2.2.2.1) b1 ?_
  have F := F _ rfl
  refine mv_inc (lv' := [some (.ref a0), some (vI x1), some (vI (x2 + 1)), some (vI x3), some (vI x4)]) 2 1 rfl rfl rfl rfl ?_
  exact ev_wk (le_s (le_s (le_s (le_s (le_n le_0))))) F
theorem vc_Code_orderLeaves_82 {q : Nat × (Nat → Int32)} {S S' : ms} {r : Option Value} (x1 x2 x3 : Int) (a0 : Nat) (ha0 : isCode a0)
    (F : EV q 71 4 [some (.ref a0), some (vI x1), some (vI x2), some (vI (x3 + 1)), none] [] S r S') : EV q 71 82 [some (.ref a0), some (vI x1), some (vI x2), some (vI x3), none] [] S r S' := by
  unfold EV
  refine mv_inc (lv' := [some (.ref a0), some (vI x1), some (vI x2), some (vI (x3 + 1)), none]) 3 1 rfl rfl rfl rfl ?_
  refine mv_goto 4 rfl rfl ?_
  exact F
theorem vc_Code_joinAll {q : Nat × (Nat → Int32)} {S S' : ms} {r : Option Value} (x1 : Int) (a0 : Nat) (ha0 : isCode a0)
    (F : EV q 72 2 [some (.ref a0), some (vI x1), some (vI 0), none, none, none, none, none] [] S r S') : EV q 72 0 [some (.ref a0), some (vI x1), none, none, none, none, none, none] [] S r S' := by
  unfold EV
  refine ev_bk 2 (S' := (2, [some (.ref a0), some (vI x1), some (vI 0), none, none, none, none, none], [], hp S, 0, 0)) rfl ?_
  exact F
theorem vc_Code_joinAll_2 {q : Nat × (Nat → Int32)} {S S' : ms} {r : Option Value} (x1 x2 : Int) (a0 : Nat) (ha0 : isCode a0)
    (F : ((w32 x1 ≤ w32 x2) → EV q 72 37 [some (.ref a0), some (vI x1), some (vI 0), some (vI x1), some (vI x1), none, none, none] [] S r S') ∧ ((¬ w32 x1 ≤ w32 x2) → (0 ≤ w32 x2 ∧ w32 x2 < (288 : Nat)) ∧ (0 ≤ w32 (S.1 (a0 + 4) (w32 x2)) ∧ w32 (S.1 (a0 + 4) (w32 x2)) < (288 : Nat)) ∧ (0 ≤ w32 x2 ∧ w32 x2 < (576 : Nat)) ∧ ∀ S4 : ms, S4 = wI S (a0 + 9) (w32 x2) (S.1 (a0 + 8) (w32 (S.1 (a0 + 4) (w32 x2)))) → EV q 72 2 [some (.ref a0), some (vI x1), some (vI (x2 + 1)), none, none, none, none, none] [] S4 r S')) : EV q 72 2 [some (.ref a0), some (vI x1), some (vI x2), none, none, none, none, none] [] S r S' := by
  unfold EV
  refine ev_bk 2 (S' := (4, [some (.ref a0), some (vI x1), some (vI x2), none, none, none, none, none], [vI x1, vI x2], hp S, 0, 0)) rfl ?_
  refine mv_icmp 30 rfl rfl (fun c => ?_) (fun c => ?_)
  · have F := F.1 c
    refine ev_bk 6 (S' := (37, [some (.ref a0), some (vI x1), some (vI 0), some (vI x1), some (vI x1), none, none, none], [], hp S, 0, 0)) rfl ?_
    exact F
  · have F := F.2 c
    refine ev_bk 1 (S' := (8, [some (.ref a0), some (vI x1), some (vI x2), none, none, none, none, none], [.ref a0], hp S, 0, 0)) rfl ?_
    refine mv_gfR rfl rfl (ha0.1) (by decide) rfl ?_
    refine ev_bk 2 (S' := (13, [some (.ref a0), some (vI x1), some (vI x2), none, none, none, none, none], [.ref a0, vI x2, .ref (a0 + 9)], hp S, 0, 0)) rfl ?_
    refine mv_gfR rfl rfl (ha0.1) (by decide) rfl ?_
    refine ev_bk 1 (S' := (17, [some (.ref a0), some (vI x1), some (vI x2), none, none, none, none, none], [.ref a0, .ref (a0 + 8), vI x2, .ref (a0 + 9)], hp S, 0, 0)) rfl ?_
    refine mv_gfR rfl rfl (ha0.1) (by decide) rfl ?_
    refine ev_bk 1 (S' := (21, [some (.ref a0), some (vI x1), some (vI x2), none, none, none, none, none], [vI x2, .ref (a0 + 4), .ref (a0 + 8), vI x2, .ref (a0 + 9)], hp S, 0, 0)) rfl ?_
    obtain ⟨b1, F⟩ := F
    refine mv_ial rfl (ha0.2.2.2.2.1) b1 ?_
    obtain ⟨b2, F⟩ := F
    refine mv_ial rfl (ha0.2.2.2.2.2.2.2.2.1) b2 ?_
    obtain ⟨b3, F⟩ := F
    refine mv_ias rfl (ha0.2.2.2.2.2.2.2.2.2.1) b3 ?_
    have F := F _ rfl
    refine mv_inc (lv' := [some (.ref a0), some (vI x1), some (vI (x2 + 1)), none, none, none, none, none]) 2 1 rfl rfl rfl rfl ?_
    refine mv_goto 2 rfl rfl ?_
    exact F
theorem vc_Code_joinAll_37 {q : Nat × (Nat → Int32)} {S S' : ms} {r : Option Value} (x1 x2 x3 x4 : Int) (a0 : Nat) (ha0 : isCode a0)
    (F : ((w32 ((2 * x1) - 1) ≤ w32 x4) → r = none ∧ S' = S) ∧ ((¬ w32 ((2 * x1) - 1) ≤ w32 x4) → (0 ≤ w32 x4 ∧ w32 x4 < (576 : Nat)) ∧ ∀ S2 : ms, S2 = wI S (a0 + 9) (w32 x4) 0 → EV q 72 58 [some (.ref a0), some (vI x1), some (vI x2), some (vI x3), some (vI x4), some (vI 0), none, none] [] S2 r S')) : EV q 72 37 [some (.ref a0), some (vI x1), some (vI x2), some (vI x3), some (vI x4), none, none, none] [] S r S' := by
  unfold EV
  refine ev_bk 3 (S' := (41, [some (.ref a0), some (vI x1), some (vI x2), some (vI x3), some (vI x4), none, none, none], [vI x1, vI 2, vI x4], hp S, 0, 0)) rfl ?_
  refine mv_imul rfl ?_
  refine ev_bk 1 (S' := (43, [some (.ref a0), some (vI x1), some (vI x2), some (vI x3), some (vI x4), none, none, none], [vI 1, vI (2 * x1), vI x4], hp S, 0, 0)) rfl ?_
  refine mv_isub rfl ?_
  refine mv_icmp 153 rfl rfl (fun c => ?_) (fun c => ?_)
  · have F := F.1 c
    obtain ⟨rfl, rfl⟩ := F
    exact ev_ret rfl rfl
  · have F := F.2 c
    refine ev_bk 1 (S' := (48, [some (.ref a0), some (vI x1), some (vI x2), some (vI x3), some (vI x4), none, none, none], [.ref a0], hp S, 0, 0)) rfl ?_
    refine mv_gfR rfl rfl (ha0.1) (by decide) rfl ?_
    refine ev_bk 2 (S' := (54, [some (.ref a0), some (vI x1), some (vI x2), some (vI x3), some (vI x4), none, none, none], [vI 0, vI x4, .ref (a0 + 9)], hp S, 0, 0)) rfl ?_
    obtain ⟨b1, F⟩ := F
    refine mv_ias rfl (ha0.2.2.2.2.2.2.2.2.2.1) b1 ?_
    have F := F _ rfl
    refine ev_bk 2 (S' := (58, [some (.ref a0), some (vI x1), some (vI x2), some (vI x3), some (vI x4), some (vI 0), none, none], [], hp (wI S (a0 + 9) (w32 x4) 0), 0, 0)) rfl ?_
    exact F
theorem vc_Code_joinAll_58 {q : Nat × (Nat → Int32)} {S S' : ms} {r : Option Value} (x1 x2 x3 x4 x5 : Int) (a0 : Nat) (ha0 : isCode a0)
    (F : ((2 ≤ w32 x5) → EV q 72 37 [some (.ref a0), some (vI x1), some (vI x2), some (vI x3), some (vI (x4 + 1)), none, none, none] [] S r S') ∧ ((¬ 2 ≤ w32 x5) → ((w32 x1 ≤ w32 x2) → EV q 72 94 [some (.ref a0), some (vI x1), some (vI x2), some (vI x3), some (vI x4), some (vI x5), none, none] [] S r S') ∧ ((¬ w32 x1 ≤ w32 x2) → ((w32 x4 ≤ w32 x3) → EV q 72 90 [some (.ref a0), some (vI x1), some (vI x2), some (vI x3), some (vI x4), some (vI x5), none, none] [] S r S') ∧ ((¬ w32 x4 ≤ w32 x3) → (0 ≤ w32 x2 ∧ w32 x2 < (576 : Nat)) ∧ (0 ≤ w32 x3 ∧ w32 x3 < (576 : Nat)) ∧ ((w32 (S.1 (a0 + 9) (w32 x3)) < w32 (S.1 (a0 + 9) (w32 x2))) → EV q 72 94 [some (.ref a0), some (vI x1), some (vI x2), some (vI x3), some (vI x4), some (vI x5), none, none] [] S r S') ∧ ((¬ w32 (S.1 (a0 + 9) (w32 x3)) < w32 (S.1 (a0 + 9) (w32 x2))) → EV q 72 90 [some (.ref a0), some (vI x1), some (vI x2), some (vI x3), some (vI x4), some (vI x5), none, none] [] S r S'))))) : EV q 72 58 [some (.ref a0), some (vI x1), some (vI x2), some (vI x3), some (vI x4), some (vI x5), none, none] [] S r S' := by
  unfold EV
  refine ev_bk 2 (S' := (61, [some (.ref a0), some (vI x1), some (vI x2), some (vI x3), some (vI x4), some (vI x5), none, none], [vI 2, vI x5], hp S, 0, 0)) rfl ?_
  refine mv_icmp 147 rfl rfl (fun c => ?_) (fun c => ?_)
  · have F := F.1 c
    refine mv_inc (lv' := [some (.ref a0), some (vI x1), some (vI x2), some (vI x3), some (vI (x4 + 1)), some (vI x5), none, none]) 4 1 rfl rfl rfl rfl ?_
    refine mv_goto 37 rfl rfl ?_
    exact ev_wk (le_s (le_s (le_s (le_s (le_s (le_n (le_s (le_s le_0)))))))) F
  · have F := F.2 c
    refine ev_bk 2 (S' := (66, [some (.ref a0), some (vI x1), some (vI x2), some (vI x3), some (vI x4), some (vI x5), none, none], [vI x1, vI x2], hp S, 0, 0)) rfl ?_
    refine mv_icmp 94 rfl rfl (fun c => ?_) (fun c => ?_)
    · have F := F.1 c
      exact F
    · have F := F.2 c
      refine ev_bk 2 (S' := (72, [some (.ref a0), some (vI x1), some (vI x2), some (vI x3), some (vI x4), some (vI x5), none, none], [vI x4, vI x3], hp S, 0, 0)) rfl ?_
      refine mv_icmp 90 rfl rfl (fun c => ?_) (fun c => ?_)
      · have F := F.1 c
        exact F
      · have F := F.2 c
        refine ev_bk 1 (S' := (76, [some (.ref a0), some (vI x1), some (vI x2), some (vI x3), some (vI x4), some (vI x5), none, none], [.ref a0], hp S, 0, 0)) rfl ?_
        refine mv_gfR rfl rfl (ha0.1) (by decide) rfl ?_
        refine ev_bk 1 (S' := (80, [some (.ref a0), some (vI x1), some (vI x2), some (vI x3), some (vI x4), some (vI x5), none, none], [vI x2, .ref (a0 + 9)], hp S, 0, 0)) rfl ?_
        obtain ⟨b1, F⟩ := F
        refine mv_ial rfl (ha0.2.2.2.2.2.2.2.2.2.1) b1 ?_
        refine ev_bk 1 (S' := (82, [some (.ref a0), some (vI x1), some (vI x2), some (vI x3), some (vI x4), some (vI x5), none, none], [.ref a0, vI (S.1 (a0 + 9) (w32 x2))], hp S, 0, 0)) rfl ?_
        refine mv_gfR rfl rfl (ha0.1) (by decide) rfl ?_
        refine ev_bk 1 (S' := (86, [some (.ref a0), some (vI x1), some (vI x2), some (vI x3), some (vI x4), some (vI x5), none, none], [vI x3, .ref (a0 + 9), vI (S.1 (a0 + 9) (w32 x2))], hp S, 0, 0)) rfl ?_
        obtain ⟨b2, F⟩ := F
        refine mv_ial rfl (ha0.2.2.2.2.2.2.2.2.2.1) b2 ?_
        refine mv_icmp 94 rfl rfl (fun c => ?_) (fun c => ?_)
        · have F := F.1 c
          exact F
        · have F := F.2 c
          exact F
theorem vc_Code_joinAll_90 {q : Nat × (Nat → Int32)} {S S' : ms} {r : Option Value} (x1 x2 x3 x4 x5 : Int) (a0 : Nat) (ha0 : isCode a0)
    (F : EV q 72 95 [some (.ref a0), some (vI x1), some (vI x2), some (vI x3), some (vI x4), some (vI x5), none, none] [vI 1] S r S') : EV q 72 90 [some (.ref a0), some (vI x1), some (vI x2), some (vI x3), some (vI x4), some (vI x5), none, none] [] S r S' := by
  unfold EV
  refine ev_bk 1 (S' := (91, [some (.ref a0), some (vI x1), some (vI x2), some (vI x3), some (vI x4), some (vI x5), none, none], [vI 1], hp S, 0, 0)) rfl ?_
  refine mv_goto 95 rfl rfl ?_
  exact F
theorem vc_Code_joinAll_94 {q : Nat × (Nat → Int32)} {S S' : ms} {r : Option Value} (x1 x2 x3 x4 x5 : Int) (a0 : Nat) (ha0 : isCode a0)
    (F : EV q 72 95 [some (.ref a0), some (vI x1), some (vI x2), some (vI x3), some (vI x4), some (vI x5), none, none] [vI 0] S r S') : EV q 72 94 [some (.ref a0), some (vI x1), some (vI x2), some (vI x3), some (vI x4), some (vI x5), none, none] [] S r S' := by
  unfold EV
  refine ev_bk 1 (S' := (95, [some (.ref a0), some (vI x1), some (vI x2), some (vI x3), some (vI x4), some (vI x5), none, none], [vI 0], hp S, 0, 0)) rfl ?_
  exact F
theorem vc_Code_joinAll_95 {q : Nat × (Nat → Int32)} {S S' : ms} {r : Option Value} (x1 x2 x3 x4 x5 y0 : Int) (a0 : Nat) (ha0 : isCode a0)
    (F : ((w32 y0 = 0) → EV q 72 113 [some (.ref a0), some (vI x1), some (vI x2), some (vI (x3 + 1)), some (vI x4), some (vI x5), some (vI y0), none] [vI x3] S r S') ∧ ((¬ w32 y0 = 0) → EV q 72 113 [some (.ref a0), some (vI x1), some (vI (x2 + 1)), some (vI x3), some (vI x4), some (vI x5), some (vI y0), none] [vI x2] S r S')) : EV q 72 95 [some (.ref a0), some (vI x1), some (vI x2), some (vI x3), some (vI x4), some (vI x5), none, none] [vI y0] S r S' := by
  unfold EV
  refine ev_bk 2 (S' := (99, [some (.ref a0), some (vI x1), some (vI x2), some (vI x3), some (vI x4), some (vI x5), some (vI y0), none], [vI y0], hp S, 0, 0)) rfl ?_
  refine mv_if 109 rfl rfl (fun c => ?_) (fun c => ?_)
  · have F := F.1 c
    refine ev_bk 1 (S' := (110, [some (.ref a0), some (vI x1), some (vI x2), some (vI x3), some (vI x4), some (vI x5), some (vI y0), none], [vI x3], hp S, 0, 0)) rfl ?_
    refine mv_inc (lv' := [some (.ref a0), some (vI x1), some (vI x2), some (vI (x3 + 1)), some (vI x4), some (vI x5), some (vI y0), none]) 3 1 rfl rfl rfl rfl ?_
    exact F
  · have F := F.2 c
    refine ev_bk 1 (S' := (103, [some (.ref a0), some (vI x1), some (vI x2), some (vI x3), some (vI x4), some (vI x5), some (vI y0), none], [vI x2], hp S, 0, 0)) rfl ?_
    refine mv_inc (lv' := [some (.ref a0), some (vI x1), some (vI (x2 + 1)), some (vI x3), some (vI x4), some (vI x5), some (vI y0), none]) 2 1 rfl rfl rfl rfl ?_
    refine mv_goto 113 rfl rfl ?_
    exact F
theorem vc_Code_joinAll_113 {q : Nat × (Nat → Int32)} {S S' : ms} {r : Option Value} (x1 x2 x3 x4 x5 x6 y0 : Int) (a0 : Nat) (ha0 : isCode a0)
    (F : (0 ≤ w32 y0 ∧ w32 y0 < (576 : Nat)) ∧ ∀ S2 : ms, S2 = wI S (a0 + 10) (w32 y0) x4 → (0 ≤ w32 x4 ∧ w32 x4 < (576 : Nat)) ∧ (0 ≤ w32 y0 ∧ w32 y0 < (576 : Nat)) ∧ (0 ≤ w32 x4 ∧ w32 x4 < (576 : Nat)) ∧ ∀ S6 : ms, S6 = wI S2 (a0 + 9) (w32 x4) ((S2.1 (a0 + 9) (w32 x4)) + (S2.1 (a0 + 9) (w32 y0))) → EV q 72 58 [some (.ref a0), some (vI x1), some (vI x2), some (vI x3), some (vI x4), some (vI (x5 + 1)), none, none] [] S6 r S') : EV q 72 113 [some (.ref a0), some (vI x1), some (vI x2), some (vI x3), some (vI x4), some (vI x5), some (vI x6), none] [vI y0] S r S' := by
  unfold EV
  refine ev_bk 2 (S' := (116, [some (.ref a0), some (vI x1), some (vI x2), some (vI x3), some (vI x4), some (vI x5), some (vI x6), some (vI y0)], [.ref a0], hp S, 0, 0)) rfl ?_
  refine mv_gfR rfl rfl (ha0.1) (by decide) rfl ?_
  refine ev_bk 2 (S' := (123, [some (.ref a0), some (vI x1), some (vI x2), some (vI x3), some (vI x4), some (vI x5), some (vI x6), some (vI y0)], [vI x4, vI y0, .ref (a0 + 10)], hp S, 0, 0)) rfl ?_
  obtain ⟨b1, F⟩ := F
  refine mv_ias rfl (ha0.2.2.2.2.2.2.2.2.2.2) b1 ?_
  have F := F _ rfl
  refine ev_bk 1 (S' := (125, [some (.ref a0), some (vI x1), some (vI x2), some (vI x3), some (vI x4), some (vI x5), some (vI x6), some (vI y0)], [.ref a0], hp (wI S (a0 + 10) (w32 y0) x4), 0, 0)) rfl ?_
  refine mv_gfR rfl rfl (ha0.1) (by decide) rfl ?_
  refine ev_bk 2 (S' := (131, [some (.ref a0), some (vI x1), some (vI x2), some (vI x3), some (vI x4), some (vI x5), some (vI x6), some (vI y0)], [vI x4, .ref (a0 + 9), vI x4, .ref (a0 + 9)], hp (wI S (a0 + 10) (w32 y0) x4), 0, 0)) rfl ?_
  obtain ⟨b3, F⟩ := F
  refine mv_ial rfl (ha0.2.2.2.2.2.2.2.2.2.1) b3 ?_
  refine ev_bk 1 (S' := (133, [some (.ref a0), some (vI x1), some (vI x2), some (vI x3), some (vI x4), some (vI x5), some (vI x6), some (vI y0)], [.ref a0, vI ((wI S (a0 + 10) (w32 y0) x4).1 (a0 + 9) (w32 x4)), vI x4, .ref (a0 + 9)], hp (wI S (a0 + 10) (w32 y0) x4), 0, 0)) rfl ?_
  refine mv_gfR rfl rfl (ha0.1) (by decide) rfl ?_
  refine ev_bk 1 (S' := (138, [some (.ref a0), some (vI x1), some (vI x2), some (vI x3), some (vI x4), some (vI x5), some (vI x6), some (vI y0)], [vI y0, .ref (a0 + 9), vI ((wI S (a0 + 10) (w32 y0) x4).1 (a0 + 9) (w32 x4)), vI x4, .ref (a0 + 9)], hp (wI S (a0 + 10) (w32 y0) x4), 0, 0)) rfl ?_
  obtain ⟨b4, F⟩ := F
  refine mv_ial rfl (ha0.2.2.2.2.2.2.2.2.2.1) b4 ?_
  refine mv_iadd rfl ?_
  obtain ⟨b5, F⟩ := F
  refine mv_ias rfl (ha0.2.2.2.2.2.2.2.2.2.1) b5 ?_
  have F := F _ rfl
  refine mv_inc (lv' := [some (.ref a0), some (vI x1), some (vI x2), some (vI x3), some (vI x4), some (vI (x5 + 1)), some (vI x6), some (vI y0)]) 5 1 rfl rfl rfl rfl ?_
  refine mv_goto 58 rfl rfl ?_
  exact ev_wk (le_s (le_s (le_s (le_s (le_s (le_s (le_n (le_n le_0)))))))) F
theorem vc_Code_tellLengths {q : Nat × (Nat → Int32)} {S S' : ms} {r : Option Value} (x1 x2 : Int) (a0 : Nat) (ha0 : isCode a0)
    (F : EV q 73 2 [some (.ref a0), some (vI x1), some (vI x2), some (vI 0)] [] S r S') : EV q 73 0 [some (.ref a0), some (vI x1), some (vI x2), none] [] S r S' := by
  unfold EV
  refine ev_bk 2 (S' := (2, [some (.ref a0), some (vI x1), some (vI x2), some (vI 0)], [], hp S, 0, 0)) rfl ?_
  exact F
theorem vc_Code_tellLengths_2 {q : Nat × (Nat → Int32)} {S S' : ms} {r : Option Value} (x1 x2 x3 : Int) (a0 : Nat) (ha0 : isCode a0)
    (F : ((w32 x1 ≤ w32 x3) → ((¬ w32 x2 = 1) → EV q 73 37 [some (.ref a0), some (vI x1), some (vI x2), some (vI x3)] [] S r S') ∧ ((¬ (¬ w32 x2 = 1)) → (0 ≤ w32 0 ∧ w32 0 < (288 : Nat)) ∧ (0 ≤ w32 (S.1 (a0 + 4) (w32 0)) ∧ w32 (S.1 (a0 + 4) (w32 0)) < (288 : Nat)) ∧ ∀ S3 : ms, S3 = wI S (a0 + 1) (w32 (S.1 (a0 + 4) (w32 0))) 1 → EV q 73 37 [some (.ref a0), some (vI x1), some (vI x2), some (vI x3)] [] S3 r S')) ∧ ((¬ w32 x1 ≤ w32 x3) → (0 ≤ w32 x3 ∧ w32 x3 < (288 : Nat)) ∧ ∀ S5 : ms, S5 = wI S (a0 + 1) (w32 x3) 0 → EV q 73 2 [some (.ref a0), some (vI x1), some (vI x2), some (vI (x3 + 1))] [] S5 r S')) : EV q 73 2 [some (.ref a0), some (vI x1), some (vI x2), some (vI x3)] [] S r S' := by
  unfold EV
  refine ev_bk 2 (S' := (4, [some (.ref a0), some (vI x1), some (vI x2), some (vI x3)], [vI x1, vI x3], hp S, 0, 0)) rfl ?_
  refine mv_icmp 20 rfl rfl (fun c => ?_) (fun c => ?_)
  · have F := F.1 c
    refine ev_bk 2 (S' := (22, [some (.ref a0), some (vI x1), some (vI x2), some (vI x3)], [vI 1, vI x2], hp S, 0, 0)) rfl ?_
    refine mv_icmp 37 rfl rfl (fun c => ?_) (fun c => ?_)
    · have F := F.1 c
      exact F
    · have F := F.2 c
      refine ev_bk 1 (S' := (26, [some (.ref a0), some (vI x1), some (vI x2), some (vI x3)], [.ref a0], hp S, 0, 0)) rfl ?_
      refine mv_gfR rfl rfl (ha0.1) (by decide) rfl ?_
      refine ev_bk 1 (S' := (30, [some (.ref a0), some (vI x1), some (vI x2), some (vI x3)], [.ref a0, .ref (a0 + 1)], hp S, 0, 0)) rfl ?_
      refine mv_gfR rfl rfl (ha0.1) (by decide) rfl ?_
      refine ev_bk 1 (S' := (34, [some (.ref a0), some (vI x1), some (vI x2), some (vI x3)], [vI 0, .ref (a0 + 4), .ref (a0 + 1)], hp S, 0, 0)) rfl ?_
      obtain ⟨b1, F⟩ := F
      refine mv_ial rfl (ha0.2.2.2.2.1) b1 ?_
      refine ev_bk 1 (S' := (36, [some (.ref a0), some (vI x1), some (vI x2), some (vI x3)], [vI 1, vI (S.1 (a0 + 4) (w32 0)), .ref (a0 + 1)], hp S, 0, 0)) rfl ?_
      obtain ⟨b2, F⟩ := F
      refine mv_ias rfl (ha0.2.1) b2 ?_
      have F := F _ rfl
      exact F
  · have F := F.2 c
    refine ev_bk 1 (S' := (8, [some (.ref a0), some (vI x1), some (vI x2), some (vI x3)], [.ref a0], hp S, 0, 0)) rfl ?_
    refine mv_gfR rfl rfl (ha0.1) (by decide) rfl ?_
    refine ev_bk 2 (S' := (13, [some (.ref a0), some (vI x1), some (vI x2), some (vI x3)], [vI 0, vI x3, .ref (a0 + 1)], hp S, 0, 0)) rfl ?_
    obtain ⟨b4, F⟩ := F
    refine mv_ias rfl (ha0.2.1) b4 ?_
    have F := F _ rfl
    refine mv_inc (lv' := [some (.ref a0), some (vI x1), some (vI x2), some (vI (x3 + 1))]) 3 1 rfl rfl rfl rfl ?_
    refine mv_goto 2 rfl rfl ?_
    exact F
theorem vc_Code_tellLengths_37 {q : Nat × (Nat → Int32)} {S S' : ms} {r : Option Value} (x1 x2 x3 : Int) (a0 : Nat) (ha0 : isCode a0)
    (F : ((2 ≤ w32 x2) → (0 ≤ w32 ((2 * x2) - 2) ∧ w32 ((2 * x2) - 2) < (576 : Nat)) ∧ ∀ S2 : ms, S2 = wI S (a0 + 10) (w32 ((2 * x2) - 2)) 0 → EV q 73 60 [some (.ref a0), some (vI x1), some (vI x2), some (vI ((2 * x2) - 3))] [] S2 r S') ∧ ((¬ 2 ≤ w32 x2) → r = none ∧ S' = S)) : EV q 73 37 [some (.ref a0), some (vI x1), some (vI x2), some (vI x3)] [] S r S' := by
  unfold EV
  refine ev_bk 2 (S' := (39, [some (.ref a0), some (vI x1), some (vI x2), some (vI x3)], [vI 2, vI x2], hp S, 0, 0)) rfl ?_
  refine mv_icmp 43 rfl rfl (fun c => ?_) (fun c => ?_)
  · have F := F.1 c
    refine ev_bk 1 (S' := (44, [some (.ref a0), some (vI x1), some (vI x2), some (vI x3)], [.ref a0], hp S, 0, 0)) rfl ?_
    refine mv_gfR rfl rfl (ha0.1) (by decide) rfl ?_
    refine ev_bk 2 (S' := (49, [some (.ref a0), some (vI x1), some (vI x2), some (vI x3)], [vI x2, vI 2, .ref (a0 + 10)], hp S, 0, 0)) rfl ?_
    refine mv_imul rfl ?_
    refine ev_bk 1 (S' := (51, [some (.ref a0), some (vI x1), some (vI x2), some (vI x3)], [vI 2, vI (2 * x2), .ref (a0 + 10)], hp S, 0, 0)) rfl ?_
    refine mv_isub rfl ?_
    refine ev_bk 1 (S' := (53, [some (.ref a0), some (vI x1), some (vI x2), some (vI x3)], [vI 0, vI ((2 * x2) - 2), .ref (a0 + 10)], hp S, 0, 0)) rfl ?_
    obtain ⟨b1, F⟩ := F
    refine mv_ias rfl (ha0.2.2.2.2.2.2.2.2.2.2) b1 ?_
    have F := F _ rfl
    refine ev_bk 2 (S' := (56, [some (.ref a0), some (vI x1), some (vI x2), some (vI x3)], [vI x2, vI 2], hp (wI S (a0 + 10) (w32 ((2 * x2) - 2)) 0), 0, 0)) rfl ?_
    refine mv_imul rfl ?_
    refine ev_bk 1 (S' := (58, [some (.ref a0), some (vI x1), some (vI x2), some (vI x3)], [vI 3, vI (2 * x2)], hp (wI S (a0 + 10) (w32 ((2 * x2) - 2)) 0), 0, 0)) rfl ?_
    refine mv_isub rfl ?_
    refine ev_bk 1 (S' := (60, [some (.ref a0), some (vI x1), some (vI x2), some (vI ((2 * x2) - 3))], [], hp (wI S (a0 + 10) (w32 ((2 * x2) - 2)) 0), 0, 0)) rfl ?_
    exact F
  · have F := F.2 c
    obtain ⟨rfl, rfl⟩ := F
    exact ev_ret rfl rfl
theorem vc_Code_tellLengths_60 {q : Nat × (Nat → Int32)} {S S' : ms} {r : Option Value} (x1 x2 x3 : Int) (a0 : Nat) (ha0 : isCode a0)
    (F : ((w32 x3 < 0) → r = none ∧ S' = S) ∧ ((¬ w32 x3 < 0) → (0 ≤ w32 x3 ∧ w32 x3 < (576 : Nat)) ∧ (0 ≤ w32 (S.1 (a0 + 10) (w32 x3)) ∧ w32 (S.1 (a0 + 10) (w32 x3)) < (576 : Nat)) ∧ (0 ≤ w32 x3 ∧ w32 x3 < (576 : Nat)) ∧ ∀ S4 : ms, S4 = wI S (a0 + 10) (w32 x3) ((S.1 (a0 + 10) (w32 (S.1 (a0 + 10) (w32 x3)))) + 1) → ((w32 x2 ≤ w32 x3) → EV q 73 110 [some (.ref a0), some (vI x1), some (vI x2), some (vI x3)] [] S4 r S') ∧ ((¬ w32 x2 ≤ w32 x3) → (0 ≤ w32 x3 ∧ w32 x3 < (288 : Nat)) ∧ (0 ≤ w32 x3 ∧ w32 x3 < (576 : Nat)) ∧ (0 ≤ w32 (S4.1 (a0 + 4) (w32 x3)) ∧ w32 (S4.1 (a0 + 4) (w32 x3)) < (288 : Nat)) ∧ ∀ S8 : ms, S8 = wI S4 (a0 + 1) (w32 (S4.1 (a0 + 4) (w32 x3))) (min (w32 (S4.1 (a0 + 10) (w32 x3))) (w32 20)) → EV q 73 110 [some (.ref a0), some (vI x1), some (vI x2), some (vI x3)] [] S8 r S'))) : EV q 73 60 [some (.ref a0), some (vI x1), some (vI x2), some (vI x3)] [] S r S' := by
  unfold EV
  refine ev_bk 1 (S' := (61, [some (.ref a0), some (vI x1), some (vI x2), some (vI x3)], [vI x3], hp S, 0, 0)) rfl ?_
  refine mv_if 116 rfl rfl (fun c => ?_) (fun c => ?_)
  · have F := F.1 c
    obtain ⟨rfl, rfl⟩ := F
    exact ev_ret rfl rfl
  · have F := F.2 c
    refine ev_bk 1 (S' := (65, [some (.ref a0), some (vI x1), some (vI x2), some (vI x3)], [.ref a0], hp S, 0, 0)) rfl ?_
    refine mv_gfR rfl rfl (ha0.1) (by decide) rfl ?_
    refine ev_bk 2 (S' := (70, [some (.ref a0), some (vI x1), some (vI x2), some (vI x3)], [.ref a0, vI x3, .ref (a0 + 10)], hp S, 0, 0)) rfl ?_
    refine mv_gfR rfl rfl (ha0.1) (by decide) rfl ?_
    refine ev_bk 1 (S' := (74, [some (.ref a0), some (vI x1), some (vI x2), some (vI x3)], [.ref a0, .ref (a0 + 10), vI x3, .ref (a0 + 10)], hp S, 0, 0)) rfl ?_
    refine mv_gfR rfl rfl (ha0.1) (by decide) rfl ?_
    refine ev_bk 1 (S' := (78, [some (.ref a0), some (vI x1), some (vI x2), some (vI x3)], [vI x3, .ref (a0 + 10), .ref (a0 + 10), vI x3, .ref (a0 + 10)], hp S, 0, 0)) rfl ?_
    obtain ⟨b1, F⟩ := F
    refine mv_ial rfl (ha0.2.2.2.2.2.2.2.2.2.2) b1 ?_
    obtain ⟨b2, F⟩ := F
    refine mv_ial rfl (ha0.2.2.2.2.2.2.2.2.2.2) b2 ?_
    refine ev_bk 1 (S' := (81, [some (.ref a0), some (vI x1), some (vI x2), some (vI x3)], [vI 1, vI (S.1 (a0 + 10) (w32 (S.1 (a0 + 10) (w32 x3)))), vI x3, .ref (a0 + 10)], hp S, 0, 0)) rfl ?_
    refine mv_iadd rfl ?_
    obtain ⟨b3, F⟩ := F
    refine mv_ias rfl (ha0.2.2.2.2.2.2.2.2.2.2) b3 ?_
    have F := F _ rfl
    refine ev_bk 2 (S' := (85, [some (.ref a0), some (vI x1), some (vI x2), some (vI x3)], [vI x2, vI x3], hp (wI S (a0 + 10) (w32 x3) ((S.1 (a0 + 10) (w32 (S.1 (a0 + 10) (w32 x3)))) + 1)), 0, 0)) rfl ?_
    refine mv_icmp 110 rfl rfl (fun c => ?_) (fun c => ?_)
    · have F := F.1 c
      exact F
    · have F := F.2 c
      refine ev_bk 1 (S' := (89, [some (.ref a0), some (vI x1), some (vI x2), some (vI x3)], [.ref a0], hp (wI S (a0 + 10) (w32 x3) ((S.1 (a0 + 10) (w32 (S.1 (a0 + 10) (w32 x3)))) + 1)), 0, 0)) rfl ?_
      refine mv_gfR rfl rfl (ha0.1) (by decide) rfl ?_
      refine ev_bk 1 (S' := (93, [some (.ref a0), some (vI x1), some (vI x2), some (vI x3)], [.ref a0, .ref (a0 + 1)], hp (wI S (a0 + 10) (w32 x3) ((S.1 (a0 + 10) (w32 (S.1 (a0 + 10) (w32 x3)))) + 1)), 0, 0)) rfl ?_
      refine mv_gfR rfl rfl (ha0.1) (by decide) rfl ?_
      refine ev_bk 1 (S' := (97, [some (.ref a0), some (vI x1), some (vI x2), some (vI x3)], [vI x3, .ref (a0 + 4), .ref (a0 + 1)], hp (wI S (a0 + 10) (w32 x3) ((S.1 (a0 + 10) (w32 (S.1 (a0 + 10) (w32 x3)))) + 1)), 0, 0)) rfl ?_
      obtain ⟨b5, F⟩ := F
      refine mv_ial rfl (ha0.2.2.2.2.1) b5 ?_
      refine ev_bk 1 (S' := (99, [some (.ref a0), some (vI x1), some (vI x2), some (vI x3)], [.ref a0, vI ((wI S (a0 + 10) (w32 x3) ((S.1 (a0 + 10) (w32 (S.1 (a0 + 10) (w32 x3)))) + 1)).1 (a0 + 4) (w32 x3)), .ref (a0 + 1)], hp (wI S (a0 + 10) (w32 x3) ((S.1 (a0 + 10) (w32 (S.1 (a0 + 10) (w32 x3)))) + 1)), 0, 0)) rfl ?_
      refine mv_gfR rfl rfl (ha0.1) (by decide) rfl ?_
      refine ev_bk 1 (S' := (103, [some (.ref a0), some (vI x1), some (vI x2), some (vI x3)], [vI x3, .ref (a0 + 10), vI ((wI S (a0 + 10) (w32 x3) ((S.1 (a0 + 10) (w32 (S.1 (a0 + 10) (w32 x3)))) + 1)).1 (a0 + 4) (w32 x3)), .ref (a0 + 1)], hp (wI S (a0 + 10) (w32 x3) ((S.1 (a0 + 10) (w32 (S.1 (a0 + 10) (w32 x3)))) + 1)), 0, 0)) rfl ?_
      obtain ⟨b6, F⟩ := F
      refine mv_ial rfl (ha0.2.2.2.2.2.2.2.2.2.2) b6 ?_
      refine ev_bk 1 (S' := (106, [some (.ref a0), some (vI x1), some (vI x2), some (vI x3)], [vI 20, vI ((wI S (a0 + 10) (w32 x3) ((S.1 (a0 + 10) (w32 (S.1 (a0 + 10) (w32 x3)))) + 1)).1 (a0 + 10) (w32 x3)), vI ((wI S (a0 + 10) (w32 x3) ((S.1 (a0 + 10) (w32 (S.1 (a0 + 10) (w32 x3)))) + 1)).1 (a0 + 4) (w32 x3)), .ref (a0 + 1)], hp (wI S (a0 + 10) (w32 x3) ((S.1 (a0 + 10) (w32 (S.1 (a0 + 10) (w32 x3)))) + 1)), 0, 0)) rfl ?_
      refine mv_min rfl rfl rfl ?_
      obtain ⟨b7, F⟩ := F
      refine mv_ias rfl (ha0.2.1) b7 ?_
      have F := F _ rfl
      exact F
theorem vc_Code_tellLengths_110 {q : Nat × (Nat → Int32)} {S S' : ms} {r : Option Value} (x1 x2 x3 : Int) (a0 : Nat) (ha0 : isCode a0)
    (F : EV q 73 60 [some (.ref a0), some (vI x1), some (vI x2), some (vI (x3 - 1))] [] S r S') : EV q 73 110 [some (.ref a0), some (vI x1), some (vI x2), some (vI x3)] [] S r S' := by
  unfold EV
  refine mv_inc (lv' := [some (.ref a0), some (vI x1), some (vI x2), some (vI (x3 - 1))]) 3 (-1) rfl rfl rfl (by omega) ?_
  refine mv_goto 60 rfl rfl ?_
  exact F
theorem vc_Row_addSevens {q : Nat × (Nat → Int32)} {S S' : ms} {r : Option Value} (x1 : Int) (a0 na0 : Nat) (ha0 : isRow a0 na0)
    (F : EV q 89 4 [some (.ref a0), some (vI x1), some (vI x1), some (vI 0)] [] S r S') : EV q 89 0 [some (.ref a0), some (vI x1), none, none] [] S r S' := by
  unfold EV
  refine ev_bk 4 (S' := (4, [some (.ref a0), some (vI x1), some (vI x1), some (vI 0)], [], hp S, 0, 0)) rfl ?_
  exact F
theorem vc_Row_addSevens_4 {q : Nat × (Nat → Int32)} {S S' : ms} {r : Option Value} (x1 x2 x3 : Int) (a0 na0 : Nat) (ha0 : isRow a0 na0)
    (F : ((5 ≤ w32 x3) → EV q 89 38 [some (.ref a0), some (vI x1), some (vI x2), some (vI x3)] [] S r S') ∧ ((¬ 5 ≤ w32 x3) → ((w32 x2 ≤ 127) → EV q 89 38 [some (.ref a0), some (vI x1), some (vI x2), some (vI x3)] [] S r S') ∧ ((¬ w32 x2 ≤ 127) → ∃ (S1 : ms), EV q 19 0 [some (.ref a0), some (vI (bO 128 (x2 % 128)))] [] S none S1 ∧ EV q 89 4 [some (.ref a0), some (vI x1), some (vI (x2 % 4294967296 / 128)), some (vI (x3 + 1))] [] S1 r S'))) : EV q 89 4 [some (.ref a0), some (vI x1), some (vI x2), some (vI x3)] [] S r S' := by
  unfold EV
  refine ev_bk 2 (S' := (6, [some (.ref a0), some (vI x1), some (vI x2), some (vI x3)], [vI 5, vI x3], hp S, 0, 0)) rfl ?_
  refine mv_icmp 38 rfl rfl (fun c => ?_) (fun c => ?_)
  · have F := F.1 c
    exact F
  · have F := F.2 c
    refine ev_bk 2 (S' := (12, [some (.ref a0), some (vI x1), some (vI x2), some (vI x3)], [vI 127, vI x2], hp S, 0, 0)) rfl ?_
    refine mv_icmp 38 rfl rfl (fun c => ?_) (fun c => ?_)
    · have F := F.1 c
      exact F
    · have F := F.2 c
      refine ev_bk 4 (S' := (22, [some (.ref a0), some (vI x1), some (vI x2), some (vI x3)], [vI 127, vI x2, vI 128, .ref a0], hp S, 0, 0)) rfl ?_
      refine mv_iandm 128 7 (by decide) rfl rfl rfl ?_
      refine mv_ior rfl ?_
      obtain ⟨S1, e2, F⟩ := F
      refine mv_calv (as := [vI (bO 128 (x2 % 128))]) (rest := []) e2 (ha0.1) rfl rfl rfl ⟨rfl, rfl⟩ rfl rfl rfl rfl rfl ?_
      refine ev_bk 2 (S' := (30, [some (.ref a0), some (vI x1), some (vI x2), some (vI x3)], [vI 7, vI x2], hp S1, 0, 0)) rfl ?_
      refine mv_iushr 128 rfl rfl ?_
      refine ev_bk 1 (S' := (32, [some (.ref a0), some (vI x1), some (vI (x2 % 4294967296 / 128)), some (vI x3)], [], hp S1, 0, 0)) rfl ?_
      refine mv_inc (lv' := [some (.ref a0), some (vI x1), some (vI (x2 % 4294967296 / 128)), some (vI (x3 + 1))]) 3 1 rfl rfl rfl rfl ?_
      refine mv_goto 4 rfl rfl ?_
      exact F
theorem vc_Row_addSevens_38 {q : Nat × (Nat → Int32)} {S S' : ms} {r : Option Value} (x1 x2 x3 : Int) (a0 na0 : Nat) (ha0 : isRow a0 na0)
    (F : ∃ (S1 : ms), EV q 19 0 [some (.ref a0), some (vI x2)] [] S none S1 ∧ r = none ∧ S' = S1) : EV q 89 38 [some (.ref a0), some (vI x1), some (vI x2), some (vI x3)] [] S r S' := by
  unfold EV
  refine ev_bk 2 (S' := (40, [some (.ref a0), some (vI x1), some (vI x2), some (vI x3)], [vI x2, .ref a0], hp S, 0, 0)) rfl ?_
  obtain ⟨S1, e2, F⟩ := F
  refine mv_calv (as := [vI x2]) (rest := []) e2 (ha0.1) rfl rfl rfl ⟨rfl, rfl⟩ rfl rfl rfl rfl rfl ?_
  obtain ⟨rfl, rfl⟩ := F
  exact ev_ret rfl rfl
theorem vc_Row_highBits {q : Nat × (Nat → Int32)} {S S' : ms} {r : Option Value} (x1 x3 : Int) (a0 na0 : Nat) (ha0 : isRow a0 na0)
    (F : EV q 98 6 [some (.ref a0), some (vL x1), none, some (vI x3), some (vI x3), some (vI 0), none, none] [] S r S') : EV q 98 0 [some (.ref a0), some (vL x1), none, some (vI x3), none, none, none, none] [] S r S' := by
  unfold EV
  refine ev_bk 4 (S' := (6, [some (.ref a0), some (vL x1), none, some (vI x3), some (vI x3), some (vI 0), none, none], [], hp S, 0, 0)) rfl ?_
  exact F
theorem vc_Row_highBits_6 {q : Nat × (Nat → Int32)} {S S' : ms} {r : Option Value} (x1 x3 x4 x5 : Int) (a0 na0 : Nat) (ha0 : isRow a0 na0)
    (F : ((64 ≤ w32 x5) → r = none ∧ S' = S) ∧ ((¬ 64 ≤ w32 x5) → ((w32 x4 ≤ 0) → r = none ∧ S' = S) ∧ ((¬ w32 x4 ≤ 0) → ((¬ w32 (S.1 a0 3) = 0) → EV q 98 36 [some (.ref a0), some (vL x1), none, some (vI x3), some (vI x4), some (vI x5), none, none] [] S r S') ∧ ((¬ (¬ w32 (S.1 a0 3) = 0)) → ∃ (S1 : ms), EV q 19 0 [some (.ref a0), some (vI 0)] [] S none S1 ∧ ∀ S3 : ms, S3 = wI S1 a0 3 8 → EV q 98 36 [some (.ref a0), some (vL x1), none, some (vI x3), some (vI x4), some (vI x5), none, none] [] S3 r S')))) : EV q 98 6 [some (.ref a0), some (vL x1), none, some (vI x3), some (vI x4), some (vI x5), none, none] [] S r S' := by
  unfold EV
  refine ev_bk 2 (S' := (10, [some (.ref a0), some (vL x1), none, some (vI x3), some (vI x4), some (vI x5), none, none], [vI 64, vI x5], hp S, 0, 0)) rfl ?_
  refine mv_icmp 126 rfl rfl (fun c => ?_) (fun c => ?_)
  · have F := F.1 c
    obtain ⟨rfl, rfl⟩ := F
    exact ev_ret rfl rfl
  · have F := F.2 c
    refine ev_bk 1 (S' := (15, [some (.ref a0), some (vL x1), none, some (vI x3), some (vI x4), some (vI x5), none, none], [vI x4], hp S, 0, 0)) rfl ?_
    refine mv_if 126 rfl rfl (fun c => ?_) (fun c => ?_)
    · have F := F.1 c
      obtain ⟨rfl, rfl⟩ := F
      exact ev_ret rfl rfl
    · have F := F.2 c
      refine ev_bk 1 (S' := (19, [some (.ref a0), some (vL x1), none, some (vI x3), some (vI x4), some (vI x5), none, none], [.ref a0], hp S, 0, 0)) rfl ?_
      refine mv_gfI rfl rfl (ha0.1) (by decide) rfl ?_
      refine mv_if 36 rfl rfl (fun c => ?_) (fun c => ?_)
      · have F := F.1 c
        exact F
      · have F := F.2 c
        refine ev_bk 2 (S' := (27, [some (.ref a0), some (vL x1), none, some (vI x3), some (vI x4), some (vI x5), none, none], [vI 0, .ref a0], hp S, 0, 0)) rfl ?_
        obtain ⟨S1, e2, F⟩ := F
        refine mv_calv (as := [vI 0]) (rest := []) e2 (ha0.1) rfl rfl rfl ⟨rfl, rfl⟩ rfl rfl rfl rfl rfl ?_
        refine ev_bk 2 (S' := (33, [some (.ref a0), some (vL x1), none, some (vI x3), some (vI x4), some (vI x5), none, none], [vI 8, .ref a0], hp S1, 0, 0)) rfl ?_
        refine mv_pfI rfl rfl (ha0.1) (by decide) rfl rfl ?_
        have F := F _ rfl
        exact F
theorem vc_Row_highBits_36 {q : Nat × (Nat → Int32)} {S S' : ms} {r : Option Value} (x1 x3 x4 x5 : Int) (a0 na0 : Nat) (ha0 : isRow a0 na0)
    (F : ((w32 (S.1 a0 1) ≤ 0) → EV q 98 102 [some (.ref a0), some (vL x1), none, some (vI x3), some (vI x4), some (vI x5), some (vI (min (w32 (S.1 a0 3)) (w32 x4))), some (vI (bA (x1 % 18446744073709551616 / ((2 : Int) ^ ((x4 - (min (w32 (S.1 a0 3)) (w32 x4))) % 64).toNat)) ((1 * ((2 : Int) ^ ((min (w32 (S.1 a0 3)) (w32 x4)) % 32).toNat)) - 1)))] [] S r S') ∧ ((¬ w32 (S.1 a0 1) ≤ 0) → ((¬ w32 (S.1 a0 2) = 0) → EV q 98 102 [some (.ref a0), some (vL x1), none, some (vI x3), some (vI x4), some (vI x5), some (vI (min (w32 (S.1 a0 3)) (w32 x4))), some (vI (bA (x1 % 18446744073709551616 / ((2 : Int) ^ ((x4 - (min (w32 (S.1 a0 3)) (w32 x4))) % 64).toNat)) ((1 * ((2 : Int) ^ ((min (w32 (S.1 a0 3)) (w32 x4)) % 32).toNat)) - 1)))] [] S r S') ∧ ((¬ (¬ w32 (S.1 a0 2) = 0)) → (0 ≤ w32 ((S.1 a0 1) - 1) ∧ w32 ((S.1 a0 1) - 1) < (na0 : Nat)) ∧ (0 ≤ w32 ((S.1 a0 1) - 1) ∧ w32 ((S.1 a0 1) - 1) < (na0 : Nat)) ∧ ∀ S3 : ms, S3 = wI S (a0 + 1) (w32 ((S.1 a0 1) - 1)) (bO (S.1 (a0 + 1) (w32 ((S.1 a0 1) - 1))) ((bA (x1 % 18446744073709551616 / ((2 : Int) ^ ((x4 - (min (w32 (S.1 a0 3)) (w32 x4))) % 64).toNat)) ((1 * ((2 : Int) ^ ((min (w32 (S.1 a0 3)) (w32 x4)) % 32).toNat)) - 1)) * ((2 : Int) ^ (((S.1 a0 3) - (min (w32 (S.1 a0 3)) (w32 x4))) % 32).toNat))) → EV q 98 102 [some (.ref a0), some (vL x1), none, some (vI x3), some (vI x4), some (vI x5), some (vI (min (w32 (S.1 a0 3)) (w32 x4))), some (vI (bA (x1 % 18446744073709551616 / ((2 : Int) ^ ((x4 - (min (w32 (S.1 a0 3)) (w32 x4))) % 64).toNat)) ((1 * ((2 : Int) ^ ((min (w32 (S.1 a0 3)) (w32 x4)) % 32).toNat)) - 1)))] [] S3 r S'))) : EV q 98 36 [some (.ref a0), some (vL x1), none, some (vI x3), some (vI x4), some (vI x5), none, none] [] S r S' := by
  unfold EV
  refine ev_bk 1 (S' := (37, [some (.ref a0), some (vL x1), none, some (vI x3), some (vI x4), some (vI x5), none, none], [.ref a0], hp S, 0, 0)) rfl ?_
  refine mv_gfI rfl rfl (ha0.1) (by decide) rfl ?_
  refine ev_bk 1 (S' := (42, [some (.ref a0), some (vL x1), none, some (vI x3), some (vI x4), some (vI x5), none, none], [vI x4, vI (S.1 a0 3)], hp S, 0, 0)) rfl ?_
  refine mv_min rfl rfl rfl ?_
  refine ev_bk 4 (S' := (52, [some (.ref a0), some (vL x1), none, some (vI x3), some (vI x4), some (vI x5), some (vI (min (w32 (S.1 a0 3)) (w32 x4))), none], [vI (min (w32 (S.1 a0 3)) (w32 x4)), vI x4, vL x1], hp S, 0, 0)) rfl ?_
  refine mv_isub rfl ?_
  refine mv_lushr ((2 : Int) ^ ((x4 - (min (w32 (S.1 a0 3)) (w32 x4))) % 64).toNat) rfl rfl ?_
  refine mv_l2i rfl ?_
  refine ev_bk 2 (S' := (58, [some (.ref a0), some (vL x1), none, some (vI x3), some (vI x4), some (vI x5), some (vI (min (w32 (S.1 a0 3)) (w32 x4))), none], [vI (min (w32 (S.1 a0 3)) (w32 x4)), vI 1, vI (x1 % 18446744073709551616 / ((2 : Int) ^ ((x4 - (min (w32 (S.1 a0 3)) (w32 x4))) % 64).toNat))], hp S, 0, 0)) rfl ?_
  refine mv_ishl ((2 : Int) ^ ((min (w32 (S.1 a0 3)) (w32 x4)) % 32).toNat) rfl rfl ?_
  refine ev_bk 1 (S' := (60, [some (.ref a0), some (vL x1), none, some (vI x3), some (vI x4), some (vI x5), some (vI (min (w32 (S.1 a0 3)) (w32 x4))), none], [vI 1, vI (1 * ((2 : Int) ^ ((min (w32 (S.1 a0 3)) (w32 x4)) % 32).toNat)), vI (x1 % 18446744073709551616 / ((2 : Int) ^ ((x4 - (min (w32 (S.1 a0 3)) (w32 x4))) % 64).toNat))], hp S, 0, 0)) rfl ?_
  refine mv_isub rfl ?_
  refine mv_iand rfl ?_
  refine ev_bk 2 (S' := (65, [some (.ref a0), some (vL x1), none, some (vI x3), some (vI x4), some (vI x5), some (vI (min (w32 (S.1 a0 3)) (w32 x4))), some (vI (bA (x1 % 18446744073709551616 / ((2 : Int) ^ ((x4 - (min (w32 (S.1 a0 3)) (w32 x4))) % 64).toNat)) ((1 * ((2 : Int) ^ ((min (w32 (S.1 a0 3)) (w32 x4)) % 32).toNat)) - 1)))], [.ref a0], hp S, 0, 0)) rfl ?_
  refine mv_gfI rfl rfl (ha0.1) (by decide) rfl ?_
  refine mv_if 102 rfl rfl (fun c => ?_) (fun c => ?_)
  · have F := F.1 c
    exact F
  · have F := F.2 c
    refine ev_bk 1 (S' := (72, [some (.ref a0), some (vL x1), none, some (vI x3), some (vI x4), some (vI x5), some (vI (min (w32 (S.1 a0 3)) (w32 x4))), some (vI (bA (x1 % 18446744073709551616 / ((2 : Int) ^ ((x4 - (min (w32 (S.1 a0 3)) (w32 x4))) % 64).toNat)) ((1 * ((2 : Int) ^ ((min (w32 (S.1 a0 3)) (w32 x4)) % 32).toNat)) - 1)))], [.ref a0], hp S, 0, 0)) rfl ?_
    refine mv_gfI rfl rfl (ha0.1) (by decide) rfl ?_
    refine mv_if 102 rfl rfl (fun c => ?_) (fun c => ?_)
    · have F := F.1 c
      exact F
    · have F := F.2 c
      refine ev_bk 1 (S' := (79, [some (.ref a0), some (vL x1), none, some (vI x3), some (vI x4), some (vI x5), some (vI (min (w32 (S.1 a0 3)) (w32 x4))), some (vI (bA (x1 % 18446744073709551616 / ((2 : Int) ^ ((x4 - (min (w32 (S.1 a0 3)) (w32 x4))) % 64).toNat)) ((1 * ((2 : Int) ^ ((min (w32 (S.1 a0 3)) (w32 x4)) % 32).toNat)) - 1)))], [.ref a0], hp S, 0, 0)) rfl ?_
      refine mv_gfR rfl rfl (ha0.1) (by decide) rfl ?_
      refine ev_bk 1 (S' := (83, [some (.ref a0), some (vL x1), none, some (vI x3), some (vI x4), some (vI x5), some (vI (min (w32 (S.1 a0 3)) (w32 x4))), some (vI (bA (x1 % 18446744073709551616 / ((2 : Int) ^ ((x4 - (min (w32 (S.1 a0 3)) (w32 x4))) % 64).toNat)) ((1 * ((2 : Int) ^ ((min (w32 (S.1 a0 3)) (w32 x4)) % 32).toNat)) - 1)))], [.ref a0, .ref (a0 + 1)], hp S, 0, 0)) rfl ?_
      refine mv_gfI rfl rfl (ha0.1) (by decide) rfl ?_
      refine ev_bk 1 (S' := (87, [some (.ref a0), some (vL x1), none, some (vI x3), some (vI x4), some (vI x5), some (vI (min (w32 (S.1 a0 3)) (w32 x4))), some (vI (bA (x1 % 18446744073709551616 / ((2 : Int) ^ ((x4 - (min (w32 (S.1 a0 3)) (w32 x4))) % 64).toNat)) ((1 * ((2 : Int) ^ ((min (w32 (S.1 a0 3)) (w32 x4)) % 32).toNat)) - 1)))], [vI 1, vI (S.1 a0 1), .ref (a0 + 1)], hp S, 0, 0)) rfl ?_
      refine mv_isub rfl ?_
      refine ev_bk 1 (S' := (89, [some (.ref a0), some (vL x1), none, some (vI x3), some (vI x4), some (vI x5), some (vI (min (w32 (S.1 a0 3)) (w32 x4))), some (vI (bA (x1 % 18446744073709551616 / ((2 : Int) ^ ((x4 - (min (w32 (S.1 a0 3)) (w32 x4))) % 64).toNat)) ((1 * ((2 : Int) ^ ((min (w32 (S.1 a0 3)) (w32 x4)) % 32).toNat)) - 1)))], [vI ((S.1 a0 1) - 1), .ref (a0 + 1), vI ((S.1 a0 1) - 1), .ref (a0 + 1)], hp S, 0, 0)) rfl ?_
      obtain ⟨b1, F⟩ := F
      refine mv_ial rfl (ha0.2) b1 ?_
      refine ev_bk 2 (S' := (93, [some (.ref a0), some (vL x1), none, some (vI x3), some (vI x4), some (vI x5), some (vI (min (w32 (S.1 a0 3)) (w32 x4))), some (vI (bA (x1 % 18446744073709551616 / ((2 : Int) ^ ((x4 - (min (w32 (S.1 a0 3)) (w32 x4))) % 64).toNat)) ((1 * ((2 : Int) ^ ((min (w32 (S.1 a0 3)) (w32 x4)) % 32).toNat)) - 1)))], [.ref a0, vI (bA (x1 % 18446744073709551616 / ((2 : Int) ^ ((x4 - (min (w32 (S.1 a0 3)) (w32 x4))) % 64).toNat)) ((1 * ((2 : Int) ^ ((min (w32 (S.1 a0 3)) (w32 x4)) % 32).toNat)) - 1)), vI (S.1 (a0 + 1) (w32 ((S.1 a0 1) - 1))), vI ((S.1 a0 1) - 1), .ref (a0 + 1)], hp S, 0, 0)) rfl ?_
      refine mv_gfI rfl rfl (ha0.1) (by decide) rfl ?_
      refine ev_bk 1 (S' := (98, [some (.ref a0), some (vL x1), none, some (vI x3), some (vI x4), some (vI x5), some (vI (min (w32 (S.1 a0 3)) (w32 x4))), some (vI (bA (x1 % 18446744073709551616 / ((2 : Int) ^ ((x4 - (min (w32 (S.1 a0 3)) (w32 x4))) % 64).toNat)) ((1 * ((2 : Int) ^ ((min (w32 (S.1 a0 3)) (w32 x4)) % 32).toNat)) - 1)))], [vI (min (w32 (S.1 a0 3)) (w32 x4)), vI (S.1 a0 3), vI (bA (x1 % 18446744073709551616 / ((2 : Int) ^ ((x4 - (min (w32 (S.1 a0 3)) (w32 x4))) % 64).toNat)) ((1 * ((2 : Int) ^ ((min (w32 (S.1 a0 3)) (w32 x4)) % 32).toNat)) - 1)), vI (S.1 (a0 + 1) (w32 ((S.1 a0 1) - 1))), vI ((S.1 a0 1) - 1), .ref (a0 + 1)], hp S, 0, 0)) rfl ?_
      refine mv_isub rfl ?_
      refine mv_ishl ((2 : Int) ^ (((S.1 a0 3) - (min (w32 (S.1 a0 3)) (w32 x4))) % 32).toNat) rfl rfl ?_
      refine mv_ior rfl ?_
      obtain ⟨b2, F⟩ := F
      refine mv_ias rfl (ha0.2) b2 ?_
      have F := F _ rfl
      exact F
theorem vc_Row_highBits_102 {q : Nat × (Nat → Int32)} {S S' : ms} {r : Option Value} (x1 x3 x4 x5 x6 x7 : Int) (a0 na0 : Nat) (ha0 : isRow a0 na0)
    (F : ∀ S1 : ms, S1 = wI S a0 3 ((S.1 a0 3) - x6) → EV q 98 6 [some (.ref a0), some (vL x1), none, some (vI x3), some (vI (x4 - x6)), some (vI (x5 + 1)), none, none] [] S1 r S') : EV q 98 102 [some (.ref a0), some (vL x1), none, some (vI x3), some (vI x4), some (vI x5), some (vI x6), some (vI x7)] [] S r S' := by
  unfold EV
  refine ev_bk 2 (S' := (106, [some (.ref a0), some (vL x1), none, some (vI x3), some (vI x4), some (vI x5), some (vI x6), some (vI x7)], [vI x6, vI x4], hp S, 0, 0)) rfl ?_
  refine mv_isub rfl ?_
  refine ev_bk 3 (S' := (111, [some (.ref a0), some (vL x1), none, some (vI x3), some (vI (x4 - x6)), some (vI x5), some (vI x6), some (vI x7)], [.ref a0, .ref a0], hp S, 0, 0)) rfl ?_
  refine mv_gfI rfl rfl (ha0.1) (by decide) rfl ?_
  refine ev_bk 1 (S' := (116, [some (.ref a0), some (vL x1), none, some (vI x3), some (vI (x4 - x6)), some (vI x5), some (vI x6), some (vI x7)], [vI x6, vI (S.1 a0 3), .ref a0], hp S, 0, 0)) rfl ?_
  refine mv_isub rfl ?_
  refine mv_pfI rfl rfl (ha0.1) (by decide) rfl rfl ?_
  have F := F _ rfl
  refine mv_inc (lv' := [some (.ref a0), some (vL x1), none, some (vI x3), some (vI (x4 - x6)), some (vI (x5 + 1)), some (vI x6), some (vI x7)]) 5 1 rfl rfl rfl rfl ?_
  refine mv_goto 6 rfl rfl ?_
  exact ev_wk (le_s (le_s (le_s (le_s (le_s (le_s (le_n (le_n le_0)))))))) F
theorem vc_Source_begin {q : Nat × (Nat → Int32)} {S S' : ms} {r : Option Value} (x1 x3 : Int) (a2 na2 : Nat) (ha2 : isRow a2 na2)
    (F : ∀ S1 : ms, S1 = wR S 9 1 a2 → ∃ (o2 no2 : Nat), S1.2.2 9 1 = o2 ∧ isRow o2 no2 ∧ ∃ (S5 : ms), EV q 37 0 [some (.ref o2)] [] S1 none S5 ∧ ∀ S7 : ms, S7 = wI S5 9 2 (min (w32 x1) (w32 ((6000 : Nat)))) → ∀ S8 : ms, S8 = wI S7 9 3 0 → ∀ S9 : ms, S9 = wI S8 9 4 0 → ∀ S10 : ms, S10 = wI S9 9 5 0 → ∀ S11 : ms, S11 = wI S10 9 6 0 → (x3 = 0 ∨ x3 = 1) ∧ ∀ S13 : ms, S13 = wI S11 9 7 x3 → ∀ S14 : ms, S14 = wI S13 9 8 0 → r = none ∧ S' = S14) : EV q 115 0 [some (.ref 9), some (vI x1), some (.ref a2), some (vI x3)] [] S r S' := by
  unfold EV
  refine ev_bk 2 (S' := (2, [some (.ref 9), some (vI x1), some (.ref a2), some (vI x3)], [.ref a2, .ref 9], hp S, 0, 0)) rfl ?_
  refine mv_pfR rfl rfl (sh_9) (by decide) rfl rfl ?_
  have F := F _ rfl
  refine ev_bk 1 (S' := (6, [some (.ref 9), some (vI x1), some (.ref a2), some (vI x3)], [.ref 9], hp (wR S 9 1 a2), 0, 0)) rfl ?_
  obtain ⟨o2, no2, e4, h3, F⟩ := F
  refine mv_gfV rfl rfl (sh_9) (by decide) rfl e4 ?_
  obtain ⟨S5, e6, F⟩ := F
  refine mv_calv (as := []) (rest := []) e6 (h3.1) rfl rfl rfl ⟨rfl, rfl⟩ rfl rfl rfl rfl rfl ?_
  refine ev_bk 3 (S' := (15, [some (.ref 9), some (vI x1), some (.ref a2), some (vI x3)], [.ref 9, vI x1, .ref 9], hp S5, 0, 0)) rfl ?_
  refine mv_gfR rfl rfl (sh_9) (by decide) rfl ?_
  refine mv_len rfl (sh_2) (by decide) ?_
  refine mv_min rfl rfl rfl ?_
  refine mv_pfI rfl rfl (sh_9) (by decide) rfl rfl ?_
  have F := F _ rfl
  refine ev_bk 2 (S' := (27, [some (.ref 9), some (vI x1), some (.ref a2), some (vI x3)], [vI 0, .ref 9], hp (wI S5 9 2 (min (w32 x1) (w32 ((6000 : Nat))))), 0, 0)) rfl ?_
  refine mv_pfI rfl rfl (sh_9) (by decide) rfl rfl ?_
  have F := F _ rfl
  refine ev_bk 2 (S' := (32, [some (.ref 9), some (vI x1), some (.ref a2), some (vI x3)], [vI 0, .ref 9], hp (wI (wI S5 9 2 (min (w32 x1) (w32 ((6000 : Nat))))) 9 3 0), 0, 0)) rfl ?_
  refine mv_pfI rfl rfl (sh_9) (by decide) rfl rfl ?_
  have F := F _ rfl
  refine ev_bk 2 (S' := (37, [some (.ref 9), some (vI x1), some (.ref a2), some (vI x3)], [vI 0, .ref 9], hp (wI (wI (wI S5 9 2 (min (w32 x1) (w32 ((6000 : Nat))))) 9 3 0) 9 4 0), 0, 0)) rfl ?_
  refine mv_pfI rfl rfl (sh_9) (by decide) rfl rfl ?_
  have F := F _ rfl
  refine ev_bk 2 (S' := (42, [some (.ref 9), some (vI x1), some (.ref a2), some (vI x3)], [vI 0, .ref 9], hp (wI (wI (wI (wI S5 9 2 (min (w32 x1) (w32 ((6000 : Nat))))) 9 3 0) 9 4 0) 9 5 0), 0, 0)) rfl ?_
  refine mv_pfI rfl rfl (sh_9) (by decide) rfl rfl ?_
  have F := F _ rfl
  refine ev_bk 2 (S' := (47, [some (.ref 9), some (vI x1), some (.ref a2), some (vI x3)], [vI x3, .ref 9], hp (wI (wI (wI (wI (wI S5 9 2 (min (w32 x1) (w32 ((6000 : Nat))))) 9 3 0) 9 4 0) 9 5 0) 9 6 0), 0, 0)) rfl ?_
  obtain ⟨b12, F⟩ := F
  refine mv_pfI rfl rfl (sh_9) (by decide) rfl (by rw [show (en_pY pg_P 9 7).1 = .boolean from rfl, nf_z b12]; rfl) ?_
  have F := F _ rfl
  refine ev_bk 2 (S' := (52, [some (.ref 9), some (vI x1), some (.ref a2), some (vI x3)], [vI 0, .ref 9], hp (wI (wI (wI (wI (wI (wI S5 9 2 (min (w32 x1) (w32 ((6000 : Nat))))) 9 3 0) 9 4 0) 9 5 0) 9 6 0) 9 7 x3), 0, 0)) rfl ?_
  refine mv_pfI rfl rfl (sh_9) (by decide) rfl rfl ?_
  have F := F _ rfl
  obtain ⟨rfl, rfl⟩ := F
  exact ev_ret rfl rfl
theorem vc_Source_take {q : Nat × (Nat → Int32)} {S S' : ms} {r : Option Value}
    (F : ((w32 (S.1 9 5) = 0) → ((w32 (S.1 9 3) < 0) → EV q 118 39 [some (.ref 9)] [] S r S') ∧ ((¬ w32 (S.1 9 3) < 0) → ((w32 (S.1 9 2) ≤ w32 (S.1 9 3)) → EV q 118 39 [some (.ref 9)] [] S r S') ∧ ((¬ w32 (S.1 9 2) ≤ w32 (S.1 9 3)) → ((w32 (S.1 9 3) < w32 ((6000 : Nat))) → ∀ S1 : ms, S1 = wI S 9 4 (S.1 9 3) → ∀ S2 : ms, S2 = wI S1 9 3 (S1.1 9 3 + 1) → (0 ≤ w32 (S2.1 9 4) ∧ w32 (S2.1 9 4) < (6000 : Nat)) ∧ r = some (vI (S2.1 2 (w32 (S2.1 9 4)))) ∧ S' = S2) ∧ ((¬ w32 (S.1 9 3) < w32 ((6000 : Nat))) → EV q 118 39 [some (.ref 9)] [] S r S')))) ∧ ((¬ w32 (S.1 9 5) = 0) → r = some (vI 0) ∧ S' = S)) : EV q 118 0 [some (.ref 9)] [] S r S' := by
  unfold EV
  refine ev_bk 1 (S' := (1, [some (.ref 9)], [.ref 9], hp S, 0, 0)) rfl ?_
  refine mv_gfI rfl rfl (sh_9) (by decide) rfl ?_
  refine mv_if 9 rfl rfl (fun c => ?_) (fun c => ?_)
  · have F := F.1 c
    refine ev_bk 1 (S' := (10, [some (.ref 9)], [.ref 9], hp S, 0, 0)) rfl ?_
    refine mv_gfI rfl rfl (sh_9) (by decide) rfl ?_
    refine mv_if 39 rfl rfl (fun c => ?_) (fun c => ?_)
    · have F := F.1 c
      exact F
    · have F := F.2 c
      refine ev_bk 1 (S' := (17, [some (.ref 9)], [.ref 9], hp S, 0, 0)) rfl ?_
      refine mv_gfI rfl rfl (sh_9) (by decide) rfl ?_
      refine ev_bk 1 (S' := (21, [some (.ref 9)], [.ref 9, vI (S.1 9 3)], hp S, 0, 0)) rfl ?_
      refine mv_gfI rfl rfl (sh_9) (by decide) rfl ?_
      refine mv_icmp 39 rfl rfl (fun c => ?_) (fun c => ?_)
      · have F := F.1 c
        exact F
      · have F := F.2 c
        refine ev_bk 1 (S' := (28, [some (.ref 9)], [.ref 9], hp S, 0, 0)) rfl ?_
        refine mv_gfI rfl rfl (sh_9) (by decide) rfl ?_
        refine ev_bk 1 (S' := (32, [some (.ref 9)], [.ref 9, vI (S.1 9 3)], hp S, 0, 0)) rfl ?_
        refine mv_gfR rfl rfl (sh_9) (by decide) rfl ?_
        refine mv_len rfl (sh_2) (by decide) ?_
        refine mv_icmp 54 rfl rfl (fun c => ?_) (fun c => ?_)
        · have F := F.1 c
          refine ev_bk 2 (S' := (56, [some (.ref 9)], [.ref 9, .ref 9], hp S, 0, 0)) rfl ?_
          refine mv_gfI rfl rfl (sh_9) (by decide) rfl ?_
          refine mv_pfI rfl rfl (sh_9) (by decide) rfl rfl ?_
          have F := F _ rfl
          refine ev_bk 2 (S' := (64, [some (.ref 9)], [.ref 9, .ref 9], hp (wI S 9 4 (S.1 9 3)), 0, 0)) rfl ?_
          refine mv_gfI rfl rfl (sh_9) (by decide) rfl ?_
          refine ev_bk 1 (S' := (68, [some (.ref 9)], [vI 1, vI ((wI S 9 4 (S.1 9 3)).1 9 3), .ref 9], hp (wI S 9 4 (S.1 9 3)), 0, 0)) rfl ?_
          refine mv_iadd rfl ?_
          refine mv_pfI rfl rfl (sh_9) (by decide) rfl rfl ?_
          have F := F _ rfl
          refine ev_bk 1 (S' := (73, [some (.ref 9)], [.ref 9], hp (wI (wI S 9 4 (S.1 9 3)) 9 3 ((wI S 9 4 (S.1 9 3)).1 9 3 + 1)), 0, 0)) rfl ?_
          refine mv_gfR rfl rfl (sh_9) (by decide) rfl ?_
          refine ev_bk 1 (S' := (77, [some (.ref 9)], [.ref 9, .ref 2], hp (wI (wI S 9 4 (S.1 9 3)) 9 3 ((wI S 9 4 (S.1 9 3)).1 9 3 + 1)), 0, 0)) rfl ?_
          refine mv_gfI rfl rfl (sh_9) (by decide) rfl ?_
          obtain ⟨b3, F⟩ := F
          refine mv_ial rfl (sh_2) b3 ?_
          obtain ⟨rfl, rfl⟩ := F
          exact ev_ret rfl rfl
        · have F := F.2 c
          exact F
  · have F := F.2 c
    refine ev_bk 1 (S' := (8, [some (.ref 9)], [vI 0], hp S, 0, 0)) rfl ?_
    obtain ⟨rfl, rfl⟩ := F
    exact ev_ret rfl rfl
theorem vc_Source_take_39 {q : Nat × (Nat → Int32)} {S S' : ms} {r : Option Value}
    (F : ∀ S1 : ms, S1 = wI S 9 5 1 → ∀ S2 : ms, S2 = wI S1 9 6 (S1.1 9 2) → r = some (vI 0) ∧ S' = S2) : EV q 118 39 [some (.ref 9)] [] S r S' := by
  unfold EV
  refine ev_bk 2 (S' := (41, [some (.ref 9)], [vI 1, .ref 9], hp S, 0, 0)) rfl ?_
  refine mv_pfI rfl rfl (sh_9) (by decide) rfl rfl ?_
  have F := F _ rfl
  refine ev_bk 2 (S' := (46, [some (.ref 9)], [.ref 9, .ref 9], hp (wI S 9 5 1), 0, 0)) rfl ?_
  refine mv_gfI rfl rfl (sh_9) (by decide) rfl ?_
  refine mv_pfI rfl rfl (sh_9) (by decide) rfl rfl ?_
  have F := F _ rfl
  refine ev_bk 1 (S' := (53, [some (.ref 9)], [vI 0], hp (wI (wI S 9 5 1) 9 6 ((wI S 9 5 1).1 9 2)), 0, 0)) rfl ?_
  obtain ⟨rfl, rfl⟩ := F
  exact ev_ret rfl rfl
theorem vc_Source_emitTaken {q : Nat × (Nat → Int32)} {S S' : ms} {r : Option Value} (x1 : Int)
    (F : EV q 119 2 [some (.ref 9), some (vL x1), none, some (vL 0), none] [] S r S') : EV q 119 0 [some (.ref 9), some (vL x1), none, none, none] [] S r S' := by
  unfold EV
  refine ev_bk 2 (S' := (2, [some (.ref 9), some (vL x1), none, some (vL 0), none], [], hp S, 0, 0)) rfl ?_
  exact F
theorem vc_Source_emitTaken_2 {q : Nat × (Nat → Int32)} {S S' : ms} {r : Option Value} (x1 x3 : Int)
    (F : ((w64 x1 ≤ w64 x3) → r = none ∧ S' = S) ∧ ((¬ w64 x1 ≤ w64 x3) → ((¬ w32 (S.1 9 5) = 0) → r = none ∧ S' = S) ∧ ((¬ (¬ w32 (S.1 9 5) = 0)) → ∃ (z3 : Int) (S1 : ms), EV q 118 0 [some (.ref 9)] [] S (some (vI z3)) S1 ∧ ∃ (S4 : ms), EV q 120 0 [some (.ref 9), some (vI z3)] [] S1 none S4 ∧ EV q 119 2 [some (.ref 9), some (vL x1), none, some (vL (x3 + 1)), none] [] S4 r S'))) : EV q 119 2 [some (.ref 9), some (vL x1), none, some (vL x3), none] [] S r S' := by
  unfold EV
  refine ev_bk 2 (S' := (4, [some (.ref 9), some (vL x1), none, some (vL x3), none], [vL x1, vL x3], hp S, 0, 0)) rfl ?_
  refine mv_lif 30 rfl rfl rfl (fun c => ?_) (fun c => ?_)
  · have F := F.1 c
    obtain ⟨rfl, rfl⟩ := F
    exact ev_ret rfl rfl
  · have F := F.2 c
    refine ev_bk 1 (S' := (9, [some (.ref 9), some (vL x1), none, some (vL x3), none], [.ref 9], hp S, 0, 0)) rfl ?_
    refine mv_gfI rfl rfl (sh_9) (by decide) rfl ?_
    refine mv_if 30 rfl rfl (fun c => ?_) (fun c => ?_)
    · have F := F.1 c
      obtain ⟨rfl, rfl⟩ := F
      exact ev_ret rfl rfl
    · have F := F.2 c
      refine ev_bk 2 (S' := (17, [some (.ref 9), some (vL x1), none, some (vL x3), none], [.ref 9, .ref 9], hp S, 0, 0)) rfl ?_
      obtain ⟨z3, S1, e2, F⟩ := F
      refine mv_calv (as := []) (rest := [.ref 9]) e2 (sh_9) rfl rfl rfl ⟨rfl, rfl⟩ rfl rfl rfl rfl rfl ?_
      obtain ⟨S4, e5, F⟩ := F
      refine mv_calv (as := [vI z3]) (rest := []) e5 (sh_9) rfl rfl rfl ⟨rfl, rfl⟩ rfl rfl rfl rfl rfl ?_
      refine ev_bk 2 (S' := (25, [some (.ref 9), some (vL x1), none, some (vL x3), none], [vL 1, vL x3], hp S4, 0, 0)) rfl ?_
      refine mv_ladd rfl ?_
      refine ev_bk 1 (S' := (27, [some (.ref 9), some (vL x1), none, some (vL (x3 + 1)), none], [], hp S4, 0, 0)) rfl ?_
      refine mv_goto 2 rfl rfl ?_
      exact F
theorem vc_Source_emit {q : Nat × (Nat → Int32)} {S S' : ms} {r : Option Value} (x1 : Int)
    (F : ((w32 (S.1 9 5) = 0) → ∃ (o1 no1 : Nat), S.2.2 9 1 = o1 ∧ isRow o1 no1 ∧ ((12000 ≤ w32 (S.1 o1 1)) → EV q 120 39 [some (.ref 9), some (vI x1)] [] S r S') ∧ ((¬ 12000 ≤ w32 (S.1 o1 1)) → ∃ (o4 no4 : Nat), S.2.2 9 1 = o4 ∧ isRow o4 no4 ∧ ∃ (o7 no7 : Nat), S.2.2 9 1 = o7 ∧ isRow o7 no7 ∧ ((w32 (S.1 o4 1) < w32 ((no7 : Nat))) → ∃ (o10 no10 : Nat), S.2.2 9 1 = o10 ∧ isRow o10 no10 ∧ ∃ (o13 no13 : Nat), S.2.2 9 1 = o13 ∧ isRow o13 no13 ∧ (0 ≤ w32 (S.1 o13 1) ∧ w32 (S.1 o13 1) < (no10 : Nat)) ∧ ∀ S17 : ms, S17 = wI S (o10 + 1) (w32 (S.1 o13 1)) (x1 % 256) → ∃ (o18 no18 : Nat), S17.2.2 9 1 = o18 ∧ isRow o18 no18 ∧ ∀ S21 : ms, S21 = wI S17 o18 1 (S17.1 o18 1 + 1) → r = none ∧ S' = S21) ∧ ((¬ w32 (S.1 o4 1) < w32 ((no7 : Nat))) → EV q 120 39 [some (.ref 9), some (vI x1)] [] S r S'))) ∧ ((¬ w32 (S.1 9 5) = 0) → r = none ∧ S' = S)) : EV q 120 0 [some (.ref 9), some (vI x1)] [] S r S' := by
  unfold EV
  refine ev_bk 1 (S' := (1, [some (.ref 9), some (vI x1)], [.ref 9], hp S, 0, 0)) rfl ?_
  refine mv_gfI rfl rfl (sh_9) (by decide) rfl ?_
  refine mv_if 8 rfl rfl (fun c => ?_) (fun c => ?_)
  · have F := F.1 c
    refine ev_bk 1 (S' := (9, [some (.ref 9), some (vI x1)], [.ref 9], hp S, 0, 0)) rfl ?_
    obtain ⟨o1, no1, e3, h2, F⟩ := F
    refine mv_gfV rfl rfl (sh_9) (by decide) rfl e3 ?_
    refine mv_gfI rfl rfl (h2.1) (by decide) rfl ?_
    refine ev_bk 1 (S' := (18, [some (.ref 9), some (vI x1)], [vI 12000, vI (S.1 o1 1)], hp S, 0, 0)) rfl ?_
    refine mv_icmp 39 rfl rfl (fun c => ?_) (fun c => ?_)
    · have F := F.1 c
      exact F
    · have F := F.2 c
      refine ev_bk 1 (S' := (22, [some (.ref 9), some (vI x1)], [.ref 9], hp S, 0, 0)) rfl ?_
      obtain ⟨o4, no4, e6, h5, F⟩ := F
      refine mv_gfV rfl rfl (sh_9) (by decide) rfl e6 ?_
      refine mv_gfI rfl rfl (h5.1) (by decide) rfl ?_
      refine ev_bk 1 (S' := (29, [some (.ref 9), some (vI x1)], [.ref 9, vI (S.1 o4 1)], hp S, 0, 0)) rfl ?_
      obtain ⟨o7, no7, e9, h8, F⟩ := F
      refine mv_gfV rfl rfl (sh_9) (by decide) rfl e9 ?_
      refine mv_gfR rfl rfl (h8.1) (by decide) rfl ?_
      refine mv_len rfl (h8.2) (by decide) ?_
      refine mv_icmp 54 rfl rfl (fun c => ?_) (fun c => ?_)
      · have F := F.1 c
        refine ev_bk 1 (S' := (55, [some (.ref 9), some (vI x1)], [.ref 9], hp S, 0, 0)) rfl ?_
        obtain ⟨o10, no10, e12, h11, F⟩ := F
        refine mv_gfV rfl rfl (sh_9) (by decide) rfl e12 ?_
        refine mv_gfR rfl rfl (h11.1) (by decide) rfl ?_
        refine ev_bk 1 (S' := (62, [some (.ref 9), some (vI x1)], [.ref 9, .ref (o10 + 1)], hp S, 0, 0)) rfl ?_
        obtain ⟨o13, no13, e15, h14, F⟩ := F
        refine mv_gfV rfl rfl (sh_9) (by decide) rfl e15 ?_
        refine mv_gfI rfl rfl (h14.1) (by decide) rfl ?_
        refine ev_bk 2 (S' := (72, [some (.ref 9), some (vI x1)], [vI 255, vI x1, vI (S.1 o13 1), .ref (o10 + 1)], hp S, 0, 0)) rfl ?_
        refine mv_iandm 256 8 (by decide) rfl rfl rfl ?_
        obtain ⟨b16, F⟩ := F
        refine mv_ias rfl (h11.2) b16 ?_
        have F := F _ rfl
        refine ev_bk 1 (S' := (75, [some (.ref 9), some (vI x1)], [.ref 9], hp (wI S (o10 + 1) (w32 (S.1 o13 1)) (x1 % 256)), 0, 0)) rfl ?_
        obtain ⟨o18, no18, e20, h19, F⟩ := F
        refine mv_gfV rfl rfl (sh_9) (by decide) rfl e20 ?_
        refine ev_bk 1 (S' := (79, [some (.ref 9), some (vI x1)], [.ref o18, .ref o18], hp (wI S (o10 + 1) (w32 (S.1 o13 1)) (x1 % 256)), 0, 0)) rfl ?_
        refine mv_gfI rfl rfl (h19.1) (by decide) rfl ?_
        refine ev_bk 1 (S' := (83, [some (.ref 9), some (vI x1)], [vI 1, vI ((wI S (o10 + 1) (w32 (S.1 o13 1)) (x1 % 256)).1 o18 1), .ref o18], hp (wI S (o10 + 1) (w32 (S.1 o13 1)) (x1 % 256)), 0, 0)) rfl ?_
        refine mv_iadd rfl ?_
        refine mv_pfI rfl rfl (h19.1) (by decide) rfl rfl ?_
        have F := F _ rfl
        obtain ⟨rfl, rfl⟩ := F
        exact ev_ret rfl rfl
      · have F := F.2 c
        exact F
  · have F := F.2 c
    obtain ⟨rfl, rfl⟩ := F
    exact ev_ret rfl rfl
theorem vc_Source_emit_39 {q : Nat × (Nat → Int32)} {S S' : ms} {r : Option Value} (x1 : Int)
    (F : ∀ S1 : ms, S1 = wI S 9 5 13 → ∀ S2 : ms, S2 = wI S1 9 6 (S1.1 9 4) → r = none ∧ S' = S2) : EV q 120 39 [some (.ref 9), some (vI x1)] [] S r S' := by
  unfold EV
  refine ev_bk 2 (S' := (42, [some (.ref 9), some (vI x1)], [vI 13, .ref 9], hp S, 0, 0)) rfl ?_
  refine mv_pfI rfl rfl (sh_9) (by decide) rfl rfl ?_
  have F := F _ rfl
  refine ev_bk 2 (S' := (47, [some (.ref 9), some (vI x1)], [.ref 9, .ref 9], hp (wI S 9 5 13), 0, 0)) rfl ?_
  refine mv_gfI rfl rfl (sh_9) (by decide) rfl ?_
  refine mv_pfI rfl rfl (sh_9) (by decide) rfl rfl ?_
  have F := F _ rfl
  obtain ⟨rfl, rfl⟩ := F
  exact ev_ret rfl rfl
theorem vc_Source_emitTimes {q : Nat × (Nat → Int32)} {S S' : ms} {r : Option Value} (x1 x2 : Int)
    (F : EV q 121 2 [some (.ref 9), some (vI x1), some (vI x2), some (vI 0)] [] S r S') : EV q 121 0 [some (.ref 9), some (vI x1), some (vI x2), none] [] S r S' := by
  unfold EV
  refine ev_bk 2 (S' := (2, [some (.ref 9), some (vI x1), some (vI x2), some (vI 0)], [], hp S, 0, 0)) rfl ?_
  exact F
theorem vc_Source_emitTimes_2 {q : Nat × (Nat → Int32)} {S S' : ms} {r : Option Value} (x1 x2 x3 : Int)
    (F : ((w32 x2 ≤ w32 x3) → r = none ∧ S' = S) ∧ ((¬ w32 x2 ≤ w32 x3) → ((¬ w32 (S.1 9 5) = 0) → r = none ∧ S' = S) ∧ ((¬ (¬ w32 (S.1 9 5) = 0)) → ∃ (S1 : ms), EV q 120 0 [some (.ref 9), some (vI x1)] [] S none S1 ∧ EV q 121 2 [some (.ref 9), some (vI x1), some (vI x2), some (vI (x3 + 1))] [] S1 r S'))) : EV q 121 2 [some (.ref 9), some (vI x1), some (vI x2), some (vI x3)] [] S r S' := by
  unfold EV
  refine ev_bk 2 (S' := (4, [some (.ref 9), some (vI x1), some (vI x2), some (vI x3)], [vI x2, vI x3], hp S, 0, 0)) rfl ?_
  refine mv_icmp 25 rfl rfl (fun c => ?_) (fun c => ?_)
  · have F := F.1 c
    obtain ⟨rfl, rfl⟩ := F
    exact ev_ret rfl rfl
  · have F := F.2 c
    refine ev_bk 1 (S' := (8, [some (.ref 9), some (vI x1), some (vI x2), some (vI x3)], [.ref 9], hp S, 0, 0)) rfl ?_
    refine mv_gfI rfl rfl (sh_9) (by decide) rfl ?_
    refine mv_if 25 rfl rfl (fun c => ?_) (fun c => ?_)
    · have F := F.1 c
      obtain ⟨rfl, rfl⟩ := F
      exact ev_ret rfl rfl
    · have F := F.2 c
      refine ev_bk 2 (S' := (16, [some (.ref 9), some (vI x1), some (vI x2), some (vI x3)], [vI x1, .ref 9], hp S, 0, 0)) rfl ?_
      obtain ⟨S1, e2, F⟩ := F
      refine mv_calv (as := [vI x1]) (rest := []) e2 (sh_9) rfl rfl rfl ⟨rfl, rfl⟩ rfl rfl rfl rfl rfl ?_
      refine mv_inc (lv' := [some (.ref 9), some (vI x1), some (vI x2), some (vI (x3 + 1))]) 3 1 rfl rfl rfl rfl ?_
      refine mv_goto 2 rfl rfl ?_
      exact F
theorem vc_Source_takeBits {q : Nat × (Nat → Int32)} {S S' : ms} {r : Option Value} (x1 : Int)
    (F : EV q 123 5 [some (.ref 9), some (vI x1), some (vL 0), none, some (vI 0)] [] S r S') : EV q 123 0 [some (.ref 9), some (vI x1), none, none, none] [] S r S' := by
  unfold EV
  refine ev_bk 4 (S' := (5, [some (.ref 9), some (vI x1), some (vL 0), none, some (vI 0)], [], hp S, 0, 0)) rfl ?_
  exact F
theorem vc_Source_takeBits_5 {q : Nat × (Nat → Int32)} {S S' : ms} {r : Option Value} (x1 x2 x4 : Int)
    (F : ((w32 x1 ≤ w32 x4) → r = some (vL x2) ∧ S' = S) ∧ ((¬ w32 x1 ≤ w32 x4) → ((¬ w32 (S.1 9 8) = 0) → EV q 123 32 [some (.ref 9), some (vI x1), some (vL x2), none, some (vI x4)] [] S r S') ∧ ((¬ (¬ w32 (S.1 9 8) = 0)) → ∃ (z3 : Int) (S1 : ms), EV q 118 0 [some (.ref 9)] [] S (some (vI z3)) S1 ∧ ∀ S4 : ms, S4 = wI S1 9 9 z3 → ∀ S5 : ms, S5 = wI S4 9 8 8 → EV q 123 32 [some (.ref 9), some (vI x1), some (vL x2), none, some (vI x4)] [] S5 r S'))) : EV q 123 5 [some (.ref 9), some (vI x1), some (vL x2), none, some (vI x4)] [] S r S' := by
  unfold EV
  refine ev_bk 2 (S' := (8, [some (.ref 9), some (vI x1), some (vL x2), none, some (vI x4)], [vI x1, vI x4], hp S, 0, 0)) rfl ?_
  refine mv_icmp 107 rfl rfl (fun c => ?_) (fun c => ?_)
  · have F := F.1 c
    refine ev_bk 1 (S' := (108, [some (.ref 9), some (vI x1), some (vL x2), none, some (vI x4)], [vL x2], hp S, 0, 0)) rfl ?_
    obtain ⟨rfl, rfl⟩ := F
    exact ev_ret rfl rfl
  · have F := F.2 c
    refine ev_bk 1 (S' := (12, [some (.ref 9), some (vI x1), some (vL x2), none, some (vI x4)], [.ref 9], hp S, 0, 0)) rfl ?_
    refine mv_gfI rfl rfl (sh_9) (by decide) rfl ?_
    refine mv_if 32 rfl rfl (fun c => ?_) (fun c => ?_)
    · have F := F.1 c
      exact F
    · have F := F.2 c
      refine ev_bk 2 (S' := (20, [some (.ref 9), some (vI x1), some (vL x2), none, some (vI x4)], [.ref 9, .ref 9], hp S, 0, 0)) rfl ?_
      obtain ⟨z3, S1, e2, F⟩ := F
      refine mv_calv (as := []) (rest := [.ref 9]) e2 (sh_9) rfl rfl rfl ⟨rfl, rfl⟩ rfl rfl rfl rfl rfl ?_
      refine mv_pfI rfl rfl (sh_9) (by decide) rfl rfl ?_
      have F := F _ rfl
      refine ev_bk 2 (S' := (29, [some (.ref 9), some (vI x1), some (vL x2), none, some (vI x4)], [vI 8, .ref 9], hp (wI S1 9 9 z3), 0, 0)) rfl ?_
      refine mv_pfI rfl rfl (sh_9) (by decide) rfl rfl ?_
      have F := F _ rfl
      exact F
theorem vc_Source_takeBits_32 {q : Nat × (Nat → Int32)} {S S' : ms} {r : Option Value} (x1 x2 x4 : Int)
    (F : ((w32 (S.1 9 5) = 0) → ((w32 (S.1 9 7) = 0) → EV q 123 91 [some (.ref 9), some (vI x1), some (vL (lO x2 ((w32 ((w32 (S.1 9 9) / ((2 : Int) ^ ((8 - (S.1 9 8)) % 32).toNat)) % 2)) * ((2 : Int) ^ (x4 % 64).toNat)))), none, some (vI x4)] [] S r S') ∧ ((¬ w32 (S.1 9 7) = 0) → EV q 123 91 [some (.ref 9), some (vI x1), some (vL (lO (x2 * 2) (w32 ((w32 (S.1 9 9) / ((2 : Int) ^ (((S.1 9 8) - 1) % 32).toNat)) % 2)))), none, some (vI x4)] [] S r S')) ∧ ((¬ w32 (S.1 9 5) = 0) → r = some (vL 0) ∧ S' = S)) : EV q 123 32 [some (.ref 9), some (vI x1), some (vL x2), none, some (vI x4)] [] S r S' := by
  unfold EV
  refine ev_bk 1 (S' := (33, [some (.ref 9), some (vI x1), some (vL x2), none, some (vI x4)], [.ref 9], hp S, 0, 0)) rfl ?_
  refine mv_gfI rfl rfl (sh_9) (by decide) rfl ?_
  refine mv_if 41 rfl rfl (fun c => ?_) (fun c => ?_)
  · have F := F.1 c
    refine ev_bk 1 (S' := (42, [some (.ref 9), some (vI x1), some (vL x2), none, some (vI x4)], [.ref 9], hp S, 0, 0)) rfl ?_
    refine mv_gfI rfl rfl (sh_9) (by decide) rfl ?_
    refine mv_if 70 rfl rfl (fun c => ?_) (fun c => ?_)
    · have F := F.1 c
      refine ev_bk 2 (S' := (72, [some (.ref 9), some (vI x1), some (vL x2), none, some (vI x4)], [.ref 9, vL x2], hp S, 0, 0)) rfl ?_
      refine mv_gfI rfl rfl (sh_9) (by decide) rfl ?_
      refine ev_bk 2 (S' := (78, [some (.ref 9), some (vI x1), some (vL x2), none, some (vI x4)], [.ref 9, vI 8, vI (S.1 9 9), vL x2], hp S, 0, 0)) rfl ?_
      refine mv_gfI rfl rfl (sh_9) (by decide) rfl ?_
      refine mv_isub rfl ?_
      refine mv_ishr ((2 : Int) ^ ((8 - (S.1 9 8)) % 32).toNat) rfl rfl ?_
      refine ev_bk 1 (S' := (84, [some (.ref 9), some (vI x1), some (vL x2), none, some (vI x4)], [vI 1, vI (w32 (S.1 9 9) / ((2 : Int) ^ ((8 - (S.1 9 8)) % 32).toNat)), vL x2], hp S, 0, 0)) rfl ?_
      refine mv_iandm 2 1 (by decide) rfl rfl rfl ?_
      refine mv_i2l rfl ?_
      refine ev_bk 1 (S' := (88, [some (.ref 9), some (vI x1), some (vL x2), none, some (vI x4)], [vI x4, vL (w32 ((w32 (S.1 9 9) / ((2 : Int) ^ ((8 - (S.1 9 8)) % 32).toNat)) % 2)), vL x2], hp S, 0, 0)) rfl ?_
      refine mv_lshl ((2 : Int) ^ (x4 % 64).toNat) rfl rfl ?_
      refine mv_lor rfl ?_
      refine ev_bk 1 (S' := (91, [some (.ref 9), some (vI x1), some (vL (lO x2 ((w32 ((w32 (S.1 9 9) / ((2 : Int) ^ ((8 - (S.1 9 8)) % 32).toNat)) % 2)) * ((2 : Int) ^ (x4 % 64).toNat)))), none, some (vI x4)], [], hp S, 0, 0)) rfl ?_
      exact F
    · have F := F.2 c
      refine ev_bk 2 (S' := (50, [some (.ref 9), some (vI x1), some (vL x2), none, some (vI x4)], [vI 1, vL x2], hp S, 0, 0)) rfl ?_
      refine mv_lshl 2 rfl rfl ?_
      refine ev_bk 1 (S' := (52, [some (.ref 9), some (vI x1), some (vL x2), none, some (vI x4)], [.ref 9, vL (x2 * 2)], hp S, 0, 0)) rfl ?_
      refine mv_gfI rfl rfl (sh_9) (by decide) rfl ?_
      refine ev_bk 1 (S' := (56, [some (.ref 9), some (vI x1), some (vL x2), none, some (vI x4)], [.ref 9, vI (S.1 9 9), vL (x2 * 2)], hp S, 0, 0)) rfl ?_
      refine mv_gfI rfl rfl (sh_9) (by decide) rfl ?_
      refine ev_bk 1 (S' := (60, [some (.ref 9), some (vI x1), some (vL x2), none, some (vI x4)], [vI 1, vI (S.1 9 8), vI (S.1 9 9), vL (x2 * 2)], hp S, 0, 0)) rfl ?_
      refine mv_isub rfl ?_
      refine mv_ishr ((2 : Int) ^ (((S.1 9 8) - 1) % 32).toNat) rfl rfl ?_
      refine ev_bk 1 (S' := (63, [some (.ref 9), some (vI x1), some (vL x2), none, some (vI x4)], [vI 1, vI (w32 (S.1 9 9) / ((2 : Int) ^ (((S.1 9 8) - 1) % 32).toNat)), vL (x2 * 2)], hp S, 0, 0)) rfl ?_
      refine mv_iandm 2 1 (by decide) rfl rfl rfl ?_
      refine mv_i2l rfl ?_
      refine mv_lor rfl ?_
      refine ev_bk 1 (S' := (67, [some (.ref 9), some (vI x1), some (vL (lO (x2 * 2) (w32 ((w32 (S.1 9 9) / ((2 : Int) ^ (((S.1 9 8) - 1) % 32).toNat)) % 2)))), none, some (vI x4)], [], hp S, 0, 0)) rfl ?_
      refine mv_goto 91 rfl rfl ?_
      exact F
  · have F := F.2 c
    refine ev_bk 1 (S' := (40, [some (.ref 9), some (vI x1), some (vL x2), none, some (vI x4)], [vL 0], hp S, 0, 0)) rfl ?_
    obtain ⟨rfl, rfl⟩ := F
    exact ev_ret rfl rfl
theorem vc_Source_takeBits_91 {q : Nat × (Nat → Int32)} {S S' : ms} {r : Option Value} (x1 x2 x4 : Int)
    (F : ∀ S1 : ms, S1 = wI S 9 8 ((S.1 9 8) - 1) → EV q 123 5 [some (.ref 9), some (vI x1), some (vL x2), none, some (vI (x4 + 1))] [] S1 r S') : EV q 123 91 [some (.ref 9), some (vI x1), some (vL x2), none, some (vI x4)] [] S r S' := by
  unfold EV
  refine ev_bk 2 (S' := (93, [some (.ref 9), some (vI x1), some (vL x2), none, some (vI x4)], [.ref 9, .ref 9], hp S, 0, 0)) rfl ?_
  refine mv_gfI rfl rfl (sh_9) (by decide) rfl ?_
  refine ev_bk 1 (S' := (97, [some (.ref 9), some (vI x1), some (vL x2), none, some (vI x4)], [vI 1, vI (S.1 9 8), .ref 9], hp S, 0, 0)) rfl ?_
  refine mv_isub rfl ?_
  refine mv_pfI rfl rfl (sh_9) (by decide) rfl rfl ?_
  have F := F _ rfl
  refine mv_inc (lv' := [some (.ref 9), some (vI x1), some (vL x2), none, some (vI (x4 + 1))]) 4 1 rfl rfl rfl rfl ?_
  refine mv_goto 5 rfl rfl ?_
  exact F
theorem vc_Source_tell {q : Nat × (Nat → Int32)} {S S' : ms} {r : Option Value} (x1 : Int)
    (F : ((¬ w32 (S.1 9 5) = 0) → r = none ∧ S' = S) ∧ ((¬ (¬ w32 (S.1 9 5) = 0)) → ∀ S1 : ms, S1 = wI S 9 5 x1 → ∀ S2 : ms, S2 = wI S1 9 6 (S1.1 9 4) → r = none ∧ S' = S2)) : EV q 124 0 [some (.ref 9), some (vI x1)] [] S r S' := by
  unfold EV
  refine ev_bk 1 (S' := (1, [some (.ref 9), some (vI x1)], [.ref 9], hp S, 0, 0)) rfl ?_
  refine mv_gfI rfl rfl (sh_9) (by decide) rfl ?_
  refine mv_if 20 rfl rfl (fun c => ?_) (fun c => ?_)
  · have F := F.1 c
    obtain ⟨rfl, rfl⟩ := F
    exact ev_ret rfl rfl
  · have F := F.2 c
    refine ev_bk 2 (S' := (9, [some (.ref 9), some (vI x1)], [vI x1, .ref 9], hp S, 0, 0)) rfl ?_
    refine mv_pfI rfl rfl (sh_9) (by decide) rfl rfl ?_
    have F := F _ rfl
    refine ev_bk 2 (S' := (14, [some (.ref 9), some (vI x1)], [.ref 9, .ref 9], hp (wI S 9 5 x1), 0, 0)) rfl ?_
    refine mv_gfI rfl rfl (sh_9) (by decide) rfl ?_
    refine mv_pfI rfl rfl (sh_9) (by decide) rfl rfl ?_
    have F := F _ rfl
    obtain ⟨rfl, rfl⟩ := F
    exact ev_ret rfl rfl
theorem vc_Source_mustEnd {q : Nat × (Nat → Int32)} {S S' : ms} {r : Option Value}
    (F : ((w32 (S.1 9 2) ≤ w32 (S.1 9 3)) → r = none ∧ S' = S) ∧ ((¬ w32 (S.1 9 2) ≤ w32 (S.1 9 3)) → ∃ (S1 : ms), EV q 126 0 [some (.ref 9), some (vI 14), some (vI (S.1 9 3))] [] S none S1 ∧ r = none ∧ S' = S1)) : EV q 125 0 [some (.ref 9)] [] S r S' := by
  unfold EV
  refine ev_bk 1 (S' := (1, [some (.ref 9)], [.ref 9], hp S, 0, 0)) rfl ?_
  refine mv_gfI rfl rfl (sh_9) (by decide) rfl ?_
  refine ev_bk 1 (S' := (5, [some (.ref 9)], [.ref 9, vI (S.1 9 3)], hp S, 0, 0)) rfl ?_
  refine mv_gfI rfl rfl (sh_9) (by decide) rfl ?_
  refine mv_icmp 21 rfl rfl (fun c => ?_) (fun c => ?_)
  · have F := F.1 c
    obtain ⟨rfl, rfl⟩ := F
    exact ev_ret rfl rfl
  · have F := F.2 c
    refine ev_bk 3 (S' := (15, [some (.ref 9)], [.ref 9, vI 14, .ref 9], hp S, 0, 0)) rfl ?_
    refine mv_gfI rfl rfl (sh_9) (by decide) rfl ?_
    obtain ⟨S1, e2, F⟩ := F
    refine mv_calv (as := [vI 14, vI (S.1 9 3)]) (rest := []) e2 (sh_9) rfl rfl rfl ⟨rfl, rfl⟩ rfl rfl rfl rfl rfl ?_
    obtain ⟨rfl, rfl⟩ := F
    exact ev_ret rfl rfl
theorem vc_Source_tellAt {q : Nat × (Nat → Int32)} {S S' : ms} {r : Option Value} (x1 x2 : Int)
    (F : ((¬ w32 (S.1 9 5) = 0) → r = none ∧ S' = S) ∧ ((¬ (¬ w32 (S.1 9 5) = 0)) → ∀ S1 : ms, S1 = wI S 9 5 x1 → ∀ S2 : ms, S2 = wI S1 9 6 x2 → r = none ∧ S' = S2)) : EV q 126 0 [some (.ref 9), some (vI x1), some (vI x2)] [] S r S' := by
  unfold EV
  refine ev_bk 1 (S' := (1, [some (.ref 9), some (vI x1), some (vI x2)], [.ref 9], hp S, 0, 0)) rfl ?_
  refine mv_gfI rfl rfl (sh_9) (by decide) rfl ?_
  refine mv_if 17 rfl rfl (fun c => ?_) (fun c => ?_)
  · have F := F.1 c
    obtain ⟨rfl, rfl⟩ := F
    exact ev_ret rfl rfl
  · have F := F.2 c
    refine ev_bk 2 (S' := (9, [some (.ref 9), some (vI x1), some (vI x2)], [vI x1, .ref 9], hp S, 0, 0)) rfl ?_
    refine mv_pfI rfl rfl (sh_9) (by decide) rfl rfl ?_
    have F := F _ rfl
    refine ev_bk 2 (S' := (14, [some (.ref 9), some (vI x1), some (vI x2)], [vI x2, .ref 9], hp (wI S 9 5 x1), 0, 0)) rfl ?_
    refine mv_pfI rfl rfl (sh_9) (by decide) rfl rfl ?_
    have F := F _ rfl
    obtain ⟨rfl, rfl⟩ := F
    exact ev_ret rfl rfl
theorem vc_Source_emitCopy {q : Nat × (Nat → Int32)} {S S' : ms} {r : Option Value} (x1 x3 : Int)
    (F : EV q 128 3 [some (.ref 9), some (vL x1), none, some (vL x3), none, some (vL 0), none] [] S r S') : EV q 128 0 [some (.ref 9), some (vL x1), none, some (vL x3), none, none, none] [] S r S' := by
  unfold EV
  refine ev_bk 2 (S' := (3, [some (.ref 9), some (vL x1), none, some (vL x3), none, some (vL 0), none], [], hp S, 0, 0)) rfl ?_
  exact F
theorem vc_Source_emitCopy_3 {q : Nat × (Nat → Int32)} {S S' : ms} {r : Option Value} (x1 x3 x5 : Int)
    (F : ((w64 x3 ≤ w64 x5) → r = none ∧ S' = S) ∧ ((¬ w64 x3 ≤ w64 x5) → ((¬ w32 (S.1 9 5) = 0) → r = none ∧ S' = S) ∧ ((¬ (¬ w32 (S.1 9 5) = 0)) → ((w64 x1 ≤ w64 0) → EV q 128 58 [some (.ref 9), some (vL x1), none, some (vL x3), none, some (vL x5), none] [.ref 9] S r S') ∧ ((¬ w64 x1 ≤ w64 0) → ∃ (o1 no1 : Nat), S.2.2 9 1 = o1 ∧ isRow o1 no1 ∧ ((w64 (w32 (S.1 o1 1)) < w64 x1) → EV q 128 58 [some (.ref 9), some (vL x1), none, some (vL x3), none, some (vL x5), none] [.ref 9] S r S') ∧ ((¬ w64 (w32 (S.1 o1 1)) < w64 x1) → ∃ (o4 no4 : Nat), S.2.2 9 1 = o4 ∧ isRow o4 no4 ∧ ∃ (o7 no7 : Nat), S.2.2 9 1 = o7 ∧ isRow o7 no7 ∧ (0 ≤ w32 ((S.1 o7 1) - x1) ∧ w32 ((S.1 o7 1) - x1) < (no4 : Nat)) ∧ EV q 128 59 [some (.ref 9), some (vL x1), none, some (vL x3), none, some (vL x5), none] [vI (S.1 (o4 + 1) (w32 ((S.1 o7 1) - x1))), .ref 9] S r S'))))) : EV q 128 3 [some (.ref 9), some (vL x1), none, some (vL x3), none, some (vL x5), none] [] S r S' := by
  unfold EV
  refine ev_bk 2 (S' := (6, [some (.ref 9), some (vL x1), none, some (vL x3), none, some (vL x5), none], [vL x3, vL x5], hp S, 0, 0)) rfl ?_
  refine mv_lif 71 rfl rfl rfl (fun c => ?_) (fun c => ?_)
  · have F := F.1 c
    obtain ⟨rfl, rfl⟩ := F
    exact ev_ret rfl rfl
  · have F := F.2 c
    refine ev_bk 1 (S' := (11, [some (.ref 9), some (vL x1), none, some (vL x3), none, some (vL x5), none], [.ref 9], hp S, 0, 0)) rfl ?_
    refine mv_gfI rfl rfl (sh_9) (by decide) rfl ?_
    refine mv_if 71 rfl rfl (fun c => ?_) (fun c => ?_)
    · have F := F.1 c
      obtain ⟨rfl, rfl⟩ := F
      exact ev_ret rfl rfl
    · have F := F.2 c
      refine ev_bk 3 (S' := (20, [some (.ref 9), some (vL x1), none, some (vL x3), none, some (vL x5), none], [vL 0, vL x1, .ref 9], hp S, 0, 0)) rfl ?_
      refine mv_lif 58 rfl rfl rfl (fun c => ?_) (fun c => ?_)
      · have F := F.1 c
        exact F
      · have F := F.2 c
        refine ev_bk 2 (S' := (26, [some (.ref 9), some (vL x1), none, some (vL x3), none, some (vL x5), none], [.ref 9, vL x1, .ref 9], hp S, 0, 0)) rfl ?_
        obtain ⟨o1, no1, e3, h2, F⟩ := F
        refine mv_gfV rfl rfl (sh_9) (by decide) rfl e3 ?_
        refine mv_gfI rfl rfl (h2.1) (by decide) rfl ?_
        refine mv_i2l rfl ?_
        refine mv_lif 58 rfl rfl rfl (fun c => ?_) (fun c => ?_)
        · have F := F.1 c
          exact F
        · have F := F.2 c
          refine ev_bk 1 (S' := (38, [some (.ref 9), some (vL x1), none, some (vL x3), none, some (vL x5), none], [.ref 9, .ref 9], hp S, 0, 0)) rfl ?_
          obtain ⟨o4, no4, e6, h5, F⟩ := F
          refine mv_gfV rfl rfl (sh_9) (by decide) rfl e6 ?_
          refine mv_gfR rfl rfl (h5.1) (by decide) rfl ?_
          refine ev_bk 1 (S' := (45, [some (.ref 9), some (vL x1), none, some (vL x3), none, some (vL x5), none], [.ref 9, .ref (o4 + 1), .ref 9], hp S, 0, 0)) rfl ?_
          obtain ⟨o7, no7, e9, h8, F⟩ := F
          refine mv_gfV rfl rfl (sh_9) (by decide) rfl e9 ?_
          refine mv_gfI rfl rfl (h8.1) (by decide) rfl ?_
          refine ev_bk 1 (S' := (52, [some (.ref 9), some (vL x1), none, some (vL x3), none, some (vL x5), none], [vL x1, vI (S.1 o7 1), .ref (o4 + 1), .ref 9], hp S, 0, 0)) rfl ?_
          refine mv_l2i rfl ?_
          refine mv_isub rfl ?_
          obtain ⟨b10, F⟩ := F
          refine mv_ial rfl (h5.2) b10 ?_
          refine mv_goto 59 rfl rfl ?_
          exact F
theorem vc_Source_emitCopy_58 {q : Nat × (Nat → Int32)} {S S' : ms} {r : Option Value} (x1 x3 x5 : Int)
    (F : EV q 128 59 [some (.ref 9), some (vL x1), none, some (vL x3), none, some (vL x5), none] [vI 0, .ref 9] S r S') : EV q 128 58 [some (.ref 9), some (vL x1), none, some (vL x3), none, some (vL x5), none] [.ref 9] S r S' := by
  unfold EV
  refine ev_bk 1 (S' := (59, [some (.ref 9), some (vL x1), none, some (vL x3), none, some (vL x5), none], [vI 0, .ref 9], hp S, 0, 0)) rfl ?_
  exact F
theorem vc_Source_emitCopy_59 {q : Nat × (Nat → Int32)} {S S' : ms} {r : Option Value} (x1 x3 x5 y0 : Int)
    (F : ∃ (S1 : ms), EV q 120 0 [some (.ref 9), some (vI y0)] [] S none S1 ∧ EV q 128 3 [some (.ref 9), some (vL x1), none, some (vL x3), none, some (vL (x5 + 1)), none] [] S1 r S') : EV q 128 59 [some (.ref 9), some (vL x1), none, some (vL x3), none, some (vL x5), none] [vI y0, .ref 9] S r S' := by
  unfold EV
  obtain ⟨S1, e2, F⟩ := F
  refine mv_calv (as := [vI y0]) (rest := []) e2 (sh_9) rfl rfl rfl ⟨rfl, rfl⟩ rfl rfl rfl rfl rfl ?_
  refine ev_bk 2 (S' := (65, [some (.ref 9), some (vL x1), none, some (vL x3), none, some (vL x5), none], [vL 1, vL x5], hp S1, 0, 0)) rfl ?_
  refine mv_ladd rfl ?_
  refine ev_bk 1 (S' := (68, [some (.ref 9), some (vL x1), none, some (vL x3), none, some (vL (x5 + 1)), none], [], hp S1, 0, 0)) rfl ?_
  refine mv_goto 3 rfl rfl ?_
  exact F
theorem vc_Source_closeOctet {q : Nat × (Nat → Int32)} {S S' : ms} {r : Option Value}
    (F : ∀ S1 : ms, S1 = wI S 9 8 0 → r = none ∧ S' = S1) : EV q 131 0 [some (.ref 9)] [] S r S' := by
  unfold EV
  refine ev_bk 2 (S' := (2, [some (.ref 9)], [vI 0, .ref 9], hp S, 0, 0)) rfl ?_
  refine mv_pfI rfl rfl (sh_9) (by decide) rfl rfl ?_
  have F := F _ rfl
  obtain ⟨rfl, rfl⟩ := F
  exact ev_ret rfl rfl
theorem vc_Source_takeLow {q : Nat × (Nat → Int32)} {S S' : ms} {r : Option Value} (x1 : Int)
    (F : EV q 132 5 [some (.ref 9), some (vI x1), some (vL 0), none, some (vI 0)] [] S r S') : EV q 132 0 [some (.ref 9), some (vI x1), none, none, none] [] S r S' := by
  unfold EV
  refine ev_bk 4 (S' := (5, [some (.ref 9), some (vI x1), some (vL 0), none, some (vI 0)], [], hp S, 0, 0)) rfl ?_
  exact F
theorem vc_Source_takeLow_5 {q : Nat × (Nat → Int32)} {S S' : ms} {r : Option Value} (x1 x2 x4 : Int)
    (F : ((w32 x1 ≤ w32 x4) → r = some (vL x2) ∧ S' = S) ∧ ((¬ w32 x1 ≤ w32 x4) → ∃ (z3 : Int) (S1 : ms), EV q 118 0 [some (.ref 9)] [] S (some (vI z3)) S1 ∧ EV q 132 5 [some (.ref 9), some (vI x1), some (vL (lO x2 ((w32 z3) * ((2 : Int) ^ ((8 * x4) % 64).toNat)))), none, some (vI (x4 + 1))] [] S1 r S')) : EV q 132 5 [some (.ref 9), some (vI x1), some (vL x2), none, some (vI x4)] [] S r S' := by
  unfold EV
  refine ev_bk 2 (S' := (8, [some (.ref 9), some (vI x1), some (vL x2), none, some (vI x4)], [vI x1, vI x4], hp S, 0, 0)) rfl ?_
  refine mv_icmp 31 rfl rfl (fun c => ?_) (fun c => ?_)
  · have F := F.1 c
    refine ev_bk 1 (S' := (32, [some (.ref 9), some (vI x1), some (vL x2), none, some (vI x4)], [vL x2], hp S, 0, 0)) rfl ?_
    obtain ⟨rfl, rfl⟩ := F
    exact ev_ret rfl rfl
  · have F := F.2 c
    refine ev_bk 2 (S' := (13, [some (.ref 9), some (vI x1), some (vL x2), none, some (vI x4)], [.ref 9, vL x2], hp S, 0, 0)) rfl ?_
    obtain ⟨z3, S1, e2, F⟩ := F
    refine mv_calv (as := []) (rest := [vL x2]) e2 (sh_9) rfl rfl rfl ⟨rfl, rfl⟩ rfl rfl rfl rfl rfl ?_
    refine mv_i2l rfl ?_
    refine ev_bk 2 (S' := (21, [some (.ref 9), some (vI x1), some (vL x2), none, some (vI x4)], [vI x4, vI 8, vL (w32 z3), vL x2], hp S1, 0, 0)) rfl ?_
    refine mv_imul rfl ?_
    refine mv_lshl ((2 : Int) ^ ((8 * x4) % 64).toNat) rfl rfl ?_
    refine mv_lor rfl ?_
    refine ev_bk 1 (S' := (25, [some (.ref 9), some (vI x1), some (vL (lO x2 ((w32 z3) * ((2 : Int) ^ ((8 * x4) % 64).toNat)))), none, some (vI x4)], [], hp S1, 0, 0)) rfl ?_
    refine mv_inc (lv' := [some (.ref 9), some (vI x1), some (vL (lO x2 ((w32 z3) * ((2 : Int) ^ ((8 * x4) % 64).toNat)))), none, some (vI (x4 + 1))]) 4 1 rfl rfl rfl rfl ?_
    refine mv_goto 5 rfl rfl ?_
    exact F
theorem vc_Source_symbol {q : Nat × (Nat → Int32)} {S S' : ms} {r : Option Value} (x2 : Int) (a1 : Nat) (ha1 : isCode a1)
    (F : EV q 134 11 [some (.ref 9), some (.ref a1), some (vI x2), some (vI 0), some (vI 0), some (vI 0), some (vI 1), none] [] S r S') : EV q 134 0 [some (.ref 9), some (.ref a1), some (vI x2), none, none, none, none, none] [] S r S' := by
  unfold EV
  refine ev_bk 8 (S' := (11, [some (.ref 9), some (.ref a1), some (vI x2), some (vI 0), some (vI 0), some (vI 0), some (vI 1), none], [], hp S, 0, 0)) rfl ?_
  exact F
theorem vc_Source_symbol_11 {q : Nat × (Nat → Int32)} {S S' : ms} {r : Option Value} (x2 x3 x4 x5 x6 : Int) (a1 : Nat) (ha1 : isCode a1)
    (F : ((w32 (S.1 a1 5) < w32 x6) → ∃ (S1 : ms), EV q 124 0 [some (.ref 9), some (vI x2)] [] S none S1 ∧ r = some (vI ((-1))) ∧ S' = S1) ∧ ((¬ w32 (S.1 a1 5) < w32 x6) → ((¬ w32 (S.1 9 8) = 0) → EV q 134 41 [some (.ref 9), some (.ref a1), some (vI x2), some (vI x3), some (vI x4), some (vI x5), some (vI x6), none] [] S r S') ∧ ((¬ (¬ w32 (S.1 9 8) = 0)) → ∃ (z5 : Int) (S3 : ms), EV q 118 0 [some (.ref 9)] [] S (some (vI z5)) S3 ∧ ∀ S6 : ms, S6 = wI S3 9 9 z5 → ∀ S7 : ms, S7 = wI S6 9 8 8 → EV q 134 41 [some (.ref 9), some (.ref a1), some (vI x2), some (vI x3), some (vI x4), some (vI x5), some (vI x6), none] [] S7 r S'))) : EV q 134 11 [some (.ref 9), some (.ref a1), some (vI x2), some (vI x3), some (vI x4), some (vI x5), some (vI x6), none] [] S r S' := by
  unfold EV
  refine ev_bk 2 (S' := (14, [some (.ref 9), some (.ref a1), some (vI x2), some (vI x3), some (vI x4), some (vI x5), some (vI x6), none], [.ref a1, vI x6], hp S, 0, 0)) rfl ?_
  refine mv_gfI rfl rfl (ha1.1) (by decide) rfl ?_
  refine mv_icmp 155 rfl rfl (fun c => ?_) (fun c => ?_)
  · have F := F.1 c
    refine ev_bk 2 (S' := (157, [some (.ref 9), some (.ref a1), some (vI x2), some (vI x3), some (vI x4), some (vI x5), some (vI x6), none], [vI x2, .ref 9], hp S, 0, 0)) rfl ?_
    obtain ⟨S1, e2, F⟩ := F
    refine mv_calv (as := [vI x2]) (rest := []) e2 (sh_9) rfl rfl rfl ⟨rfl, rfl⟩ rfl rfl rfl rfl rfl ?_
    refine ev_bk 1 (S' := (161, [some (.ref 9), some (.ref a1), some (vI x2), some (vI x3), some (vI x4), some (vI x5), some (vI x6), none], [vI ((-1))], hp S1, 0, 0)) rfl ?_
    obtain ⟨rfl, rfl⟩ := F
    exact ev_ret rfl rfl
  · have F := F.2 c
    refine ev_bk 1 (S' := (21, [some (.ref 9), some (.ref a1), some (vI x2), some (vI x3), some (vI x4), some (vI x5), some (vI x6), none], [.ref 9], hp S, 0, 0)) rfl ?_
    refine mv_gfI rfl rfl (sh_9) (by decide) rfl ?_
    refine mv_if 41 rfl rfl (fun c => ?_) (fun c => ?_)
    · have F := F.1 c
      exact F
    · have F := F.2 c
      refine ev_bk 2 (S' := (29, [some (.ref 9), some (.ref a1), some (vI x2), some (vI x3), some (vI x4), some (vI x5), some (vI x6), none], [.ref 9, .ref 9], hp S, 0, 0)) rfl ?_
      obtain ⟨z5, S3, e4, F⟩ := F
      refine mv_calv (as := []) (rest := [.ref 9]) e4 (sh_9) rfl rfl rfl ⟨rfl, rfl⟩ rfl rfl rfl rfl rfl ?_
      refine mv_pfI rfl rfl (sh_9) (by decide) rfl rfl ?_
      have F := F _ rfl
      refine ev_bk 2 (S' := (38, [some (.ref 9), some (.ref a1), some (vI x2), some (vI x3), some (vI x4), some (vI x5), some (vI x6), none], [vI 8, .ref 9], hp (wI S3 9 9 z5), 0, 0)) rfl ?_
      refine mv_pfI rfl rfl (sh_9) (by decide) rfl rfl ?_
      have F := F _ rfl
      exact F
theorem vc_Source_symbol_41 {q : Nat × (Nat → Int32)} {S S' : ms} {r : Option Value} (x2 x3 x4 x5 x6 : Int) (a1 : Nat) (ha1 : isCode a1)
    (F : ((w32 (S.1 9 5) = 0) → ((w32 (S.1 9 7) = 0) → EV q 134 84 [some (.ref 9), some (.ref a1), some (vI x2), some (vI x3), some (vI x4), some (vI x5), some (vI x6), none] [vI (w32 (S.1 9 9) / ((2 : Int) ^ ((8 - (S.1 9 8)) % 32).toNat)), vI x3] S r S') ∧ ((¬ w32 (S.1 9 7) = 0) → EV q 134 84 [some (.ref 9), some (.ref a1), some (vI x2), some (vI x3), some (vI x4), some (vI x5), some (vI x6), none] [vI (w32 (S.1 9 9) / ((2 : Int) ^ (((S.1 9 8) - 1) % 32).toNat)), vI x3] S r S')) ∧ ((¬ w32 (S.1 9 5) = 0) → r = some (vI ((-1))) ∧ S' = S)) : EV q 134 41 [some (.ref 9), some (.ref a1), some (vI x2), some (vI x3), some (vI x4), some (vI x5), some (vI x6), none] [] S r S' := by
  unfold EV
  refine ev_bk 1 (S' := (42, [some (.ref 9), some (.ref a1), some (vI x2), some (vI x3), some (vI x4), some (vI x5), some (vI x6), none], [.ref 9], hp S, 0, 0)) rfl ?_
  refine mv_gfI rfl rfl (sh_9) (by decide) rfl ?_
  refine mv_if 50 rfl rfl (fun c => ?_) (fun c => ?_)
  · have F := F.1 c
    refine ev_bk 2 (S' := (52, [some (.ref 9), some (.ref a1), some (vI x2), some (vI x3), some (vI x4), some (vI x5), some (vI x6), none], [.ref 9, vI x3], hp S, 0, 0)) rfl ?_
    refine mv_gfI rfl rfl (sh_9) (by decide) rfl ?_
    refine mv_if 72 rfl rfl (fun c => ?_) (fun c => ?_)
    · have F := F.1 c
      refine ev_bk 1 (S' := (73, [some (.ref 9), some (.ref a1), some (vI x2), some (vI x3), some (vI x4), some (vI x5), some (vI x6), none], [.ref 9, vI x3], hp S, 0, 0)) rfl ?_
      refine mv_gfI rfl rfl (sh_9) (by decide) rfl ?_
      refine ev_bk 2 (S' := (79, [some (.ref 9), some (.ref a1), some (vI x2), some (vI x3), some (vI x4), some (vI x5), some (vI x6), none], [.ref 9, vI 8, vI (S.1 9 9), vI x3], hp S, 0, 0)) rfl ?_
      refine mv_gfI rfl rfl (sh_9) (by decide) rfl ?_
      refine mv_isub rfl ?_
      refine mv_ishr ((2 : Int) ^ ((8 - (S.1 9 8)) % 32).toNat) rfl rfl ?_
      exact F
    · have F := F.2 c
      refine ev_bk 1 (S' := (59, [some (.ref 9), some (.ref a1), some (vI x2), some (vI x3), some (vI x4), some (vI x5), some (vI x6), none], [.ref 9, vI x3], hp S, 0, 0)) rfl ?_
      refine mv_gfI rfl rfl (sh_9) (by decide) rfl ?_
      refine ev_bk 1 (S' := (63, [some (.ref 9), some (.ref a1), some (vI x2), some (vI x3), some (vI x4), some (vI x5), some (vI x6), none], [.ref 9, vI (S.1 9 9), vI x3], hp S, 0, 0)) rfl ?_
      refine mv_gfI rfl rfl (sh_9) (by decide) rfl ?_
      refine ev_bk 1 (S' := (67, [some (.ref 9), some (.ref a1), some (vI x2), some (vI x3), some (vI x4), some (vI x5), some (vI x6), none], [vI 1, vI (S.1 9 8), vI (S.1 9 9), vI x3], hp S, 0, 0)) rfl ?_
      refine mv_isub rfl ?_
      refine mv_ishr ((2 : Int) ^ (((S.1 9 8) - 1) % 32).toNat) rfl rfl ?_
      refine mv_goto 84 rfl rfl ?_
      exact F
  · have F := F.2 c
    refine ev_bk 1 (S' := (49, [some (.ref 9), some (.ref a1), some (vI x2), some (vI x3), some (vI x4), some (vI x5), some (vI x6), none], [vI ((-1))], hp S, 0, 0)) rfl ?_
    obtain ⟨rfl, rfl⟩ := F
    exact ev_ret rfl rfl
theorem vc_Source_symbol_84 {q : Nat × (Nat → Int32)} {S S' : ms} {r : Option Value} (x2 x3 x4 x5 x6 y0 y1 : Int) (a1 : Nat) (ha1 : isCode a1)
    (F : ∀ S1 : ms, S1 = wI S 9 8 ((S.1 9 8) - 1) → (0 ≤ w32 x6 ∧ w32 x6 < (21 : Nat)) ∧ ((w32 (S1.1 (a1 + 5) (w32 x6)) ≤ w32 ((bO y1 (y0 % 2)) - x4)) → EV q 134 11 [some (.ref 9), some (.ref a1), some (vI x2), some (vI ((bO y1 (y0 % 2)) * 2)), some (vI ((x4 + (S1.1 (a1 + 5) (w32 x6))) * 2)), some (vI (x5 + (S1.1 (a1 + 5) (w32 x6)))), some (vI (x6 + 1)), none] [] S1 r S') ∧ ((¬ w32 (S1.1 (a1 + 5) (w32 x6)) ≤ w32 ((bO y1 (y0 % 2)) - x4)) → (0 ≤ w32 ((x5 + (bO y1 (y0 % 2))) - x4) ∧ w32 ((x5 + (bO y1 (y0 % 2))) - x4) < (288 : Nat)) ∧ r = some (vI (S1.1 (a1 + 4) (w32 ((x5 + (bO y1 (y0 % 2))) - x4)))) ∧ S' = S1)) : EV q 134 84 [some (.ref 9), some (.ref a1), some (vI x2), some (vI x3), some (vI x4), some (vI x5), some (vI x6), none] [vI y0, vI y1] S r S' := by
  unfold EV
  refine ev_bk 1 (S' := (85, [some (.ref 9), some (.ref a1), some (vI x2), some (vI x3), some (vI x4), some (vI x5), some (vI x6), none], [vI 1, vI y0, vI y1], hp S, 0, 0)) rfl ?_
  refine mv_iandm 2 1 (by decide) rfl rfl rfl ?_
  refine mv_ior rfl ?_
  refine ev_bk 3 (S' := (90, [some (.ref 9), some (.ref a1), some (vI x2), some (vI (bO y1 (y0 % 2))), some (vI x4), some (vI x5), some (vI x6), none], [.ref 9, .ref 9], hp S, 0, 0)) rfl ?_
  refine mv_gfI rfl rfl (sh_9) (by decide) rfl ?_
  refine ev_bk 1 (S' := (94, [some (.ref 9), some (.ref a1), some (vI x2), some (vI (bO y1 (y0 % 2))), some (vI x4), some (vI x5), some (vI x6), none], [vI 1, vI (S.1 9 8), .ref 9], hp S, 0, 0)) rfl ?_
  refine mv_isub rfl ?_
  refine mv_pfI rfl rfl (sh_9) (by decide) rfl rfl ?_
  have F := F _ rfl
  refine ev_bk 1 (S' := (99, [some (.ref 9), some (.ref a1), some (vI x2), some (vI (bO y1 (y0 % 2))), some (vI x4), some (vI x5), some (vI x6), none], [.ref a1], hp (wI S 9 8 ((S.1 9 8) - 1)), 0, 0)) rfl ?_
  refine mv_gfR rfl rfl (ha1.1) (by decide) rfl ?_
  refine ev_bk 1 (S' := (104, [some (.ref 9), some (.ref a1), some (vI x2), some (vI (bO y1 (y0 % 2))), some (vI x4), some (vI x5), some (vI x6), none], [vI x6, .ref (a1 + 5)], hp (wI S 9 8 ((S.1 9 8) - 1)), 0, 0)) rfl ?_
  obtain ⟨b2, F⟩ := F
  refine mv_ial rfl (ha1.2.2.2.2.2.1) b2 ?_
  refine ev_bk 3 (S' := (110, [some (.ref 9), some (.ref a1), some (vI x2), some (vI (bO y1 (y0 % 2))), some (vI x4), some (vI x5), some (vI x6), some (vI ((wI S 9 8 ((S.1 9 8) - 1)).1 (a1 + 5) (w32 x6)))], [vI x4, vI (bO y1 (y0 % 2))], hp (wI S 9 8 ((S.1 9 8) - 1)), 0, 0)) rfl ?_
  refine mv_isub rfl ?_
  refine ev_bk 1 (S' := (113, [some (.ref 9), some (.ref a1), some (vI x2), some (vI (bO y1 (y0 % 2))), some (vI x4), some (vI x5), some (vI x6), some (vI ((wI S 9 8 ((S.1 9 8) - 1)).1 (a1 + 5) (w32 x6)))], [vI ((wI S 9 8 ((S.1 9 8) - 1)).1 (a1 + 5) (w32 x6)), vI ((bO y1 (y0 % 2)) - x4)], hp (wI S 9 8 ((S.1 9 8) - 1)), 0, 0)) rfl ?_
  refine mv_icmp 129 rfl rfl (fun c => ?_) (fun c => ?_)
  · have F := F.1 c
    refine ev_bk 2 (S' := (133, [some (.ref 9), some (.ref a1), some (vI x2), some (vI (bO y1 (y0 % 2))), some (vI x4), some (vI x5), some (vI x6), some (vI ((wI S 9 8 ((S.1 9 8) - 1)).1 (a1 + 5) (w32 x6)))], [vI ((wI S 9 8 ((S.1 9 8) - 1)).1 (a1 + 5) (w32 x6)), vI x5], hp (wI S 9 8 ((S.1 9 8) - 1)), 0, 0)) rfl ?_
    refine mv_iadd rfl ?_
    refine ev_bk 3 (S' := (140, [some (.ref 9), some (.ref a1), some (vI x2), some (vI (bO y1 (y0 % 2))), some (vI x4), some (vI (x5 + ((wI S 9 8 ((S.1 9 8) - 1)).1 (a1 + 5) (w32 x6)))), some (vI x6), some (vI ((wI S 9 8 ((S.1 9 8) - 1)).1 (a1 + 5) (w32 x6)))], [vI ((wI S 9 8 ((S.1 9 8) - 1)).1 (a1 + 5) (w32 x6)), vI x4], hp (wI S 9 8 ((S.1 9 8) - 1)), 0, 0)) rfl ?_
    refine mv_iadd rfl ?_
    refine ev_bk 1 (S' := (142, [some (.ref 9), some (.ref a1), some (vI x2), some (vI (bO y1 (y0 % 2))), some (vI x4), some (vI (x5 + ((wI S 9 8 ((S.1 9 8) - 1)).1 (a1 + 5) (w32 x6)))), some (vI x6), some (vI ((wI S 9 8 ((S.1 9 8) - 1)).1 (a1 + 5) (w32 x6)))], [vI 1, vI (x4 + ((wI S 9 8 ((S.1 9 8) - 1)).1 (a1 + 5) (w32 x6)))], hp (wI S 9 8 ((S.1 9 8) - 1)), 0, 0)) rfl ?_
    refine mv_ishl 2 rfl rfl ?_
    refine ev_bk 3 (S' := (147, [some (.ref 9), some (.ref a1), some (vI x2), some (vI (bO y1 (y0 % 2))), some (vI ((x4 + ((wI S 9 8 ((S.1 9 8) - 1)).1 (a1 + 5) (w32 x6))) * 2)), some (vI (x5 + ((wI S 9 8 ((S.1 9 8) - 1)).1 (a1 + 5) (w32 x6)))), some (vI x6), some (vI ((wI S 9 8 ((S.1 9 8) - 1)).1 (a1 + 5) (w32 x6)))], [vI 1, vI (bO y1 (y0 % 2))], hp (wI S 9 8 ((S.1 9 8) - 1)), 0, 0)) rfl ?_
    refine mv_ishl 2 rfl rfl ?_
    refine ev_bk 1 (S' := (149, [some (.ref 9), some (.ref a1), some (vI x2), some (vI ((bO y1 (y0 % 2)) * 2)), some (vI ((x4 + ((wI S 9 8 ((S.1 9 8) - 1)).1 (a1 + 5) (w32 x6))) * 2)), some (vI (x5 + ((wI S 9 8 ((S.1 9 8) - 1)).1 (a1 + 5) (w32 x6)))), some (vI x6), some (vI ((wI S 9 8 ((S.1 9 8) - 1)).1 (a1 + 5) (w32 x6)))], [], hp (wI S 9 8 ((S.1 9 8) - 1)), 0, 0)) rfl ?_
    refine mv_inc (lv' := [some (.ref 9), some (.ref a1), some (vI x2), some (vI ((bO y1 (y0 % 2)) * 2)), some (vI ((x4 + ((wI S 9 8 ((S.1 9 8) - 1)).1 (a1 + 5) (w32 x6))) * 2)), some (vI (x5 + ((wI S 9 8 ((S.1 9 8) - 1)).1 (a1 + 5) (w32 x6)))), some (vI (x6 + 1)), some (vI ((wI S 9 8 ((S.1 9 8) - 1)).1 (a1 + 5) (w32 x6)))]) 6 1 rfl rfl rfl rfl ?_
    refine mv_goto 11 rfl rfl ?_
    exact ev_wk (le_s (le_s (le_s (le_s (le_s (le_s (le_s (le_n le_0)))))))) F
  · have F := F.2 c
    refine ev_bk 1 (S' := (117, [some (.ref 9), some (.ref a1), some (vI x2), some (vI (bO y1 (y0 % 2))), some (vI x4), some (vI x5), some (vI x6), some (vI ((wI S 9 8 ((S.1 9 8) - 1)).1 (a1 + 5) (w32 x6)))], [.ref a1], hp (wI S 9 8 ((S.1 9 8) - 1)), 0, 0)) rfl ?_
    refine mv_gfR rfl rfl (ha1.1) (by decide) rfl ?_
    refine ev_bk 2 (S' := (123, [some (.ref 9), some (.ref a1), some (vI x2), some (vI (bO y1 (y0 % 2))), some (vI x4), some (vI x5), some (vI x6), some (vI ((wI S 9 8 ((S.1 9 8) - 1)).1 (a1 + 5) (w32 x6)))], [vI (bO y1 (y0 % 2)), vI x5, .ref (a1 + 4)], hp (wI S 9 8 ((S.1 9 8) - 1)), 0, 0)) rfl ?_
    refine mv_iadd rfl ?_
    refine ev_bk 1 (S' := (126, [some (.ref 9), some (.ref a1), some (vI x2), some (vI (bO y1 (y0 % 2))), some (vI x4), some (vI x5), some (vI x6), some (vI ((wI S 9 8 ((S.1 9 8) - 1)).1 (a1 + 5) (w32 x6)))], [vI x4, vI (x5 + (bO y1 (y0 % 2))), .ref (a1 + 4)], hp (wI S 9 8 ((S.1 9 8) - 1)), 0, 0)) rfl ?_
    refine mv_isub rfl ?_
    obtain ⟨b3, F⟩ := F
    refine mv_ial rfl (ha1.2.2.2.2.1) b3 ?_
    obtain ⟨rfl, rfl⟩ := F
    exact ev_ret rfl rfl
theorem vc_Code_isFull {q : Nat × (Nat → Int32)} {S S' : ms} {r : Option Value} (a0 : Nat) (ha0 : isCode a0)
    (F : ((¬ w32 (S.1 a0 7) = 1048576) → r = some (vI 0) ∧ S' = S) ∧ ((¬ (¬ w32 (S.1 a0 7) = 1048576)) → r = some (vI 1) ∧ S' = S)) : EV q 137 0 [some (.ref a0)] [] S r S' := by
  unfold EV
  refine ev_bk 1 (S' := (1, [some (.ref a0)], [.ref a0], hp S, 0, 0)) rfl ?_
  refine mv_gfI rfl rfl (ha0.1) (by decide) rfl ?_
  refine ev_bk 1 (S' := (6, [some (.ref a0)], [vI 1048576, vI (S.1 a0 7)], hp S, 0, 0)) rfl ?_
  refine mv_icmp 13 rfl rfl (fun c => ?_) (fun c => ?_)
  · have F := F.1 c
    refine ev_bk 1 (S' := (14, [some (.ref a0)], [vI 0], hp S, 0, 0)) rfl ?_
    obtain ⟨rfl, rfl⟩ := F
    exact ev_ret rfl rfl
  · have F := F.2 c
    refine ev_bk 1 (S' := (10, [some (.ref a0)], [vI 1], hp S, 0, 0)) rfl ?_
    refine mv_goto 14 rfl rfl ?_
    obtain ⟨rfl, rfl⟩ := F
    exact ev_ret rfl rfl
theorem vc_Code_isSingle {q : Nat × (Nat → Int32)} {S S' : ms} {r : Option Value} (a0 : Nat) (ha0 : isCode a0)
    (F : ((¬ w32 (S.1 a0 6) = 1) → r = some (vI 0) ∧ S' = S) ∧ ((¬ (¬ w32 (S.1 a0 6) = 1)) → (0 ≤ w32 1 ∧ w32 1 < (21 : Nat)) ∧ ((¬ w32 (S.1 (a0 + 5) (w32 1)) = 1) → r = some (vI 0) ∧ S' = S) ∧ ((¬ (¬ w32 (S.1 (a0 + 5) (w32 1)) = 1)) → r = some (vI 1) ∧ S' = S))) : EV q 140 0 [some (.ref a0)] [] S r S' := by
  unfold EV
  refine ev_bk 1 (S' := (1, [some (.ref a0)], [.ref a0], hp S, 0, 0)) rfl ?_
  refine mv_gfI rfl rfl (ha0.1) (by decide) rfl ?_
  refine ev_bk 1 (S' := (5, [some (.ref a0)], [vI 1, vI (S.1 a0 6)], hp S, 0, 0)) rfl ?_
  refine mv_icmp 22 rfl rfl (fun c => ?_) (fun c => ?_)
  · have F := F.1 c
    refine ev_bk 1 (S' := (23, [some (.ref a0)], [vI 0], hp S, 0, 0)) rfl ?_
    obtain ⟨rfl, rfl⟩ := F
    exact ev_ret rfl rfl
  · have F := F.2 c
    refine ev_bk 1 (S' := (9, [some (.ref a0)], [.ref a0], hp S, 0, 0)) rfl ?_
    refine mv_gfR rfl rfl (ha0.1) (by decide) rfl ?_
    refine ev_bk 1 (S' := (13, [some (.ref a0)], [vI 1, .ref (a0 + 5)], hp S, 0, 0)) rfl ?_
    obtain ⟨b1, F⟩ := F
    refine mv_ial rfl (ha0.2.2.2.2.2.1) b1 ?_
    refine ev_bk 1 (S' := (15, [some (.ref a0)], [vI 1, vI (S.1 (a0 + 5) (w32 1))], hp S, 0, 0)) rfl ?_
    refine mv_icmp 22 rfl rfl (fun c => ?_) (fun c => ?_)
    · have F := F.1 c
      refine ev_bk 1 (S' := (23, [some (.ref a0)], [vI 0], hp S, 0, 0)) rfl ?_
      obtain ⟨rfl, rfl⟩ := F
      exact ev_ret rfl rfl
    · have F := F.2 c
      refine ev_bk 1 (S' := (19, [some (.ref a0)], [vI 1], hp S, 0, 0)) rfl ?_
      refine mv_goto 23 rfl rfl ?_
      obtain ⟨rfl, rfl⟩ := F
      exact ev_ret rfl rfl
theorem vc_Code_isEmpty {q : Nat × (Nat → Int32)} {S S' : ms} {r : Option Value} (a0 : Nat) (ha0 : isCode a0)
    (F : ((¬ w32 (S.1 a0 6) = 0) → r = some (vI 0) ∧ S' = S) ∧ ((¬ (¬ w32 (S.1 a0 6) = 0)) → r = some (vI 1) ∧ S' = S)) : EV q 141 0 [some (.ref a0)] [] S r S' := by
  unfold EV
  refine ev_bk 1 (S' := (1, [some (.ref a0)], [.ref a0], hp S, 0, 0)) rfl ?_
  refine mv_gfI rfl rfl (ha0.1) (by decide) rfl ?_
  refine mv_if 11 rfl rfl (fun c => ?_) (fun c => ?_)
  · have F := F.1 c
    refine ev_bk 1 (S' := (12, [some (.ref a0)], [vI 0], hp S, 0, 0)) rfl ?_
    obtain ⟨rfl, rfl⟩ := F
    exact ev_ret rfl rfl
  · have F := F.2 c
    refine ev_bk 1 (S' := (8, [some (.ref a0)], [vI 1], hp S, 0, 0)) rfl ?_
    refine mv_goto 12 rfl rfl ?_
    obtain ⟨rfl, rfl⟩ := F
    exact ev_ret rfl rfl
theorem vc_Source_takeHigh {q : Nat × (Nat → Int32)} {S S' : ms} {r : Option Value} (x1 : Int)
    (F : EV q 143 5 [some (.ref 9), some (vI x1), some (vL 0), none, some (vI 0)] [] S r S') : EV q 143 0 [some (.ref 9), some (vI x1), none, none, none] [] S r S' := by
  unfold EV
  refine ev_bk 4 (S' := (5, [some (.ref 9), some (vI x1), some (vL 0), none, some (vI 0)], [], hp S, 0, 0)) rfl ?_
  exact F
theorem vc_Source_takeHigh_5 {q : Nat × (Nat → Int32)} {S S' : ms} {r : Option Value} (x1 x2 x4 : Int)
    (F : ((w32 x1 ≤ w32 x4) → r = some (vL x2) ∧ S' = S) ∧ ((¬ w32 x1 ≤ w32 x4) → ∃ (z3 : Int) (S1 : ms), EV q 118 0 [some (.ref 9)] [] S (some (vI z3)) S1 ∧ EV q 143 5 [some (.ref 9), some (vI x1), some (vL (lO (x2 * 256) (w32 z3))), none, some (vI (x4 + 1))] [] S1 r S')) : EV q 143 5 [some (.ref 9), some (vI x1), some (vL x2), none, some (vI x4)] [] S r S' := by
  unfold EV
  refine ev_bk 2 (S' := (8, [some (.ref 9), some (vI x1), some (vL x2), none, some (vI x4)], [vI x1, vI x4], hp S, 0, 0)) rfl ?_
  refine mv_icmp 28 rfl rfl (fun c => ?_) (fun c => ?_)
  · have F := F.1 c
    refine ev_bk 1 (S' := (29, [some (.ref 9), some (vI x1), some (vL x2), none, some (vI x4)], [vL x2], hp S, 0, 0)) rfl ?_
    obtain ⟨rfl, rfl⟩ := F
    exact ev_ret rfl rfl
  · have F := F.2 c
    refine ev_bk 2 (S' := (14, [some (.ref 9), some (vI x1), some (vL x2), none, some (vI x4)], [vI 8, vL x2], hp S, 0, 0)) rfl ?_
    refine mv_lshl 256 rfl rfl ?_
    refine ev_bk 1 (S' := (16, [some (.ref 9), some (vI x1), some (vL x2), none, some (vI x4)], [.ref 9, vL (x2 * 256)], hp S, 0, 0)) rfl ?_
    obtain ⟨z3, S1, e2, F⟩ := F
    refine mv_calv (as := []) (rest := [vL (x2 * 256)]) e2 (sh_9) rfl rfl rfl ⟨rfl, rfl⟩ rfl rfl rfl rfl rfl ?_
    refine mv_i2l rfl ?_
    refine mv_lor rfl ?_
    refine ev_bk 1 (S' := (22, [some (.ref 9), some (vI x1), some (vL (lO (x2 * 256) (w32 z3))), none, some (vI x4)], [], hp S1, 0, 0)) rfl ?_
    refine mv_inc (lv' := [some (.ref 9), some (vI x1), some (vL (lO (x2 * 256) (w32 z3))), none, some (vI (x4 + 1))]) 4 1 rfl rfl rfl rfl ?_
    refine mv_goto 5 rfl rfl ?_
    exact F
theorem vc_Source_expect {q : Nat × (Nat → Int32)} {S S' : ms} {r : Option Value} (x1 x2 : Int)
    (F : ∃ (z3 : Int) (S1 : ms), EV q 118 0 [some (.ref 9)] [] S (some (vI z3)) S1 ∧ ((w32 z3 = w32 x1) → r = none ∧ S' = S1) ∧ ((¬ w32 z3 = w32 x1) → ∃ (S4 : ms), EV q 124 0 [some (.ref 9), some (vI x2)] [] S1 none S4 ∧ r = none ∧ S' = S4)) : EV q 146 0 [some (.ref 9), some (vI x1), some (vI x2), none] [] S r S' := by
  unfold EV
  refine ev_bk 1 (S' := (1, [some (.ref 9), some (vI x1), some (vI x2), none], [.ref 9], hp S, 0, 0)) rfl ?_
  obtain ⟨z3, S1, e2, F⟩ := F
  refine mv_calv (as := []) (rest := []) e2 (sh_9) rfl rfl rfl ⟨rfl, rfl⟩ rfl rfl rfl rfl rfl ?_
  refine ev_bk 3 (S' := (7, [some (.ref 9), some (vI x1), some (vI x2), some (vI z3)], [vI x1, vI z3], hp S1, 0, 0)) rfl ?_
  refine mv_icmp 15 rfl rfl (fun c => ?_) (fun c => ?_)
  · have F := F.1 c
    obtain ⟨rfl, rfl⟩ := F
    exact ev_ret rfl rfl
  · have F := F.2 c
    refine ev_bk 2 (S' := (12, [some (.ref 9), some (vI x1), some (vI x2), some (vI z3)], [vI x2, .ref 9], hp S1, 0, 0)) rfl ?_
    obtain ⟨S4, e5, F⟩ := F
    refine mv_calv (as := [vI x2]) (rest := []) e5 (sh_9) rfl rfl rfl ⟨rfl, rfl⟩ rfl rfl rfl rfl rfl ?_
    obtain ⟨rfl, rfl⟩ := F
    exact ev_ret rfl rfl
theorem vc_Source_pass {q : Nat × (Nat → Int32)} {S S' : ms} {r : Option Value} (x1 : Int)
    (F : EV q 147 2 [some (.ref 9), some (vI x1), some (vI 0)] [] S r S') : EV q 147 0 [some (.ref 9), some (vI x1), none] [] S r S' := by
  unfold EV
  refine ev_bk 2 (S' := (2, [some (.ref 9), some (vI x1), some (vI 0)], [], hp S, 0, 0)) rfl ?_
  exact F
theorem vc_Source_pass_2 {q : Nat × (Nat → Int32)} {S S' : ms} {r : Option Value} (x1 x2 : Int)
    (F : ((w32 x1 ≤ w32 x2) → r = none ∧ S' = S) ∧ ((¬ w32 x1 ≤ w32 x2) → ((¬ w32 (S.1 9 5) = 0) → r = none ∧ S' = S) ∧ ((¬ (¬ w32 (S.1 9 5) = 0)) → ∃ (z3 : Int) (S1 : ms), EV q 118 0 [some (.ref 9)] [] S (some (vI z3)) S1 ∧ EV q 147 2 [some (.ref 9), some (vI x1), some (vI (x2 + 1))] [] S1 r S'))) : EV q 147 2 [some (.ref 9), some (vI x1), some (vI x2)] [] S r S' := by
  unfold EV
  refine ev_bk 2 (S' := (4, [some (.ref 9), some (vI x1), some (vI x2)], [vI x1, vI x2], hp S, 0, 0)) rfl ?_
  refine mv_icmp 25 rfl rfl (fun c => ?_) (fun c => ?_)
  · have F := F.1 c
    obtain ⟨rfl, rfl⟩ := F
    exact ev_ret rfl rfl
  · have F := F.2 c
    refine ev_bk 1 (S' := (8, [some (.ref 9), some (vI x1), some (vI x2)], [.ref 9], hp S, 0, 0)) rfl ?_
    refine mv_gfI rfl rfl (sh_9) (by decide) rfl ?_
    refine mv_if 25 rfl rfl (fun c => ?_) (fun c => ?_)
    · have F := F.1 c
      obtain ⟨rfl, rfl⟩ := F
      exact ev_ret rfl rfl
    · have F := F.2 c
      refine ev_bk 1 (S' := (15, [some (.ref 9), some (vI x1), some (vI x2)], [.ref 9], hp S, 0, 0)) rfl ?_
      obtain ⟨z3, S1, e2, F⟩ := F
      refine mv_calv (as := []) (rest := []) e2 (sh_9) rfl rfl rfl ⟨rfl, rfl⟩ rfl rfl rfl rfl rfl ?_
      refine ev_bk 1 (S' := (19, [some (.ref 9), some (vI x1), some (vI x2)], [], hp S1, 0, 0)) rfl ?_
      refine mv_inc (lv' := [some (.ref 9), some (vI x1), some (vI (x2 + 1))]) 2 1 rfl rfl rfl rfl ?_
      refine mv_goto 2 rfl rfl ?_
      exact F
theorem vc_Row_low {q : Nat × (Nat → Int32)} {S S' : ms} {r : Option Value} (x1 x2 : Int) (a0 na0 : Nat) (ha0 : SH a0 = (0, na0, []))
    (F : EV q 155 5 [some (.ref a0), some (vI x1), some (vI x2), some (vL 0), none, some (vI 0)] [] S r S') : EV q 155 0 [some (.ref a0), some (vI x1), some (vI x2), none, none, none] [] S r S' := by
  unfold EV
  refine ev_bk 4 (S' := (5, [some (.ref a0), some (vI x1), some (vI x2), some (vL 0), none, some (vI 0)], [], hp S, 0, 0)) rfl ?_
  exact F
theorem vc_Row_low_5 {q : Nat × (Nat → Int32)} {S S' : ms} {r : Option Value} (x1 x2 x3 x5 : Int) (a0 na0 : Nat) (ha0 : SH a0 = (0, na0, []))
    (F : ((w32 x2 ≤ w32 x5) → r = some (vL x3) ∧ S' = S) ∧ ((¬ w32 x2 ≤ w32 x5) → ((w32 (x1 + x5) < 0) → r = some (vL x3) ∧ S' = S) ∧ ((¬ w32 (x1 + x5) < 0) → ((w32 ((na0 : Nat)) ≤ w32 (x1 + x5)) → r = some (vL x3) ∧ S' = S) ∧ ((¬ w32 ((na0 : Nat)) ≤ w32 (x1 + x5)) → (0 ≤ w32 (x1 + x5) ∧ w32 (x1 + x5) < (na0 : Nat)) ∧ EV q 155 5 [some (.ref a0), some (vI x1), some (vI x2), some (vL (lO x3 ((w32 (S.1 a0 (w32 (x1 + x5)))) * ((2 : Int) ^ ((8 * x5) % 64).toNat)))), none, some (vI (x5 + 1))] [] S r S')))) : EV q 155 5 [some (.ref a0), some (vI x1), some (vI x2), some (vL x3), none, some (vI x5)] [] S r S' := by
  unfold EV
  refine ev_bk 2 (S' := (8, [some (.ref a0), some (vI x1), some (vI x2), some (vL x3), none, some (vI x5)], [vI x2, vI x5], hp S, 0, 0)) rfl ?_
  refine mv_icmp 49 rfl rfl (fun c => ?_) (fun c => ?_)
  · have F := F.1 c
    refine ev_bk 1 (S' := (50, [some (.ref a0), some (vI x1), some (vI x2), some (vL x3), none, some (vI x5)], [vL x3], hp S, 0, 0)) rfl ?_
    obtain ⟨rfl, rfl⟩ := F
    exact ev_ret rfl rfl
  · have F := F.2 c
    refine ev_bk 2 (S' := (14, [some (.ref a0), some (vI x1), some (vI x2), some (vL x3), none, some (vI x5)], [vI x5, vI x1], hp S, 0, 0)) rfl ?_
    refine mv_iadd rfl ?_
    refine mv_if 49 rfl rfl (fun c => ?_) (fun c => ?_)
    · have F := F.1 c
      refine ev_bk 1 (S' := (50, [some (.ref a0), some (vI x1), some (vI x2), some (vL x3), none, some (vI x5)], [vL x3], hp S, 0, 0)) rfl ?_
      obtain ⟨rfl, rfl⟩ := F
      exact ev_ret rfl rfl
    · have F := F.2 c
      refine ev_bk 2 (S' := (21, [some (.ref a0), some (vI x1), some (vI x2), some (vL x3), none, some (vI x5)], [vI x5, vI x1], hp S, 0, 0)) rfl ?_
      refine mv_iadd rfl ?_
      refine ev_bk 1 (S' := (23, [some (.ref a0), some (vI x1), some (vI x2), some (vL x3), none, some (vI x5)], [.ref a0, vI (x1 + x5)], hp S, 0, 0)) rfl ?_
      refine mv_len rfl (ha0) (by decide) ?_
      refine mv_icmp 49 rfl rfl (fun c => ?_) (fun c => ?_)
      · have F := F.1 c
        refine ev_bk 1 (S' := (50, [some (.ref a0), some (vI x1), some (vI x2), some (vL x3), none, some (vI x5)], [vL x3], hp S, 0, 0)) rfl ?_
        obtain ⟨rfl, rfl⟩ := F
        exact ev_ret rfl rfl
      · have F := F.2 c
        refine ev_bk 4 (S' := (32, [some (.ref a0), some (vI x1), some (vI x2), some (vL x3), none, some (vI x5)], [vI x5, vI x1, .ref a0, vL x3], hp S, 0, 0)) rfl ?_
        refine mv_iadd rfl ?_
        obtain ⟨b1, F⟩ := F
        refine mv_ial rfl (ha0) b1 ?_
        refine mv_i2l rfl ?_
        refine ev_bk 2 (S' := (39, [some (.ref a0), some (vI x1), some (vI x2), some (vL x3), none, some (vI x5)], [vI x5, vI 8, vL (w32 (S.1 a0 (w32 (x1 + x5)))), vL x3], hp S, 0, 0)) rfl ?_
        refine mv_imul rfl ?_
        refine mv_lshl ((2 : Int) ^ ((8 * x5) % 64).toNat) rfl rfl ?_
        refine mv_lor rfl ?_
        refine ev_bk 1 (S' := (43, [some (.ref a0), some (vI x1), some (vI x2), some (vL (lO x3 ((w32 (S.1 a0 (w32 (x1 + x5)))) * ((2 : Int) ^ ((8 * x5) % 64).toNat)))), none, some (vI x5)], [], hp S, 0, 0)) rfl ?_
        refine mv_inc (lv' := [some (.ref a0), some (vI x1), some (vI x2), some (vL (lO x3 ((w32 (S.1 a0 (w32 (x1 + x5)))) * ((2 : Int) ^ ((8 * x5) % 64).toNat)))), none, some (vI (x5 + 1))]) 5 1 rfl rfl rfl rfl ?_
        refine mv_goto 5 rfl rfl ?_
        exact F
theorem vc_Source_window {q : Nat × (Nat → Int32)} {S S' : ms} {r : Option Value} (x1 x2 : Int)
    (F : ∀ S1 : ms, S1 = wI S 9 3 x1 → ∀ S2 : ms, S2 = wI S1 9 2 x2 → ∀ S3 : ms, S3 = wI S2 9 8 0 → r = none ∧ S' = S3) : EV q 156 0 [some (.ref 9), some (vI x1), some (vI x2)] [] S r S' := by
  unfold EV
  refine ev_bk 2 (S' := (2, [some (.ref 9), some (vI x1), some (vI x2)], [vI x1, .ref 9], hp S, 0, 0)) rfl ?_
  refine mv_pfI rfl rfl (sh_9) (by decide) rfl rfl ?_
  have F := F _ rfl
  refine ev_bk 2 (S' := (7, [some (.ref 9), some (vI x1), some (vI x2)], [vI x2, .ref 9], hp (wI S 9 3 x1), 0, 0)) rfl ?_
  refine mv_pfI rfl rfl (sh_9) (by decide) rfl rfl ?_
  have F := F _ rfl
  refine ev_bk 2 (S' := (12, [some (.ref 9), some (vI x1), some (vI x2)], [vI 0, .ref 9], hp (wI (wI S 9 3 x1) 9 2 x2), 0, 0)) rfl ?_
  refine mv_pfI rfl rfl (sh_9) (by decide) rfl rfl ?_
  have F := F _ rfl
  obtain ⟨rfl, rfl⟩ := F
  exact ev_ret rfl rfl
theorem vc_Source_takeSevens {q : Nat × (Nat → Int32)} {S S' : ms} {r : Option Value}
    (F : EV q 158 4 [some (.ref 9), some (vL 0), none, some (vI 0), none] [] S r S') : EV q 158 0 [some (.ref 9), none, none, none, none] [] S r S' := by
  unfold EV
  refine ev_bk 4 (S' := (4, [some (.ref 9), some (vL 0), none, some (vI 0), none], [], hp S, 0, 0)) rfl ?_
  exact F
theorem vc_Source_takeSevens_4 {q : Nat × (Nat → Int32)} {S S' : ms} {r : Option Value} (x1 x3 : Int)
    (F : ((5 ≤ w32 x3) → r = some (vL x1) ∧ S' = S) ∧ ((¬ 5 ≤ w32 x3) → ∃ (z3 : Int) (S1 : ms), EV q 118 0 [some (.ref 9)] [] S (some (vI z3)) S1 ∧ ((¬ w32 x3 = 4) → EV q 158 33 [some (.ref 9), some (vL x1), none, some (vI x3), some (vI z3)] [] S1 r S') ∧ ((¬ (¬ w32 x3 = 4)) → ((w32 z3 ≤ 15) → EV q 158 33 [some (.ref 9), some (vL x1), none, some (vI x3), some (vI z3)] [] S1 r S') ∧ ((¬ w32 z3 ≤ 15) → ∃ (S4 : ms), EV q 124 0 [some (.ref 9), some (vI 51)] [] S1 none S4 ∧ EV q 158 33 [some (.ref 9), some (vL x1), none, some (vI x3), some (vI z3)] [] S4 r S')))) : EV q 158 4 [some (.ref 9), some (vL x1), none, some (vI x3), none] [] S r S' := by
  unfold EV
  refine ev_bk 2 (S' := (6, [some (.ref 9), some (vL x1), none, some (vI x3), none], [vI 5, vI x3], hp S, 0, 0)) rfl ?_
  refine mv_icmp 71 rfl rfl (fun c => ?_) (fun c => ?_)
  · have F := F.1 c
    refine ev_bk 1 (S' := (72, [some (.ref 9), some (vL x1), none, some (vI x3), none], [vL x1], hp S, 0, 0)) rfl ?_
    obtain ⟨rfl, rfl⟩ := F
    exact ev_ret rfl rfl
  · have F := F.2 c
    refine ev_bk 1 (S' := (10, [some (.ref 9), some (vL x1), none, some (vI x3), none], [.ref 9], hp S, 0, 0)) rfl ?_
    obtain ⟨z3, S1, e2, F⟩ := F
    refine mv_calv (as := []) (rest := []) e2 (sh_9) rfl rfl rfl ⟨rfl, rfl⟩ rfl rfl rfl rfl rfl ?_
    refine ev_bk 3 (S' := (17, [some (.ref 9), some (vL x1), none, some (vI x3), some (vI z3)], [vI 4, vI x3], hp S1, 0, 0)) rfl ?_
    refine mv_icmp 33 rfl rfl (fun c => ?_) (fun c => ?_)
    · have F := F.1 c
      exact F
    · have F := F.2 c
      refine ev_bk 2 (S' := (24, [some (.ref 9), some (vL x1), none, some (vI x3), some (vI z3)], [vI 15, vI z3], hp S1, 0, 0)) rfl ?_
      refine mv_icmp 33 rfl rfl (fun c => ?_) (fun c => ?_)
      · have F := F.1 c
        exact F
      · have F := F.2 c
        refine ev_bk 2 (S' := (30, [some (.ref 9), some (vL x1), none, some (vI x3), some (vI z3)], [vI 51, .ref 9], hp S1, 0, 0)) rfl ?_
        obtain ⟨S4, e5, F⟩ := F
        refine mv_calv (as := [vI 51]) (rest := []) e5 (sh_9) rfl rfl rfl ⟨rfl, rfl⟩ rfl rfl rfl rfl rfl ?_
        exact F
theorem vc_Source_takeSevens_33 {q : Nat × (Nat → Int32)} {S S' : ms} {r : Option Value} (x1 x3 x4 : Int)
    (F : ((¬ w32 (S.1 9 5) = 0) → r = some (vL (lO x1 ((w32 (x4 % 128)) * ((2 : Int) ^ ((7 * x3) % 64).toNat)))) ∧ S' = S) ∧ ((¬ (¬ w32 (S.1 9 5) = 0)) → ((128 ≤ w32 x4) → EV q 158 4 [some (.ref 9), some (vL (lO x1 ((w32 (x4 % 128)) * ((2 : Int) ^ ((7 * x3) % 64).toNat)))), none, some (vI (x3 + 1)), none] [] S r S') ∧ ((¬ 128 ≤ w32 x4) → r = some (vL (lO x1 ((w32 (x4 % 128)) * ((2 : Int) ^ ((7 * x3) % 64).toNat)))) ∧ S' = S))) : EV q 158 33 [some (.ref 9), some (vL x1), none, some (vI x3), some (vI x4)] [] S r S' := by
  unfold EV
  refine ev_bk 3 (S' := (38, [some (.ref 9), some (vL x1), none, some (vI x3), some (vI x4)], [vI 127, vI x4, vL x1], hp S, 0, 0)) rfl ?_
  refine mv_iandm 128 7 (by decide) rfl rfl rfl ?_
  refine mv_i2l rfl ?_
  refine ev_bk 2 (S' := (43, [some (.ref 9), some (vL x1), none, some (vI x3), some (vI x4)], [vI x3, vI 7, vL (w32 (x4 % 128)), vL x1], hp S, 0, 0)) rfl ?_
  refine mv_imul rfl ?_
  refine mv_lshl ((2 : Int) ^ ((7 * x3) % 64).toNat) rfl rfl ?_
  refine mv_lor rfl ?_
  refine ev_bk 2 (S' := (48, [some (.ref 9), some (vL (lO x1 ((w32 (x4 % 128)) * ((2 : Int) ^ ((7 * x3) % 64).toNat)))), none, some (vI x3), some (vI x4)], [.ref 9], hp S, 0, 0)) rfl ?_
  refine mv_gfI rfl rfl (sh_9) (by decide) rfl ?_
  refine mv_if 71 rfl rfl (fun c => ?_) (fun c => ?_)
  · have F := F.1 c
    refine ev_bk 1 (S' := (72, [some (.ref 9), some (vL (lO x1 ((w32 (x4 % 128)) * ((2 : Int) ^ ((7 * x3) % 64).toNat)))), none, some (vI x3), some (vI x4)], [vL (lO x1 ((w32 (x4 % 128)) * ((2 : Int) ^ ((7 * x3) % 64).toNat)))], hp S, 0, 0)) rfl ?_
    obtain ⟨rfl, rfl⟩ := F
    exact ev_ret rfl rfl
  · have F := F.2 c
    refine ev_bk 2 (S' := (59, [some (.ref 9), some (vL (lO x1 ((w32 (x4 % 128)) * ((2 : Int) ^ ((7 * x3) % 64).toNat)))), none, some (vI x3), some (vI x4)], [vI 128, vI x4], hp S, 0, 0)) rfl ?_
    refine mv_icmp 65 rfl rfl (fun c => ?_) (fun c => ?_)
    · have F := F.1 c
      refine mv_inc (lv' := [some (.ref 9), some (vL (lO x1 ((w32 (x4 % 128)) * ((2 : Int) ^ ((7 * x3) % 64).toNat)))), none, some (vI (x3 + 1)), some (vI x4)]) 3 1 rfl rfl rfl rfl ?_
      refine mv_goto 4 rfl rfl ?_
      exact ev_wk (le_s (le_s (le_s (le_s (le_n le_0))))) F
    · have F := F.2 c
      refine mv_goto 71 rfl rfl ?_
      refine ev_bk 1 (S' := (72, [some (.ref 9), some (vL (lO x1 ((w32 (x4 % 128)) * ((2 : Int) ^ ((7 * x3) % 64).toNat)))), none, some (vI x3), some (vI x4)], [vL (lO x1 ((w32 (x4 % 128)) * ((2 : Int) ^ ((7 * x3) % 64).toNat)))], hp S, 0, 0)) rfl ?_
      obtain ⟨rfl, rfl⟩ := F
      exact ev_ret rfl rfl
theorem vc_Code_isOver {q : Nat × (Nat → Int32)} {S S' : ms} {r : Option Value} (a0 : Nat) (ha0 : isCode a0)
    (F : ((w32 (S.1 a0 7) ≤ 1048576) → r = some (vI 0) ∧ S' = S) ∧ ((¬ w32 (S.1 a0 7) ≤ 1048576) → r = some (vI 1) ∧ S' = S)) : EV q 166 0 [some (.ref a0)] [] S r S' := by
  unfold EV
  refine ev_bk 1 (S' := (1, [some (.ref a0)], [.ref a0], hp S, 0, 0)) rfl ?_
  refine mv_gfI rfl rfl (ha0.1) (by decide) rfl ?_
  refine ev_bk 1 (S' := (6, [some (.ref a0)], [vI 1048576, vI (S.1 a0 7)], hp S, 0, 0)) rfl ?_
  refine mv_icmp 13 rfl rfl (fun c => ?_) (fun c => ?_)
  · have F := F.1 c
    refine ev_bk 1 (S' := (14, [some (.ref a0)], [vI 0], hp S, 0, 0)) rfl ?_
    obtain ⟨rfl, rfl⟩ := F
    exact ev_ret rfl rfl
  · have F := F.2 c
    refine ev_bk 1 (S' := (10, [some (.ref a0)], [vI 1], hp S, 0, 0)) rfl ?_
    refine mv_goto 14 rfl rfl ?_
    obtain ⟨rfl, rfl⟩ := F
    exact ev_ret rfl rfl
