/-! VC rows over any list of shapes (wip/gen/pvc.py) -/
def isCodeP (sx : List sh_T) (b : Nat) : Prop := sg sx b = (7, 13, [(2, b + 1), (2, b + 2), (2, b + 3), (2, b + 4), (2, b + 5), (0, 0), (0, 0), (0, 0), (2, b + 6), (2, b + 7), (2, b + 8), (2, b + 9), (2, b + 10)]) ∧ sg sx (b + 1) = (0, 288, []) ∧ sg sx (b + 2) = (0, 288, []) ∧ sg sx (b + 3) = (0, 288, []) ∧ sg sx (b + 4) = (0, 288, []) ∧ sg sx (b + 5) = (0, 21, []) ∧ sg sx (b + 6) = (0, 22, []) ∧ sg sx (b + 7) = (0, 22, []) ∧ sg sx (b + 8) = (0, 288, []) ∧ sg sx (b + 9) = (0, 576, []) ∧ sg sx (b + 10) = (0, 576, [])
def isRowP (sx : List sh_T) (a n : Nat) : Prop := sg sx a = (12, 4, [(2, a + 1), (0, 0), (0, 0), (0, 0)]) ∧ sg sx (a + 1) = (0, n, [])
theorem pc_Arrays_fill11 {q : Nat × (Nat → Int32)} {sx : List sh_T} (hsx : sx.length ≤ en_b) {S S' : ms} {r : Option Value} (x1 : Int) (a0 na0 : Nat) (ha0 : sg sx a0 = (0, na0, []))
    (F : EW q sx 0 0 11 5 [some (.ref a0), some (vI x1), some (vI 0), some (vI ((na0 : Nat)))] [] S r S') : EW q sx 0 0 11 0 [some (.ref a0), some (vI x1), none, none] [] S r S' := by
  unfold EW
  refine ev_bk 3 (S' := (3, [some (.ref a0), some (vI x1), some (vI 0), none], [.ref a0], hq sx S, 0, 0)) rfl ?_
  refine mw_len rfl (ha0) (by decide) ?_
  refine ev_bk 1 (S' := (5, [some (.ref a0), some (vI x1), some (vI 0), some (vI ((na0 : Nat)))], [], hq sx S, 0, 0)) rfl ?_
  exact F
theorem pc_Arrays_fill11_5 {q : Nat × (Nat → Int32)} {sx : List sh_T} (hsx : sx.length ≤ en_b) {S S' : ms} {r : Option Value} (x1 x2 x3 : Int) (a0 na0 : Nat) (ha0 : sg sx a0 = (0, na0, []))
    (F : ((w32 x3 ≤ w32 x2) → r = none ∧ S' = S) ∧ ((¬ w32 x3 ≤ w32 x2) → (0 ≤ w32 x2 ∧ w32 x2 < (na0 : Nat)) ∧ ∀ S2 : ms, S2 = wI S a0 (w32 x2) x1 → EW q sx 0 0 11 5 [some (.ref a0), some (vI x1), some (vI (x2 + 1)), some (vI x3)] [] S2 r S')) : EW q sx 0 0 11 5 [some (.ref a0), some (vI x1), some (vI x2), some (vI x3)] [] S r S' := by
  unfold EW
  refine ev_bk 2 (S' := (7, [some (.ref a0), some (vI x1), some (vI x2), some (vI x3)], [vI x3, vI x2], hq sx S, 0, 0)) rfl ?_
  refine mv_icmp 20 rfl rfl (fun c => ?_) (fun c => ?_)
  · have F := F.1 c
    obtain ⟨rfl, rfl⟩ := F
    exact ev_ret rfl rfl
  · have F := F.2 c
    refine ev_bk 3 (S' := (13, [some (.ref a0), some (vI x1), some (vI x2), some (vI x3)], [vI x1, vI x2, .ref a0], hq sx S, 0, 0)) rfl ?_
    obtain ⟨b1, F⟩ := F
    refine mw_ias rfl (ha0) b1 ?_
    have F := F _ rfl
    refine mv_inc (lv' := [some (.ref a0), some (vI x1), some (vI (x2 + 1)), some (vI x3)]) 2 1 rfl rfl rfl rfl ?_
    refine mv_goto 5 rfl rfl ?_
    exact F
theorem pc_Code_mirror {q : Nat × (Nat → Int32)} {sx : List sh_T} (hsx : sx.length ≤ en_b) {S S' : ms} {r : Option Value} (x0 x1 : Int)
    (F : EW q sx 0 0 12 4 [some (vI x0), some (vI x1), some (vI 0), some (vI 0)] [] S r S') : EW q sx 0 0 12 0 [some (vI x0), some (vI x1), none, none] [] S r S' := by
  unfold EW
  refine ev_bk 4 (S' := (4, [some (vI x0), some (vI x1), some (vI 0), some (vI 0)], [], hq sx S, 0, 0)) rfl ?_
  exact F
theorem pc_Code_mirror_4 {q : Nat × (Nat → Int32)} {sx : List sh_T} (hsx : sx.length ≤ en_b) {S S' : ms} {r : Option Value} (x0 x1 x2 x3 : Int)
    (F : ((w32 x1 ≤ w32 x3) → r = some (vI x2) ∧ S' = S) ∧ ((¬ w32 x1 ≤ w32 x3) → EW q sx 0 0 12 4 [some (vI x0), some (vI x1), some (vI (bO (x2 * 2) ((w32 x0 / ((2 : Int) ^ (x3 % 32).toNat)) % 2))), some (vI (x3 + 1))] [] S r S')) : EW q sx 0 0 12 4 [some (vI x0), some (vI x1), some (vI x2), some (vI x3)] [] S r S' := by
  unfold EW
  refine ev_bk 2 (S' := (6, [some (vI x0), some (vI x1), some (vI x2), some (vI x3)], [vI x1, vI x3], hq sx S, 0, 0)) rfl ?_
  refine mv_icmp 25 rfl rfl (fun c => ?_) (fun c => ?_)
  · have F := F.1 c
    refine ev_bk 1 (S' := (26, [some (vI x0), some (vI x1), some (vI x2), some (vI x3)], [vI x2], hq sx S, 0, 0)) rfl ?_
    obtain ⟨rfl, rfl⟩ := F
    exact ev_ret rfl rfl
  · have F := F.2 c
    refine ev_bk 2 (S' := (11, [some (vI x0), some (vI x1), some (vI x2), some (vI x3)], [vI 1, vI x2], hq sx S, 0, 0)) rfl ?_
    refine mv_ishl 2 rfl rfl ?_
    refine ev_bk 2 (S' := (14, [some (vI x0), some (vI x1), some (vI x2), some (vI x3)], [vI x3, vI x0, vI (x2 * 2)], hq sx S, 0, 0)) rfl ?_
    refine mv_ishr ((2 : Int) ^ (x3 % 32).toNat) rfl rfl ?_
    refine ev_bk 1 (S' := (16, [some (vI x0), some (vI x1), some (vI x2), some (vI x3)], [vI 1, vI (w32 x0 / ((2 : Int) ^ (x3 % 32).toNat)), vI (x2 * 2)], hq sx S, 0, 0)) rfl ?_
    refine mv_iandm 2 1 (by decide) rfl rfl rfl ?_
    refine mv_ior rfl ?_
    refine ev_bk 1 (S' := (19, [some (vI x0), some (vI x1), some (vI (bO (x2 * 2) ((w32 x0 / ((2 : Int) ^ (x3 % 32).toNat)) % 2))), some (vI x3)], [], hq sx S, 0, 0)) rfl ?_
    refine mv_inc (lv' := [some (vI x0), some (vI x1), some (vI (bO (x2 * 2) ((w32 x0 / ((2 : Int) ^ (x3 % 32).toNat)) % 2))), some (vI (x3 + 1))]) 3 1 rfl rfl rfl rfl ?_
    refine mv_goto 4 rfl rfl ?_
    exact F
theorem pc_Code_settle {q : Nat × (Nat → Int32)} {sx : List sh_T} (hsx : sx.length ≤ en_b) {S S' : ms} {r : Option Value} (x1 : Int) (a0 : Nat) (ha0 : isCodeP sx a0)
    (F : ∃ (S1 : ms), EW q sx 0 0 11 0 [some (.ref (a0 + 5)), some (vI 0), none, none] [] S none S1 ∧ ∀ S3 : ms, S3 = wI S1 a0 6 0 → ∀ S4 : ms, S4 = wI S3 a0 7 0 → ∀ S5 : ms, S5 = wI S4 a0 5 0 → EW q sx 0 0 10 25 [some (.ref a0), some (vI x1), some (vI 0), none] [] S5 r S') : EW q sx 0 0 10 0 [some (.ref a0), some (vI x1), none, none] [] S r S' := by
  unfold EW
  refine ev_bk 1 (S' := (1, [some (.ref a0), some (vI x1), none, none], [.ref a0], hq sx S, 0, 0)) rfl ?_
  refine mw_gfR rfl rfl (ha0.1) (by decide) rfl ?_
  refine ev_bk 1 (S' := (5, [some (.ref a0), some (vI x1), none, none], [vI 0, .ref (a0 + 5)], hq sx S, 0, 0)) rfl ?_
  obtain ⟨S1, e2, F⟩ := F
  refine mw_cals hsx (as := [.ref (a0 + 5), vI 0]) (rest := []) e2 rfl rfl rfl ⟨rfl, rfl, rfl⟩ rfl rfl rfl rfl ?_
  refine ev_bk 2 (S' := (10, [some (.ref a0), some (vI x1), none, none], [vI 0, .ref a0], hq sx S1, 0, 0)) rfl ?_
  refine mw_pfI rfl rfl (ha0.1) (by decide) rfl rfl ?_
  have F := F _ rfl
  refine ev_bk 2 (S' := (15, [some (.ref a0), some (vI x1), none, none], [vI 0, .ref a0], hq sx (wI S1 a0 6 0), 0, 0)) rfl ?_
  refine mw_pfI rfl rfl (ha0.1) (by decide) rfl rfl ?_
  have F := F _ rfl
  refine ev_bk 2 (S' := (20, [some (.ref a0), some (vI x1), none, none], [vI 0, .ref a0], hq sx (wI (wI S1 a0 6 0) a0 7 0), 0, 0)) rfl ?_
  refine mw_pfI rfl rfl (ha0.1) (by decide) rfl rfl ?_
  have F := F _ rfl
  refine ev_bk 2 (S' := (25, [some (.ref a0), some (vI x1), some (vI 0), none], [], hq sx (wI (wI (wI S1 a0 6 0) a0 7 0) a0 5 0), 0, 0)) rfl ?_
  exact F
theorem pc_Code_settle_25 {q : Nat × (Nat → Int32)} {sx : List sh_T} (hsx : sx.length ≤ en_b) {S S' : ms} {r : Option Value} (x1 x2 : Int) (a0 : Nat) (ha0 : isCodeP sx a0)
    (F : ((w32 x1 ≤ w32 x2) → (0 ≤ w32 1 ∧ w32 1 < (22 : Nat)) ∧ ∀ S2 : ms, S2 = wI S (a0 + 6) (w32 1) 0 → (0 ≤ w32 1 ∧ w32 1 < (22 : Nat)) ∧ ∀ S4 : ms, S4 = wI S2 (a0 + 7) (w32 1) 0 → EW q sx 0 0 10 108 [some (.ref a0), some (vI x1), some (vI 1), none] [] S4 r S') ∧ ((¬ w32 x1 ≤ w32 x2) → (0 ≤ w32 x2 ∧ w32 x2 < (288 : Nat)) ∧ ((w32 (S.1 (a0 + 1) (w32 x2)) ≤ 0) → EW q sx 0 0 10 86 [some (.ref a0), some (vI x1), some (vI x2), some (vI (S.1 (a0 + 1) (w32 x2)))] [] S r S') ∧ ((¬ w32 (S.1 (a0 + 1) (w32 x2)) ≤ 0) → (0 ≤ w32 (S.1 (a0 + 1) (w32 x2)) ∧ w32 (S.1 (a0 + 1) (w32 x2)) < (21 : Nat)) ∧ (0 ≤ w32 (S.1 (a0 + 1) (w32 x2)) ∧ w32 (S.1 (a0 + 1) (w32 x2)) < (21 : Nat)) ∧ ∀ S8 : ms, S8 = wI S (a0 + 5) (w32 (S.1 (a0 + 1) (w32 x2))) ((S.1 (a0 + 5) (w32 (S.1 (a0 + 1) (w32 x2)))) + 1) → ∀ S9 : ms, S9 = wI S8 a0 6 (S8.1 a0 6 + 1) → ∀ S10 : ms, S10 = wI S9 a0 7 (S9.1 a0 7 + (w32 1048576 / ((2 : Int) ^ ((S.1 (a0 + 1) (w32 x2)) % 32).toNat))) → ∀ S11 : ms, S11 = wI S10 a0 5 (max (w32 (S10.1 a0 5)) (w32 (S.1 (a0 + 1) (w32 x2)))) → EW q sx 0 0 10 86 [some (.ref a0), some (vI x1), some (vI x2), some (vI (S.1 (a0 + 1) (w32 x2)))] [] S11 r S'))) : EW q sx 0 0 10 25 [some (.ref a0), some (vI x1), some (vI x2), none] [] S r S' := by
  unfold EW
  refine ev_bk 2 (S' := (27, [some (.ref a0), some (vI x1), some (vI x2), none], [vI x1, vI x2], hq sx S, 0, 0)) rfl ?_
  refine mv_icmp 92 rfl rfl (fun c => ?_) (fun c => ?_)
  · have F := F.1 c
    refine ev_bk 1 (S' := (93, [some (.ref a0), some (vI x1), some (vI x2), none], [.ref a0], hq sx S, 0, 0)) rfl ?_
    refine mw_gfR rfl rfl (ha0.1) (by decide) rfl ?_
    refine ev_bk 2 (S' := (98, [some (.ref a0), some (vI x1), some (vI x2), none], [vI 0, vI 1, .ref (a0 + 6)], hq sx S, 0, 0)) rfl ?_
    obtain ⟨b1, F⟩ := F
    refine mw_ias rfl (ha0.2.2.2.2.2.2.1) b1 ?_
    have F := F _ rfl
    refine ev_bk 1 (S' := (100, [some (.ref a0), some (vI x1), some (vI x2), none], [.ref a0], hq sx (wI S (a0 + 6) (w32 1) 0), 0, 0)) rfl ?_
    refine mw_gfR rfl rfl (ha0.1) (by decide) rfl ?_
    refine ev_bk 2 (S' := (105, [some (.ref a0), some (vI x1), some (vI x2), none], [vI 0, vI 1, .ref (a0 + 7)], hq sx (wI S (a0 + 6) (w32 1) 0), 0, 0)) rfl ?_
    obtain ⟨b3, F⟩ := F
    refine mw_ias rfl (ha0.2.2.2.2.2.2.2.1) b3 ?_
    have F := F _ rfl
    refine ev_bk 2 (S' := (108, [some (.ref a0), some (vI x1), some (vI 1), none], [], hq sx (wI (wI S (a0 + 6) (w32 1) 0) (a0 + 7) (w32 1) 0), 0, 0)) rfl ?_
    exact F
  · have F := F.2 c
    refine ev_bk 1 (S' := (31, [some (.ref a0), some (vI x1), some (vI x2), none], [.ref a0], hq sx S, 0, 0)) rfl ?_
    refine mw_gfR rfl rfl (ha0.1) (by decide) rfl ?_
    refine ev_bk 1 (S' := (35, [some (.ref a0), some (vI x1), some (vI x2), none], [vI x2, .ref (a0 + 1)], hq sx S, 0, 0)) rfl ?_
    obtain ⟨b5, F⟩ := F
    refine mw_ial rfl (ha0.2.1) b5 ?_
    refine ev_bk 2 (S' := (38, [some (.ref a0), some (vI x1), some (vI x2), some (vI (S.1 (a0 + 1) (w32 x2)))], [vI (S.1 (a0 + 1) (w32 x2))], hq sx S, 0, 0)) rfl ?_
    refine mv_if 86 rfl rfl (fun c => ?_) (fun c => ?_)
    · have F := F.1 c
      exact F
    · have F := F.2 c
      refine ev_bk 1 (S' := (42, [some (.ref a0), some (vI x1), some (vI x2), some (vI (S.1 (a0 + 1) (w32 x2)))], [.ref a0], hq sx S, 0, 0)) rfl ?_
      refine mw_gfR rfl rfl (ha0.1) (by decide) rfl ?_
      refine ev_bk 2 (S' := (47, [some (.ref a0), some (vI x1), some (vI x2), some (vI (S.1 (a0 + 1) (w32 x2)))], [vI (S.1 (a0 + 1) (w32 x2)), .ref (a0 + 5), vI (S.1 (a0 + 1) (w32 x2)), .ref (a0 + 5)], hq sx S, 0, 0)) rfl ?_
      obtain ⟨b6, F⟩ := F
      refine mw_ial rfl (ha0.2.2.2.2.2.1) b6 ?_
      refine ev_bk 1 (S' := (49, [some (.ref a0), some (vI x1), some (vI x2), some (vI (S.1 (a0 + 1) (w32 x2)))], [vI 1, vI (S.1 (a0 + 5) (w32 (S.1 (a0 + 1) (w32 x2)))), vI (S.1 (a0 + 1) (w32 x2)), .ref (a0 + 5)], hq sx S, 0, 0)) rfl ?_
      refine mv_iadd rfl ?_
      obtain ⟨b7, F⟩ := F
      refine mw_ias rfl (ha0.2.2.2.2.2.1) b7 ?_
      have F := F _ rfl
      refine ev_bk 2 (S' := (53, [some (.ref a0), some (vI x1), some (vI x2), some (vI (S.1 (a0 + 1) (w32 x2)))], [.ref a0, .ref a0], hq sx (wI S (a0 + 5) (w32 (S.1 (a0 + 1) (w32 x2))) ((S.1 (a0 + 5) (w32 (S.1 (a0 + 1) (w32 x2)))) + 1)), 0, 0)) rfl ?_
      refine mw_gfI rfl rfl (ha0.1) (by decide) rfl ?_
      refine ev_bk 1 (S' := (57, [some (.ref a0), some (vI x1), some (vI x2), some (vI (S.1 (a0 + 1) (w32 x2)))], [vI 1, vI ((wI S (a0 + 5) (w32 (S.1 (a0 + 1) (w32 x2))) ((S.1 (a0 + 5) (w32 (S.1 (a0 + 1) (w32 x2)))) + 1)).1 a0 6), .ref a0], hq sx (wI S (a0 + 5) (w32 (S.1 (a0 + 1) (w32 x2))) ((S.1 (a0 + 5) (w32 (S.1 (a0 + 1) (w32 x2)))) + 1)), 0, 0)) rfl ?_
      refine mv_iadd rfl ?_
      refine mw_pfI rfl rfl (ha0.1) (by decide) rfl rfl ?_
      have F := F _ rfl
      refine ev_bk 2 (S' := (63, [some (.ref a0), some (vI x1), some (vI x2), some (vI (S.1 (a0 + 1) (w32 x2)))], [.ref a0, .ref a0], hq sx (wI (wI S (a0 + 5) (w32 (S.1 (a0 + 1) (w32 x2))) ((S.1 (a0 + 5) (w32 (S.1 (a0 + 1) (w32 x2)))) + 1)) a0 6 ((wI S (a0 + 5) (w32 (S.1 (a0 + 1) (w32 x2))) ((S.1 (a0 + 5) (w32 (S.1 (a0 + 1) (w32 x2)))) + 1)).1 a0 6 + 1)), 0, 0)) rfl ?_
      refine mw_gfI rfl rfl (ha0.1) (by decide) rfl ?_
      refine ev_bk 2 (S' := (69, [some (.ref a0), some (vI x1), some (vI x2), some (vI (S.1 (a0 + 1) (w32 x2)))], [vI (S.1 (a0 + 1) (w32 x2)), vI 1048576, vI ((wI (wI S (a0 + 5) (w32 (S.1 (a0 + 1) (w32 x2))) ((S.1 (a0 + 5) (w32 (S.1 (a0 + 1) (w32 x2)))) + 1)) a0 6 ((wI S (a0 + 5) (w32 (S.1 (a0 + 1) (w32 x2))) ((S.1 (a0 + 5) (w32 (S.1 (a0 + 1) (w32 x2)))) + 1)).1 a0 6 + 1)).1 a0 7), .ref a0], hq sx (wI (wI S (a0 + 5) (w32 (S.1 (a0 + 1) (w32 x2))) ((S.1 (a0 + 5) (w32 (S.1 (a0 + 1) (w32 x2)))) + 1)) a0 6 ((wI S (a0 + 5) (w32 (S.1 (a0 + 1) (w32 x2))) ((S.1 (a0 + 5) (w32 (S.1 (a0 + 1) (w32 x2)))) + 1)).1 a0 6 + 1)), 0, 0)) rfl ?_
      refine mv_ishr ((2 : Int) ^ ((S.1 (a0 + 1) (w32 x2)) % 32).toNat) rfl rfl ?_
      refine mv_iadd rfl ?_
      refine mw_pfI rfl rfl (ha0.1) (by decide) rfl rfl ?_
      have F := F _ rfl
      refine ev_bk 2 (S' := (76, [some (.ref a0), some (vI x1), some (vI x2), some (vI (S.1 (a0 + 1) (w32 x2)))], [.ref a0, .ref a0], hq sx (wI (wI (wI S (a0 + 5) (w32 (S.1 (a0 + 1) (w32 x2))) ((S.1 (a0 + 5) (w32 (S.1 (a0 + 1) (w32 x2)))) + 1)) a0 6 ((wI S (a0 + 5) (w32 (S.1 (a0 + 1) (w32 x2))) ((S.1 (a0 + 5) (w32 (S.1 (a0 + 1) (w32 x2)))) + 1)).1 a0 6 + 1)) a0 7 ((wI (wI S (a0 + 5) (w32 (S.1 (a0 + 1) (w32 x2))) ((S.1 (a0 + 5) (w32 (S.1 (a0 + 1) (w32 x2)))) + 1)) a0 6 ((wI S (a0 + 5) (w32 (S.1 (a0 + 1) (w32 x2))) ((S.1 (a0 + 5) (w32 (S.1 (a0 + 1) (w32 x2)))) + 1)).1 a0 6 + 1)).1 a0 7 + (w32 1048576 / ((2 : Int) ^ ((S.1 (a0 + 1) (w32 x2)) % 32).toNat)))), 0, 0)) rfl ?_
      refine mw_gfI rfl rfl (ha0.1) (by decide) rfl ?_
      refine ev_bk 1 (S' := (80, [some (.ref a0), some (vI x1), some (vI x2), some (vI (S.1 (a0 + 1) (w32 x2)))], [vI (S.1 (a0 + 1) (w32 x2)), vI ((wI (wI (wI S (a0 + 5) (w32 (S.1 (a0 + 1) (w32 x2))) ((S.1 (a0 + 5) (w32 (S.1 (a0 + 1) (w32 x2)))) + 1)) a0 6 ((wI S (a0 + 5) (w32 (S.1 (a0 + 1) (w32 x2))) ((S.1 (a0 + 5) (w32 (S.1 (a0 + 1) (w32 x2)))) + 1)).1 a0 6 + 1)) a0 7 ((wI (wI S (a0 + 5) (w32 (S.1 (a0 + 1) (w32 x2))) ((S.1 (a0 + 5) (w32 (S.1 (a0 + 1) (w32 x2)))) + 1)) a0 6 ((wI S (a0 + 5) (w32 (S.1 (a0 + 1) (w32 x2))) ((S.1 (a0 + 5) (w32 (S.1 (a0 + 1) (w32 x2)))) + 1)).1 a0 6 + 1)).1 a0 7 + (w32 1048576 / ((2 : Int) ^ ((S.1 (a0 + 1) (w32 x2)) % 32).toNat)))).1 a0 5), .ref a0], hq sx (wI (wI (wI S (a0 + 5) (w32 (S.1 (a0 + 1) (w32 x2))) ((S.1 (a0 + 5) (w32 (S.1 (a0 + 1) (w32 x2)))) + 1)) a0 6 ((wI S (a0 + 5) (w32 (S.1 (a0 + 1) (w32 x2))) ((S.1 (a0 + 5) (w32 (S.1 (a0 + 1) (w32 x2)))) + 1)).1 a0 6 + 1)) a0 7 ((wI (wI S (a0 + 5) (w32 (S.1 (a0 + 1) (w32 x2))) ((S.1 (a0 + 5) (w32 (S.1 (a0 + 1) (w32 x2)))) + 1)) a0 6 ((wI S (a0 + 5) (w32 (S.1 (a0 + 1) (w32 x2))) ((S.1 (a0 + 5) (w32 (S.1 (a0 + 1) (w32 x2)))) + 1)).1 a0 6 + 1)).1 a0 7 + (w32 1048576 / ((2 : Int) ^ ((S.1 (a0 + 1) (w32 x2)) % 32).toNat)))), 0, 0)) rfl ?_
      refine mv_max rfl rfl rfl ?_
      refine mw_pfI rfl rfl (ha0.1) (by decide) rfl rfl ?_
      have F := F _ rfl
      exact F
theorem pc_Code_settle_86 {q : Nat × (Nat → Int32)} {sx : List sh_T} (hsx : sx.length ≤ en_b) {S S' : ms} {r : Option Value} (x1 x2 x3 : Int) (a0 : Nat) (ha0 : isCodeP sx a0)
    (F : EW q sx 0 0 10 25 [some (.ref a0), some (vI x1), some (vI (x2 + 1)), none] [] S r S') : EW q sx 0 0 10 86 [some (.ref a0), some (vI x1), some (vI x2), some (vI x3)] [] S r S' := by
  unfold EW
  refine mv_inc (lv' := [some (.ref a0), some (vI x1), some (vI (x2 + 1)), some (vI x3)]) 2 1 rfl rfl rfl rfl ?_
  refine mv_goto 25 rfl rfl ?_
  exact ev_wk (le_s (le_s (le_s (le_n le_0)))) F
theorem pc_Code_settle_108 {q : Nat × (Nat → Int32)} {sx : List sh_T} (hsx : sx.length ≤ en_b) {S S' : ms} {r : Option Value} (x1 x2 : Int) (a0 : Nat) (ha0 : isCodeP sx a0)
    (F : ((20 < w32 x2) → EW q sx 0 0 10 166 [some (.ref a0), some (vI x1), some (vI 0), none] [] S r S') ∧ ((¬ 20 < w32 x2) → (0 ≤ w32 x2 ∧ w32 x2 < (22 : Nat)) ∧ (0 ≤ w32 x2 ∧ w32 x2 < (21 : Nat)) ∧ (0 ≤ w32 (x2 + 1) ∧ w32 (x2 + 1) < (22 : Nat)) ∧ ∀ S4 : ms, S4 = wI S (a0 + 6) (w32 (x2 + 1)) (((S.1 (a0 + 6) (w32 x2)) + (S.1 (a0 + 5) (w32 x2))) * 2) → (0 ≤ w32 x2 ∧ w32 x2 < (22 : Nat)) ∧ (0 ≤ w32 x2 ∧ w32 x2 < (21 : Nat)) ∧ (0 ≤ w32 (x2 + 1) ∧ w32 (x2 + 1) < (22 : Nat)) ∧ ∀ S8 : ms, S8 = wI S4 (a0 + 7) (w32 (x2 + 1)) ((S4.1 (a0 + 7) (w32 x2)) + (S4.1 (a0 + 5) (w32 x2))) → EW q sx 0 0 10 108 [some (.ref a0), some (vI x1), some (vI (x2 + 1)), none] [] S8 r S')) : EW q sx 0 0 10 108 [some (.ref a0), some (vI x1), some (vI x2), none] [] S r S' := by
  unfold EW
  refine ev_bk 2 (S' := (111, [some (.ref a0), some (vI x1), some (vI x2), none], [vI 20, vI x2], hq sx S, 0, 0)) rfl ?_
  refine mv_icmp 164 rfl rfl (fun c => ?_) (fun c => ?_)
  · have F := F.1 c
    refine ev_bk 2 (S' := (166, [some (.ref a0), some (vI x1), some (vI 0), none], [], hq sx S, 0, 0)) rfl ?_
    exact F
  · have F := F.2 c
    refine ev_bk 1 (S' := (115, [some (.ref a0), some (vI x1), some (vI x2), none], [.ref a0], hq sx S, 0, 0)) rfl ?_
    refine mw_gfR rfl rfl (ha0.1) (by decide) rfl ?_
    refine ev_bk 2 (S' := (120, [some (.ref a0), some (vI x1), some (vI x2), none], [vI 1, vI x2, .ref (a0 + 6)], hq sx S, 0, 0)) rfl ?_
    refine mv_iadd rfl ?_
    refine ev_bk 1 (S' := (122, [some (.ref a0), some (vI x1), some (vI x2), none], [.ref a0, vI (x2 + 1), .ref (a0 + 6)], hq sx S, 0, 0)) rfl ?_
    refine mw_gfR rfl rfl (ha0.1) (by decide) rfl ?_
    refine ev_bk 1 (S' := (126, [some (.ref a0), some (vI x1), some (vI x2), none], [vI x2, .ref (a0 + 6), vI (x2 + 1), .ref (a0 + 6)], hq sx S, 0, 0)) rfl ?_
    obtain ⟨b1, F⟩ := F
    refine mw_ial rfl (ha0.2.2.2.2.2.2.1) b1 ?_
    refine ev_bk 1 (S' := (128, [some (.ref a0), some (vI x1), some (vI x2), none], [.ref a0, vI (S.1 (a0 + 6) (w32 x2)), vI (x2 + 1), .ref (a0 + 6)], hq sx S, 0, 0)) rfl ?_
    refine mw_gfR rfl rfl (ha0.1) (by decide) rfl ?_
    refine ev_bk 1 (S' := (132, [some (.ref a0), some (vI x1), some (vI x2), none], [vI x2, .ref (a0 + 5), vI (S.1 (a0 + 6) (w32 x2)), vI (x2 + 1), .ref (a0 + 6)], hq sx S, 0, 0)) rfl ?_
    obtain ⟨b2, F⟩ := F
    refine mw_ial rfl (ha0.2.2.2.2.2.1) b2 ?_
    refine mv_iadd rfl ?_
    refine ev_bk 1 (S' := (135, [some (.ref a0), some (vI x1), some (vI x2), none], [vI 1, vI ((S.1 (a0 + 6) (w32 x2)) + (S.1 (a0 + 5) (w32 x2))), vI (x2 + 1), .ref (a0 + 6)], hq sx S, 0, 0)) rfl ?_
    refine mv_ishl 2 rfl rfl ?_
    obtain ⟨b3, F⟩ := F
    refine mw_ias rfl (ha0.2.2.2.2.2.2.1) b3 ?_
    have F := F _ rfl
    refine ev_bk 1 (S' := (138, [some (.ref a0), some (vI x1), some (vI x2), none], [.ref a0], hq sx (wI S (a0 + 6) (w32 (x2 + 1)) (((S.1 (a0 + 6) (w32 x2)) + (S.1 (a0 + 5) (w32 x2))) * 2)), 0, 0)) rfl ?_
    refine mw_gfR rfl rfl (ha0.1) (by decide) rfl ?_
    refine ev_bk 2 (S' := (143, [some (.ref a0), some (vI x1), some (vI x2), none], [vI 1, vI x2, .ref (a0 + 7)], hq sx (wI S (a0 + 6) (w32 (x2 + 1)) (((S.1 (a0 + 6) (w32 x2)) + (S.1 (a0 + 5) (w32 x2))) * 2)), 0, 0)) rfl ?_
    refine mv_iadd rfl ?_
    refine ev_bk 1 (S' := (145, [some (.ref a0), some (vI x1), some (vI x2), none], [.ref a0, vI (x2 + 1), .ref (a0 + 7)], hq sx (wI S (a0 + 6) (w32 (x2 + 1)) (((S.1 (a0 + 6) (w32 x2)) + (S.1 (a0 + 5) (w32 x2))) * 2)), 0, 0)) rfl ?_
    refine mw_gfR rfl rfl (ha0.1) (by decide) rfl ?_
    refine ev_bk 1 (S' := (149, [some (.ref a0), some (vI x1), some (vI x2), none], [vI x2, .ref (a0 + 7), vI (x2 + 1), .ref (a0 + 7)], hq sx (wI S (a0 + 6) (w32 (x2 + 1)) (((S.1 (a0 + 6) (w32 x2)) + (S.1 (a0 + 5) (w32 x2))) * 2)), 0, 0)) rfl ?_
    obtain ⟨b5, F⟩ := F
    refine mw_ial rfl (ha0.2.2.2.2.2.2.2.1) b5 ?_
    refine ev_bk 1 (S' := (151, [some (.ref a0), some (vI x1), some (vI x2), none], [.ref a0, vI ((wI S (a0 + 6) (w32 (x2 + 1)) (((S.1 (a0 + 6) (w32 x2)) + (S.1 (a0 + 5) (w32 x2))) * 2)).1 (a0 + 7) (w32 x2)), vI (x2 + 1), .ref (a0 + 7)], hq sx (wI S (a0 + 6) (w32 (x2 + 1)) (((S.1 (a0 + 6) (w32 x2)) + (S.1 (a0 + 5) (w32 x2))) * 2)), 0, 0)) rfl ?_
    refine mw_gfR rfl rfl (ha0.1) (by decide) rfl ?_
    refine ev_bk 1 (S' := (155, [some (.ref a0), some (vI x1), some (vI x2), none], [vI x2, .ref (a0 + 5), vI ((wI S (a0 + 6) (w32 (x2 + 1)) (((S.1 (a0 + 6) (w32 x2)) + (S.1 (a0 + 5) (w32 x2))) * 2)).1 (a0 + 7) (w32 x2)), vI (x2 + 1), .ref (a0 + 7)], hq sx (wI S (a0 + 6) (w32 (x2 + 1)) (((S.1 (a0 + 6) (w32 x2)) + (S.1 (a0 + 5) (w32 x2))) * 2)), 0, 0)) rfl ?_
    obtain ⟨b6, F⟩ := F
    refine mw_ial rfl (ha0.2.2.2.2.2.1) b6 ?_
    refine mv_iadd rfl ?_
    obtain ⟨b7, F⟩ := F
    refine mw_ias rfl (ha0.2.2.2.2.2.2.2.1) b7 ?_
    have F := F _ rfl
    refine mv_inc (lv' := [some (.ref a0), some (vI x1), some (vI (x2 + 1)), none]) 2 1 rfl rfl rfl rfl ?_
    refine mv_goto 108 rfl rfl ?_
    exact F
theorem pc_Code_settle_166 {q : Nat × (Nat → Int32)} {sx : List sh_T} (hsx : sx.length ≤ en_b) {S S' : ms} {r : Option Value} (x1 x2 : Int) (a0 : Nat) (ha0 : isCodeP sx a0)
    (F : ((w32 x1 ≤ w32 x2) → r = none ∧ S' = S) ∧ ((¬ w32 x1 ≤ w32 x2) → (0 ≤ w32 x2 ∧ w32 x2 < (288 : Nat)) ∧ ((w32 (S.1 (a0 + 1) (w32 x2)) ≤ 0) → EW q sx 0 0 10 242 [some (.ref a0), some (vI x1), some (vI x2), some (vI (S.1 (a0 + 1) (w32 x2)))] [] S r S') ∧ ((¬ w32 (S.1 (a0 + 1) (w32 x2)) ≤ 0) → (0 ≤ w32 (S.1 (a0 + 1) (w32 x2)) ∧ w32 (S.1 (a0 + 1) (w32 x2)) < (22 : Nat)) ∧ (0 ≤ w32 x2 ∧ w32 x2 < (288 : Nat)) ∧ ∀ S4 : ms, S4 = wI S (a0 + 2) (w32 x2) (S.1 (a0 + 6) (w32 (S.1 (a0 + 1) (w32 x2)))) → (0 ≤ w32 x2 ∧ w32 x2 < (288 : Nat)) ∧ ∃ (z8 : Int) (S6 : ms), EW q sx 0 0 12 0 [some (vI (S4.1 (a0 + 2) (w32 x2))), some (vI (S.1 (a0 + 1) (w32 x2))), none, none] [] S4 (some (vI z8)) S6 ∧ (0 ≤ w32 x2 ∧ w32 x2 < (288 : Nat)) ∧ ∀ S10 : ms, S10 = wI S6 (a0 + 3) (w32 x2) z8 → (0 ≤ w32 (S.1 (a0 + 1) (w32 x2)) ∧ w32 (S.1 (a0 + 1) (w32 x2)) < (22 : Nat)) ∧ (0 ≤ w32 (S10.1 (a0 + 7) (w32 (S.1 (a0 + 1) (w32 x2)))) ∧ w32 (S10.1 (a0 + 7) (w32 (S.1 (a0 + 1) (w32 x2)))) < (288 : Nat)) ∧ ∀ S13 : ms, S13 = wI S10 (a0 + 4) (w32 (S10.1 (a0 + 7) (w32 (S.1 (a0 + 1) (w32 x2))))) x2 → (0 ≤ w32 (S.1 (a0 + 1) (w32 x2)) ∧ w32 (S.1 (a0 + 1) (w32 x2)) < (22 : Nat)) ∧ (0 ≤ w32 (S.1 (a0 + 1) (w32 x2)) ∧ w32 (S.1 (a0 + 1) (w32 x2)) < (22 : Nat)) ∧ ∀ S16 : ms, S16 = wI S13 (a0 + 6) (w32 (S.1 (a0 + 1) (w32 x2))) ((S13.1 (a0 + 6) (w32 (S.1 (a0 + 1) (w32 x2)))) + 1) → (0 ≤ w32 (S.1 (a0 + 1) (w32 x2)) ∧ w32 (S.1 (a0 + 1) (w32 x2)) < (22 : Nat)) ∧ (0 ≤ w32 (S.1 (a0 + 1) (w32 x2)) ∧ w32 (S.1 (a0 + 1) (w32 x2)) < (22 : Nat)) ∧ ∀ S19 : ms, S19 = wI S16 (a0 + 7) (w32 (S.1 (a0 + 1) (w32 x2))) ((S16.1 (a0 + 7) (w32 (S.1 (a0 + 1) (w32 x2)))) + 1) → EW q sx 0 0 10 242 [some (.ref a0), some (vI x1), some (vI x2), some (vI (S.1 (a0 + 1) (w32 x2)))] [] S19 r S'))) : EW q sx 0 0 10 166 [some (.ref a0), some (vI x1), some (vI x2), none] [] S r S' := by
  unfold EW
  refine ev_bk 2 (S' := (168, [some (.ref a0), some (vI x1), some (vI x2), none], [vI x1, vI x2], hq sx S, 0, 0)) rfl ?_
  refine mv_icmp 248 rfl rfl (fun c => ?_) (fun c => ?_)
  · have F := F.1 c
    obtain ⟨rfl, rfl⟩ := F
    exact ev_ret rfl rfl
  · have F := F.2 c
    refine ev_bk 1 (S' := (172, [some (.ref a0), some (vI x1), some (vI x2), none], [.ref a0], hq sx S, 0, 0)) rfl ?_
    refine mw_gfR rfl rfl (ha0.1) (by decide) rfl ?_
    refine ev_bk 1 (S' := (176, [some (.ref a0), some (vI x1), some (vI x2), none], [vI x2, .ref (a0 + 1)], hq sx S, 0, 0)) rfl ?_
    obtain ⟨b1, F⟩ := F
    refine mw_ial rfl (ha0.2.1) b1 ?_
    refine ev_bk 2 (S' := (179, [some (.ref a0), some (vI x1), some (vI x2), some (vI (S.1 (a0 + 1) (w32 x2)))], [vI (S.1 (a0 + 1) (w32 x2))], hq sx S, 0, 0)) rfl ?_
    refine mv_if 242 rfl rfl (fun c => ?_) (fun c => ?_)
    · have F := F.1 c
      exact F
    · have F := F.2 c
      refine ev_bk 1 (S' := (183, [some (.ref a0), some (vI x1), some (vI x2), some (vI (S.1 (a0 + 1) (w32 x2)))], [.ref a0], hq sx S, 0, 0)) rfl ?_
      refine mw_gfR rfl rfl (ha0.1) (by decide) rfl ?_
      refine ev_bk 2 (S' := (188, [some (.ref a0), some (vI x1), some (vI x2), some (vI (S.1 (a0 + 1) (w32 x2)))], [.ref a0, vI x2, .ref (a0 + 2)], hq sx S, 0, 0)) rfl ?_
      refine mw_gfR rfl rfl (ha0.1) (by decide) rfl ?_
      refine ev_bk 1 (S' := (192, [some (.ref a0), some (vI x1), some (vI x2), some (vI (S.1 (a0 + 1) (w32 x2)))], [vI (S.1 (a0 + 1) (w32 x2)), .ref (a0 + 6), vI x2, .ref (a0 + 2)], hq sx S, 0, 0)) rfl ?_
      obtain ⟨b2, F⟩ := F
      refine mw_ial rfl (ha0.2.2.2.2.2.2.1) b2 ?_
      obtain ⟨b3, F⟩ := F
      refine mw_ias rfl (ha0.2.2.1) b3 ?_
      have F := F _ rfl
      refine ev_bk 1 (S' := (195, [some (.ref a0), some (vI x1), some (vI x2), some (vI (S.1 (a0 + 1) (w32 x2)))], [.ref a0], hq sx (wI S (a0 + 2) (w32 x2) (S.1 (a0 + 6) (w32 (S.1 (a0 + 1) (w32 x2))))), 0, 0)) rfl ?_
      refine mw_gfR rfl rfl (ha0.1) (by decide) rfl ?_
      refine ev_bk 2 (S' := (200, [some (.ref a0), some (vI x1), some (vI x2), some (vI (S.1 (a0 + 1) (w32 x2)))], [.ref a0, vI x2, .ref (a0 + 3)], hq sx (wI S (a0 + 2) (w32 x2) (S.1 (a0 + 6) (w32 (S.1 (a0 + 1) (w32 x2))))), 0, 0)) rfl ?_
      refine mw_gfR rfl rfl (ha0.1) (by decide) rfl ?_
      refine ev_bk 1 (S' := (204, [some (.ref a0), some (vI x1), some (vI x2), some (vI (S.1 (a0 + 1) (w32 x2)))], [vI x2, .ref (a0 + 2), vI x2, .ref (a0 + 3)], hq sx (wI S (a0 + 2) (w32 x2) (S.1 (a0 + 6) (w32 (S.1 (a0 + 1) (w32 x2))))), 0, 0)) rfl ?_
      obtain ⟨b5, F⟩ := F
      refine mw_ial rfl (ha0.2.2.1) b5 ?_
      refine ev_bk 1 (S' := (206, [some (.ref a0), some (vI x1), some (vI x2), some (vI (S.1 (a0 + 1) (w32 x2)))], [vI (S.1 (a0 + 1) (w32 x2)), vI ((wI S (a0 + 2) (w32 x2) (S.1 (a0 + 6) (w32 (S.1 (a0 + 1) (w32 x2))))).1 (a0 + 2) (w32 x2)), vI x2, .ref (a0 + 3)], hq sx (wI S (a0 + 2) (w32 x2) (S.1 (a0 + 6) (w32 (S.1 (a0 + 1) (w32 x2))))), 0, 0)) rfl ?_
      obtain ⟨z8, S6, e7, F⟩ := F
      refine mw_cals hsx (as := [vI ((wI S (a0 + 2) (w32 x2) (S.1 (a0 + 6) (w32 (S.1 (a0 + 1) (w32 x2))))).1 (a0 + 2) (w32 x2)), vI (S.1 (a0 + 1) (w32 x2))]) (rest := [vI x2, .ref (a0 + 3)]) e7 rfl rfl rfl ⟨rfl, rfl, rfl⟩ rfl rfl rfl rfl ?_
      obtain ⟨b9, F⟩ := F
      refine mw_ias rfl (ha0.2.2.2.1) b9 ?_
      have F := F _ rfl
      refine ev_bk 1 (S' := (211, [some (.ref a0), some (vI x1), some (vI x2), some (vI (S.1 (a0 + 1) (w32 x2)))], [.ref a0], hq sx (wI S6 (a0 + 3) (w32 x2) z8), 0, 0)) rfl ?_
      refine mw_gfR rfl rfl (ha0.1) (by decide) rfl ?_
      refine ev_bk 1 (S' := (215, [some (.ref a0), some (vI x1), some (vI x2), some (vI (S.1 (a0 + 1) (w32 x2)))], [.ref a0, .ref (a0 + 4)], hq sx (wI S6 (a0 + 3) (w32 x2) z8), 0, 0)) rfl ?_
      refine mw_gfR rfl rfl (ha0.1) (by decide) rfl ?_
      refine ev_bk 1 (S' := (219, [some (.ref a0), some (vI x1), some (vI x2), some (vI (S.1 (a0 + 1) (w32 x2)))], [vI (S.1 (a0 + 1) (w32 x2)), .ref (a0 + 7), .ref (a0 + 4)], hq sx (wI S6 (a0 + 3) (w32 x2) z8), 0, 0)) rfl ?_
      obtain ⟨b11, F⟩ := F
      refine mw_ial rfl (ha0.2.2.2.2.2.2.2.1) b11 ?_
      refine ev_bk 1 (S' := (221, [some (.ref a0), some (vI x1), some (vI x2), some (vI (S.1 (a0 + 1) (w32 x2)))], [vI x2, vI ((wI S6 (a0 + 3) (w32 x2) z8).1 (a0 + 7) (w32 (S.1 (a0 + 1) (w32 x2)))), .ref (a0 + 4)], hq sx (wI S6 (a0 + 3) (w32 x2) z8), 0, 0)) rfl ?_
      obtain ⟨b12, F⟩ := F
      refine mw_ias rfl (ha0.2.2.2.2.1) b12 ?_
      have F := F _ rfl
      refine ev_bk 1 (S' := (223, [some (.ref a0), some (vI x1), some (vI x2), some (vI (S.1 (a0 + 1) (w32 x2)))], [.ref a0], hq sx (wI (wI S6 (a0 + 3) (w32 x2) z8) (a0 + 4) (w32 ((wI S6 (a0 + 3) (w32 x2) z8).1 (a0 + 7) (w32 (S.1 (a0 + 1) (w32 x2))))) x2), 0, 0)) rfl ?_
      refine mw_gfR rfl rfl (ha0.1) (by decide) rfl ?_
      refine ev_bk 2 (S' := (228, [some (.ref a0), some (vI x1), some (vI x2), some (vI (S.1 (a0 + 1) (w32 x2)))], [vI (S.1 (a0 + 1) (w32 x2)), .ref (a0 + 6), vI (S.1 (a0 + 1) (w32 x2)), .ref (a0 + 6)], hq sx (wI (wI S6 (a0 + 3) (w32 x2) z8) (a0 + 4) (w32 ((wI S6 (a0 + 3) (w32 x2) z8).1 (a0 + 7) (w32 (S.1 (a0 + 1) (w32 x2))))) x2), 0, 0)) rfl ?_
      obtain ⟨b14, F⟩ := F
      refine mw_ial rfl (ha0.2.2.2.2.2.2.1) b14 ?_
      refine ev_bk 1 (S' := (230, [some (.ref a0), some (vI x1), some (vI x2), some (vI (S.1 (a0 + 1) (w32 x2)))], [vI 1, vI ((wI (wI S6 (a0 + 3) (w32 x2) z8) (a0 + 4) (w32 ((wI S6 (a0 + 3) (w32 x2) z8).1 (a0 + 7) (w32 (S.1 (a0 + 1) (w32 x2))))) x2).1 (a0 + 6) (w32 (S.1 (a0 + 1) (w32 x2)))), vI (S.1 (a0 + 1) (w32 x2)), .ref (a0 + 6)], hq sx (wI (wI S6 (a0 + 3) (w32 x2) z8) (a0 + 4) (w32 ((wI S6 (a0 + 3) (w32 x2) z8).1 (a0 + 7) (w32 (S.1 (a0 + 1) (w32 x2))))) x2), 0, 0)) rfl ?_
      refine mv_iadd rfl ?_
      obtain ⟨b15, F⟩ := F
      refine mw_ias rfl (ha0.2.2.2.2.2.2.1) b15 ?_
      have F := F _ rfl
      refine ev_bk 1 (S' := (233, [some (.ref a0), some (vI x1), some (vI x2), some (vI (S.1 (a0 + 1) (w32 x2)))], [.ref a0], hq sx (wI (wI (wI S6 (a0 + 3) (w32 x2) z8) (a0 + 4) (w32 ((wI S6 (a0 + 3) (w32 x2) z8).1 (a0 + 7) (w32 (S.1 (a0 + 1) (w32 x2))))) x2) (a0 + 6) (w32 (S.1 (a0 + 1) (w32 x2))) (((wI (wI S6 (a0 + 3) (w32 x2) z8) (a0 + 4) (w32 ((wI S6 (a0 + 3) (w32 x2) z8).1 (a0 + 7) (w32 (S.1 (a0 + 1) (w32 x2))))) x2).1 (a0 + 6) (w32 (S.1 (a0 + 1) (w32 x2)))) + 1)), 0, 0)) rfl ?_
      refine mw_gfR rfl rfl (ha0.1) (by decide) rfl ?_
      refine ev_bk 2 (S' := (238, [some (.ref a0), some (vI x1), some (vI x2), some (vI (S.1 (a0 + 1) (w32 x2)))], [vI (S.1 (a0 + 1) (w32 x2)), .ref (a0 + 7), vI (S.1 (a0 + 1) (w32 x2)), .ref (a0 + 7)], hq sx (wI (wI (wI S6 (a0 + 3) (w32 x2) z8) (a0 + 4) (w32 ((wI S6 (a0 + 3) (w32 x2) z8).1 (a0 + 7) (w32 (S.1 (a0 + 1) (w32 x2))))) x2) (a0 + 6) (w32 (S.1 (a0 + 1) (w32 x2))) (((wI (wI S6 (a0 + 3) (w32 x2) z8) (a0 + 4) (w32 ((wI S6 (a0 + 3) (w32 x2) z8).1 (a0 + 7) (w32 (S.1 (a0 + 1) (w32 x2))))) x2).1 (a0 + 6) (w32 (S.1 (a0 + 1) (w32 x2)))) + 1)), 0, 0)) rfl ?_
      obtain ⟨b17, F⟩ := F
      refine mw_ial rfl (ha0.2.2.2.2.2.2.2.1) b17 ?_
      refine ev_bk 1 (S' := (240, [some (.ref a0), some (vI x1), some (vI x2), some (vI (S.1 (a0 + 1) (w32 x2)))], [vI 1, vI ((wI (wI (wI S6 (a0 + 3) (w32 x2) z8) (a0 + 4) (w32 ((wI S6 (a0 + 3) (w32 x2) z8).1 (a0 + 7) (w32 (S.1 (a0 + 1) (w32 x2))))) x2) (a0 + 6) (w32 (S.1 (a0 + 1) (w32 x2))) (((wI (wI S6 (a0 + 3) (w32 x2) z8) (a0 + 4) (w32 ((wI S6 (a0 + 3) (w32 x2) z8).1 (a0 + 7) (w32 (S.1 (a0 + 1) (w32 x2))))) x2).1 (a0 + 6) (w32 (S.1 (a0 + 1) (w32 x2)))) + 1)).1 (a0 + 7) (w32 (S.1 (a0 + 1) (w32 x2)))), vI (S.1 (a0 + 1) (w32 x2)), .ref (a0 + 7)], hq sx (wI (wI (wI S6 (a0 + 3) (w32 x2) z8) (a0 + 4) (w32 ((wI S6 (a0 + 3) (w32 x2) z8).1 (a0 + 7) (w32 (S.1 (a0 + 1) (w32 x2))))) x2) (a0 + 6) (w32 (S.1 (a0 + 1) (w32 x2))) (((wI (wI S6 (a0 + 3) (w32 x2) z8) (a0 + 4) (w32 ((wI S6 (a0 + 3) (w32 x2) z8).1 (a0 + 7) (w32 (S.1 (a0 + 1) (w32 x2))))) x2).1 (a0 + 6) (w32 (S.1 (a0 + 1) (w32 x2)))) + 1)), 0, 0)) rfl ?_
      refine mv_iadd rfl ?_
      obtain ⟨b18, F⟩ := F
      refine mw_ias rfl (ha0.2.2.2.2.2.2.2.1) b18 ?_
      have F := F _ rfl
      exact F
theorem pc_Code_settle_242 {q : Nat × (Nat → Int32)} {sx : List sh_T} (hsx : sx.length ≤ en_b) {S S' : ms} {r : Option Value} (x1 x2 x3 : Int) (a0 : Nat) (ha0 : isCodeP sx a0)
    (F : EW q sx 0 0 10 166 [some (.ref a0), some (vI x1), some (vI (x2 + 1)), none] [] S r S') : EW q sx 0 0 10 242 [some (.ref a0), some (vI x1), some (vI x2), some (vI x3)] [] S r S' := by
  unfold EW
  refine mv_inc (lv' := [some (.ref a0), some (vI x1), some (vI (x2 + 1)), some (vI x3)]) 2 1 rfl rfl rfl rfl ?_
  refine mv_goto 166 rfl rfl ?_
  exact ev_wk (le_s (le_s (le_s (le_n le_0)))) F
