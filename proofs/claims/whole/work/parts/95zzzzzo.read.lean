/-! read: a whole BOX -/
section ReaO
variable {q : Nat × (Nat → Int32)} {x : Int} {t : Int → Int}
abbrev bxQ (t : Int → Int) (x L : Int) : Prop := 22 ≤ x ∧ lowV t L 4 = 101010256 ∧ lowV t (L + 4) 4 = 0 ∧ lowV t (L + 20) 2 = 0 ∧ lowV t (L + 8) 2 = lowV t (L + 10) 2
theorem rd_box {sh : Nat} (hs : isSh sh) (hx : 0 ≤ x ∧ x ≤ 6000) (ht : ∀ k : Int, 0 ≤ k → k < x → 0 ≤ t k ∧ t k < 256) : RdK q x t sh 203 400 [none, none, none, none, none, none] [none, none, none, none, none, none, none, none, none, none, none, none, none] := by
  have hsl := isSh_is hs
  have hr0 : rdR x st0 := rdR_0 hx.1
  have E0 : ∀ S : ms, S.1 sh 4 = 0 → ShC S sh 0 (fun _ => (0, fun _ => 0, 0, 0, 0, fun _ => 0)) := fun S h => ⟨h, fun e he => absurd he (by omega)⟩
  have M0 : ∀ S : ms, S.1 367 95 = 0 → ShM S 0 (fun _ => (0, fun _ => 0, 0, 0, 0, fun _ => 0)) := fun S h => ⟨h, fun e he => absurd he (by omega)⟩
  have e2m : ∀ S B : ms, S.1 367 2 = x → MR S B x st0 → B.1 367 2 = x := fun S B h2 hB => by rw [hB.2.2.2 367 2 (by omega) (by omega)]; exact h2
  obtain ⟨L, eL⟩ : ∃ L : Int, L + 22 = x := ⟨x - 22, by omega⟩
  obtain ⟨P, eP⟩ : ∃ P : Int, P = max 0 L := ⟨_, rfl⟩
  have exL : x - 22 = L := by omega
  have wL : w32 L = L := w32_of (by omega)
  have wx : w32 x = x := w32_of (by omega)
  have w0 : w32 0 = 0 := by decide
  have hTA : ∀ S A : ms, TC S x t → CW S A x st0 → TC A x t := fun S A hT hA k k0 k1 => ⟨(hT k k0 k1).1, by rw [hA.2.2.2 2 k (by omega) (by omega) (by omega)]; exact (hT k k0 k1).2⟩
  have hTB : ∀ S B : ms, TM S x t → MWl S B st0 → TM B x t := fun S B hT hB k k0 k1 => ⟨(hT k k0 k1).1, by rw [hB.2.2.2 368 k (by omega) (by omega)]; exact (hT k k0 k1).2⟩
  have v1 : w64 101010256 = 101010256 := by decide
  have v2 : w64 0 = 0 := by decide
  have v3 : w64 16 = 16 := by decide
  have wl2 : ∀ k : Int, 0 ≤ k → k + 2 ≤ x → w64 (lowV t k 2) = lowV t k 2 := fun k k0 k1 => w64_of (by have := low2_r (t := t) (x := x) (p := k) (by omega) ht; omega)
  have wl4 : ∀ k : Int, 0 ≤ k → k + 4 ≤ x → w64 (lowV t k 4) = lowV t k 4 := fun k k0 k1 => w64_of (by have := low4_r (t := t) (x := x) (p := k) (by omega) ht; omega)
  -- the start of the class
  have cs : ∀ (S A : ms) (R : Option Value) (T : ms), CW S A x st0 → (∃ (S1 : ms), EV q 204 0 [some (.ref 9), some (vI P), none] [] A none S1 ∧ ((w32 (S1.1 9 5) = 0) → ∃ (z5 : Int) (S3 : ms), EV q 155 0 [some (.ref 2), some (vI (P + 8)), some (vI 2), none, none, none] [] S1 (some (vL z5)) S3 ∧ ∃ (z8 : Int) (S6 : ms), EV q 155 0 [some (.ref 2), some (vI (P + 16)), some (vI 4), none, none, none] [] S3 (some (vL z8)) S6 ∧ EV q 203 61 [some (.ref sh), some (.ref 9), some (.ref 2), some (vI P), some (vI z5), some (vI z8), some (vI z8), some (vI 0)] [] S6 R T) ∧ ((¬ w32 (S1.1 9 5) = 0) → R = none ∧ T = S1)) → EV q 203 0 [some (.ref sh), some (.ref 9), none, none, none, none, none, none] [] A R T := fun S A R T hA y => by
    refine vc_Shelf_readBox sh hsl ?_
    rw [hA.2.1.1 rfl, exL, wL, w0, ← eP]
    exact y
  by_cases c1 : bxQ t x L
  case neg =>
    have ct : (rdTellAt 120 P st0).1 ≠ 0 := rdTellAt_1 (by decide)
    have hrt : rdR x (rdTellAt 120 P st0) := rdR_tellAt hr0 (by decide)
    refine ⟨0, fun _ => (0, fun _ => 0, 0, 0, 0, fun _ => 0), rdTellAt 120 P st0, hrt, by omega, fun e he => absurd he (by omega), fun S A _ _ hT _ _ h4 hA => ?_, fun S B _ hK _ _ hT h2 h95 hB => ?_⟩
    · have hA' := CR_CW hA
      have hTA' := hTA S A hT hA'
      obtain ⟨A1, k1, k2⟩ := cw_tellAt (q := q) (k := 120) (p := P) hr0 hA'
      have w5 : ¬ w32 (A1.1 9 5) = 0 := by rw [k2.2.1.2.1, w32_of (by have := hrt.1; omega)]; exact ct
      have k76 : EV q 204 76 [some (.ref 9), some (vI P), some (.ref 2)] [] A none A1 := vc_Shelf_boxEnd_76 _ ⟨A1, k1, rfl, rfl⟩
      refine ⟨S, A1, EX.refl _ S, k2, E0 S h4, cs S A _ _ hA' ⟨A1, vc_Shelf_boxEnd _ ?_, cNo w5 ⟨rfl, rfl⟩⟩⟩
      rw [hA.2.1.1 rfl, wx]
      by_cases d0 : x < 22
      · exact cY d0 k76
      have eP' : P = L := by omega
      rw [eP'] at k76 ⊢
      refine cNo d0 ⟨_, A, cn_low (p := L) (n := 4) (by omega) (by omega) hx.2 hTA', ?_⟩
      rw [wl4 L (by omega) (by omega), v1]
      by_cases d1 : lowV t L 4 = 101010256
      case neg => exact cY d1 k76
      refine cNN d1 ⟨_, A, cn_low (p := L + 4) (n := 4) (by omega) (by omega) hx.2 hTA', ?_⟩
      rw [wl4 (L + 4) (by omega) (by omega), v2]
      by_cases d2 : lowV t (L + 4) 4 = 0
      case neg => exact cY d2 k76
      refine cNN d2 ⟨_, A, cn_low (p := L + 20) (n := 2) (by omega) (by omega) hx.2 hTA', ?_⟩
      rw [wl2 (L + 20) (by omega) (by omega)]
      by_cases d3 : lowV t (L + 20) 2 = 0
      case neg => exact cY d3 k76
      refine cNN d3 ⟨_, A, cn_low (p := L + 8) (n := 2) (by omega) (by omega) hx.2 hTA', _, A, cn_low (p := L + 10) (n := 2) (by omega) (by omega) hx.2 hTA', ?_⟩
      rw [wl2 (L + 8) (by omega) (by omega), wl2 (L + 10) (by omega) (by omega)]
      exact cNo (fun y => c1 ⟨by omega, d1, d2, d3, y⟩) k76
    · have hB' := MR_MWl hB
      have hTB' := hTB S B hT hB'
      obtain ⟨B1, k1, k2⟩ := mt_tellAt (q := q) (k := 120) (p := P) hr0 hB'
      have k74 : EV q 400 74 [some (.ref 367), some (vI L), none, none, none, none, none, none, none, none, none, none, none, none] [] B none B1 := by
        refine vc_MD_readBox_74 _ ?_
        rw [wL]
        by_cases d : 0 ≤ L
        · rw [show P = L by omega] at k1
          exact cY d (vc_MD_readBox_86 _ _ _ ⟨B1, k1, rfl, rfl⟩)
        · rw [show P = 0 by omega] at k1
          exact cNo d (vc_MD_readBox_86 _ _ _ ⟨B1, k1, rfl, rfl⟩)
      refine ⟨S, B1, EY.refl _ S, k2, hK, M0 S h95, vc_MD_readBox ?_⟩
      rw [e2m S B h2 hB, exL, wL]
      by_cases d0 : L < 0
      · exact cY d0 k74
      refine cNo d0 ⟨_, B, mn_low (p := L) (n := 4) (by omega) (by omega) hx.2 hTB', ?_⟩
      rw [wl4 L (by omega) (by omega), v1]
      by_cases d1 : lowV t L 4 = 101010256
      case neg => exact cY d1 k74
      refine cNN d1 ⟨_, B, mn_low (p := L + 4) (n := 4) (by omega) (by omega) hx.2 hTB', ?_⟩
      rw [wl4 (L + 4) (by omega) (by omega), v2]
      by_cases d2 : lowV t (L + 4) 4 = 0
      case neg => exact cY d2 k74
      refine cNN d2 ⟨_, B, mn_low (p := L + 20) (n := 2) (by omega) (by omega) hx.2 hTB', ?_⟩
      rw [wl2 (L + 20) (by omega) (by omega)]
      by_cases d3 : lowV t (L + 20) 2 = 0
      case neg => exact cY d3 k74
      refine cNN d3 ⟨_, B, mn_low (p := L + 8) (n := 2) (by omega) (by omega) hx.2 hTB', _, B, mn_low (p := L + 10) (n := 2) (by omega) (by omega) hx.2 hTB', ?_⟩
      rw [wl2 (L + 8) (by omega) (by omega), wl2 (L + 10) (by omega) (by omega)]
      exact cNo (fun y => c1 ⟨by omega, d1, d2, d3, y⟩) k74
  obtain ⟨d0, d1, d2, d3, d4⟩ := c1
  have eP' : P = L := by omega
  subst eP'
  clear eP
  obtain ⟨C, eC⟩ : ∃ C : Nat, lowV t (P + 8) 2 = C := ⟨(lowV t (P + 8) 2).toNat, by have := low2_r (t := t) (x := x) (p := P + 8) (by omega) ht; omega⟩
  obtain ⟨b0, eb0⟩ : ∃ v : Int, lowV t (P + 16) 4 = v := ⟨_, rfl⟩
  obtain ⟨z0, ez0⟩ : ∃ v : Int, lowV t (P + 12) 4 = v := ⟨_, rfl⟩
  have rC := low2_r (t := t) (x := x) (p := P + 8) (by omega) ht
  have rb0 := low4_r (t := t) (x := x) (p := P + 16) (by omega) ht
  have rz0 := low4_r (t := t) (x := x) (p := P + 12) (by omega) ht
  have x1 := wl4 P (by omega) (by omega)
  have x2 := wl4 (P + 4) (by omega) (by omega)
  have x3 := wl2 (P + 20) (by omega) (by omega)
  have x4 := wl2 (P + 8) (by omega) (by omega)
  have x5 := wl2 (P + 10) (by omega) (by omega)
  rw [← d4, eC] at x5
  rw [eC] at x4 rC d4
  rw [eb0] at rb0
  rw [ez0] at rz0
  rw [d1] at x1
  rw [d2] at x2
  rw [d3] at x3
  have wC : Unit → w64 ((C : Nat) : Int) = C := fun _ => x4
  have wC' : Unit → w64 (lowV t (P + 10) 2) = C := fun _ => by rw [← d4]; exact x4
  clear x4 x5
  have wS1 : w64 (z0 + b0) = z0 + b0 := w64_of (by omega)
  have wS2 : w64 (b0 + z0) = b0 + z0 := w64_of (by omega)
  have wLL : w64 P = P := w64_of (by omega)
  have clow : ∀ A : ms, TC A x t → EV q 155 0 [some (.ref 2), some (vI (P + 8)), some (vI 2), none, none, none] [] A (some (vL C)) A ∧ EV q 155 0 [some (.ref 2), some (vI (P + 16)), some (vI 4), none, none, none] [] A (some (vL b0)) A ∧ EV q 155 0 [some (.ref 2), some (vI (P + 12)), some (vI 4), none, none, none] [] A (some (vL z0)) A := fun A hA => by
    have a := cn_low (q := q) (p := P + 8) (n := 2) (by omega) (by omega) hx.2 hA
    have b := cn_low (q := q) (p := P + 16) (n := 4) (by omega) (by omega) hx.2 hA
    have c := cn_low (q := q) (p := P + 12) (n := 4) (by omega) (by omega) hx.2 hA
    rw [eC] at a
    rw [eb0] at b
    rw [ez0] at c
    exact ⟨a, b, c⟩
  have mlow : ∀ A : ms, TM A x t → EV q 401 0 [some (.ref 367), some (vI (P + 8)), some (vI 2), none, none, none] [] A (some (vL C)) A ∧ EV q 401 0 [some (.ref 367), some (vI (P + 16)), some (vI 4), none, none, none] [] A (some (vL b0)) A ∧ EV q 401 0 [some (.ref 367), some (vI (P + 12)), some (vI 4), none, none, none] [] A (some (vL z0)) A := fun A hA => by
    have a := mn_low (q := q) (p := P + 8) (n := 2) (by omega) (by omega) hx.2 hA
    have b := mn_low (q := q) (p := P + 16) (n := 4) (by omega) (by omega) hx.2 hA
    have c := mn_low (q := q) (p := P + 12) (n := 4) (by omega) (by omega) hx.2 hA
    rw [eC] at a
    rw [eb0] at b
    rw [ez0] at c
    exact ⟨a, b, c⟩
  have ce : ∀ (S A A1 : ms), TC S x t → CW S A x st0 → (((C : Int) ≤ 16 → EV q 204 107 [some (.ref 9), some (vI P), some (.ref 2)] [] A none A1) ∧ (¬ (C : Int) ≤ 16 → ∃ S19, EV q 126 0 [some (.ref 9), some (vI 104), some (vI P)] [] A none S19 ∧ EV q 204 107 [some (.ref 9), some (vI P), some (.ref 2)] [] S19 none A1)) → EV q 204 0 [some (.ref 9), some (vI P), none] [] A none A1 := by
    intro S A A1 hT hA y
    have hTA' := hTA S A hT hA
    refine vc_Shelf_boxEnd _ ?_
    rw [hA.2.1.1 rfl, wx]
    refine cNo (by omega) ⟨_, A, cn_low (p := P) (n := 4) (by omega) (by omega) hx.2 hTA', ?_⟩
    rw [d1]
    refine cNN rfl ⟨_, A, cn_low (p := P + 4) (n := 4) (by omega) (by omega) hx.2 hTA', ?_⟩
    rw [d2]
    refine cNN rfl ⟨_, A, cn_low (p := P + 20) (n := 2) (by omega) (by omega) hx.2 hTA', ?_⟩
    rw [d3]
    refine cNN rfl ⟨_, A, (clow A hTA').1, _, A, cn_low (p := P + 10) (n := 2) (by omega) (by omega) hx.2 hTA', ?_⟩
    rw [wC' (), wC ()]
    refine cY rfl ⟨_, A, (clow A hTA').1, ?_⟩
    rw [wC (), v3]
    exact y
  have me : ∀ (S B B1 : ms), S.1 367 2 = x → TM S x t → MR S B x st0 → (((C : Int) ≤ 16 → ((b0 + z0 = P) → EV q 400 161 [some (.ref 367), some (vI P), some (vL C), none, some (vL b0), none, some (vI b0), some (vL 0), none, none, none, none, none, none] [] B none B1) ∧ (¬ b0 + z0 = P → ∃ S25, EV q 335 0 [some (.ref 367), some (vI 121), some (vI P)] [] B none S25 ∧ (none : Option Value) = none ∧ B1 = S25)) ∧ (¬ (C : Int) ≤ 16 → ∃ S27, EV q 335 0 [some (.ref 367), some (vI 104), some (vI P)] [] B none S27 ∧ (none : Option Value) = none ∧ B1 = S27)) → EV q 400 0 [some (.ref 367), none, none, none, none, none, none, none, none, none, none, none, none, none] [] B none B1 := by
    intro S B B1 h2 hT hB y
    have hB' := MR_MWl hB
    have hTB' := hTB S B hT hB'
    refine vc_MD_readBox ?_
    rw [e2m S B h2 hB, exL, wL]
    refine cNo (by omega) ⟨_, B, mn_low (p := P) (n := 4) (by omega) (by omega) hx.2 hTB', ?_⟩
    rw [d1]
    refine cNN rfl ⟨_, B, mn_low (p := P + 4) (n := 4) (by omega) (by omega) hx.2 hTB', ?_⟩
    rw [d2]
    refine cNN rfl ⟨_, B, mn_low (p := P + 20) (n := 2) (by omega) (by omega) hx.2 hTB', ?_⟩
    rw [d3]
    refine cNN rfl ⟨_, B, (mlow B hTB').1, _, B, mn_low (p := P + 10) (n := 2) (by omega) (by omega) hx.2 hTB', ?_⟩
    rw [wC' (), wC ()]
    refine cY rfl ⟨_, B, (mlow B hTB').1, ?_⟩
    rw [wC (), v3]
    refine ⟨fun h => ⟨_, B, (mlow B hTB').2.1, _, B, (mlow B hTB').2.2, ?_⟩, y.2⟩
    rw [wS2, wLL]
    exact y.1 h
  by_cases c2 : (C : Int) ≤ 16
  case neg =>
    have ct : (rdTellAt 104 P st0).1 ≠ 0 := rdTellAt_1 (by decide)
    have hrt : rdR x (rdTellAt 104 P st0) := rdR_tellAt hr0 (by decide)
    refine ⟨0, fun _ => (0, fun _ => 0, 0, 0, 0, fun _ => 0), rdTellAt 104 P st0, hrt, by omega, fun e he => absurd he (by omega), fun S A _ _ hT _ _ h4 hA => ?_, fun S B _ hK _ _ hT h2 h95 hB => ?_⟩
    · have hA' := CR_CW hA
      obtain ⟨A1, k1, k2⟩ := cw_tellAt (q := q) (k := 104) (p := P) hr0 hA'
      have hT1 : TC A1 x t := fun k k0 k1 => ⟨(hT k k0 k1).1, by rw [k2.2.2.2 2 k (by omega) (by omega) (by omega)]; exact (hT k k0 k1).2⟩
      obtain ⟨A2, g1, g2⟩ := gWa (q := q) (c := z0 + b0 = P) (k := 121) (p := P) hrt k2
      rw [tl_told ct] at g1
      have w5 : ¬ w32 (A2.1 9 5) = 0 := by rw [g1.2.1.2.1, w32_of (by have := hrt.1; omega)]; exact ct
      have k107 : EV q 204 107 [some (.ref 9), some (vI P), some (.ref 2)] [] A1 none A2 := by
        refine vc_Shelf_boxEnd_107 _ ⟨_, A1, (clow A1 hT1).2.2, _, A1, (clow A1 hT1).2.1, ?_⟩
        rw [wS1, wL, wLL]
        rcases g2 with ⟨h, e⟩ | ⟨h, e⟩
        · exact cY h ⟨rfl, e⟩
        · exact cNo h ⟨A2, e, rfl, rfl⟩
      exact ⟨S, A2, EX.refl _ S, g1, E0 S h4, cs S A _ _ hA' ⟨A2, ce S A A2 hT hA' (cNo c2 ⟨A1, k1, k107⟩), cNo w5 ⟨rfl, rfl⟩⟩⟩
    · have hB' := MR_MWl hB
      obtain ⟨B1, k1, k2⟩ := mt_tellAt (q := q) (k := 104) (p := P) hr0 hB'
      exact ⟨S, B1, EY.refl _ S, k2, hK, M0 S h95, me S B B1 h2 hT hB (cNo c2 ⟨B1, k1, rfl, rfl⟩)⟩
  by_cases c3 : b0 + z0 = P
  case neg =>
    have ct : (rdTellAt 121 P st0).1 ≠ 0 := rdTellAt_1 (by decide)
    have hrt : rdR x (rdTellAt 121 P st0) := rdR_tellAt hr0 (by decide)
    refine ⟨0, fun _ => (0, fun _ => 0, 0, 0, 0, fun _ => 0), rdTellAt 121 P st0, hrt, by omega, fun e he => absurd he (by omega), fun S A _ _ hT _ _ h4 hA => ?_, fun S B _ hK _ _ hT h2 h95 hB => ?_⟩
    · have hA' := CR_CW hA
      have hTA' := hTA S A hT hA'
      obtain ⟨A1, k1, k2⟩ := cw_tellAt (q := q) (k := 121) (p := P) hr0 hA'
      have w5 : ¬ w32 (A1.1 9 5) = 0 := by rw [k2.2.1.2.1, w32_of (by have := hrt.1; omega)]; exact ct
      have k107 : EV q 204 107 [some (.ref 9), some (vI P), some (.ref 2)] [] A none A1 := by
        refine vc_Shelf_boxEnd_107 _ ⟨_, A, (clow A hTA').2.2, _, A, (clow A hTA').2.1, ?_⟩
        rw [wS1, wL, wLL]
        exact cNo (by omega) ⟨A1, k1, rfl, rfl⟩
      exact ⟨S, A1, EX.refl _ S, k2, E0 S h4, cs S A _ _ hA' ⟨A1, ce S A A1 hT hA' (cY c2 k107), cNo w5 ⟨rfl, rfl⟩⟩⟩
    · have hB' := MR_MWl hB
      obtain ⟨B1, k1, k2⟩ := mt_tellAt (q := q) (k := 121) (p := P) hr0 hB'
      exact ⟨S, B1, EY.refl _ S, k2, hK, M0 S h95, me S B B1 h2 hT hB (cY c2 (cNo c3 ⟨B1, k1, rfl, rfl⟩))⟩
  obtain ⟨n', E', st', i1, i2, i3, i4, i5⟩ := jbxL (q := q) (sh := sh) (C := C) (L := P) (b0 := b0) hs hx ht eL (by omega) (by omega) C 0 (fun _ => (0, fun _ => 0, 0, 0, 0, fun _ => 0)) b0 st0 (by omega) (by omega) (by omega) (fun e he => absurd he (by omega)) hr0 rfl
  refine ⟨n', E', st', i1, i2, i3, fun S A hS ho hT h31 h42 h4 hA => ?_, fun S B _ hK hQ h13 hT h2 h95 hB => ?_⟩
  · have hA' := CR_CW hA
    have hTA' := hTA S A hT hA'
    have w5 : w32 (A.1 9 5) = 0 := by rw [hA'.2.1.2.1]; decide
    have k107 : EV q 204 107 [some (.ref 9), some (vI P), some (.ref 2)] [] A none A := by
      refine vc_Shelf_boxEnd_107 _ ⟨_, A, (clow A hTA').2.2, _, A, (clow A hTA').2.1, ?_⟩
      rw [wS1, wL, wLL]
      exact cY (by omega) ⟨rfl, rfl⟩
    obtain ⟨S1, A1, k1, k2, k3, k4⟩ := i4 S A hS ho hT h31 h42 (E0 S h4) hA'
    exact ⟨S1, A1, k1, k2, k3, cs S A _ _ hA' ⟨A, ce S A A hT hA' (cY c2 k107), cY w5 ⟨_, A, (clow A hTA').1, _, A, (clow A hTA').2.1, k4⟩⟩⟩
  · obtain ⟨S1, B1, k1, k2, k3, k4, k5⟩ := i5 S B hK hQ h13 hT (M0 S h95) (MR_MWl hB)
    exact ⟨S1, B1, k1, k3, k2, k4, me S B B1 h2 hT hB (cY c2 (cY c3 k5))⟩
end ReaO
