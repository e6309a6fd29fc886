/-! BLOCKS: a block's own codes, both sides at once (2) -/
section Own2
variable {q : Nat × (Nat → Int32)} {en : Int}
theorem jcod {t : Int → Int} (he : 0 ≤ en ∧ en ≤ 6000) (ht : ∀ k : Int, 0 ≤ k → k < en → 0 ≤ t k ∧ t k < 256) {st : Rd} {h : Int} (hr : rdR en st) (hh : hR st h) : ∃ (stf : Rd) (hf : Int) (a n : Nat) (L : Int → Int), (rdR en stf ∧ Fw st stf ∧ hR stf hf) ∧ (stf.1 = 0 → rdP st h ≤ rdP stf hf ∧ (257 ≤ a ∧ a ≤ 286) ∧ (1 ≤ n ∧ n ≤ 30) ∧ ∀ k : Nat, k < a + n → 0 ≤ L k ∧ L k ≤ 15) ∧ (∀ (S A : ms) (o : Nat), S.1 9 7 = 0 → RdC S o en t → CB S A o en t st h → ∃ S1 A1, EX XCc S S1 ∧ EV q 136 0 [some (.ref 30), some (.ref 9), none, none, none, none] [] A none A1 ∧ CB S1 A1 o en t stf hf ∧ (stf.1 = 0 → CodC S1 53 a L ∧ CodC S1 64 n (fun k => L (a + k)))) ∧ ∀ S B : ms, S.1 367 18 = 0 → RdM S en t → MB S B en st h → ∃ S1 B1, EX XCm S S1 ∧ EV q 346 0 [some (.ref 367), none, none, none, none, none, none, none, none] [] B none B1 ∧ MB S1 B1 en stf hf ∧ (stf.1 = 0 → CodM S1 385 330 386 330 a L ∧ CodM S1 387 40 388 40 n (fun k => L (a + k)) ∧ S1.1 367 58 = a ∧ S1.1 367 59 = n) := by
  obtain ⟨z1, y1, st1, h1, ⟨a1, a2, a3, a4⟩, aR, a5, a6, a7⟩ := jbitsR0 (q := q) (hi := 0) he.2 ht (Or.inl rfl) (n := 5) (by omega) hr hh
  obtain ⟨z2, y2, st2, h2, ⟨b1, b2, b3, b4⟩, bR, b5, b6, b7⟩ := jbitsR0 (q := q) (hi := 0) he.2 ht (Or.inl rfl) (n := 5) (by omega) a1 a3
  obtain ⟨z3, y3, st3, h3, ⟨c1, c2, c3, c4⟩, cR, c5, c6, c7⟩ := jbitsR0 (q := q) (hi := 0) he.2 ht (Or.inl rfl) (n := 4) (by omega) b1 b3
  have p5 : (2 : Int) ^ 5 = 32 := by decide
  have p4 : (2 : Int) ^ 4 = 16 := by decide
  rw [p5] at aR bR
  rw [p4] at cR
  obtain ⟨a, ea⟩ : ∃ a : Nat, z1 + 257 = a := ⟨(z1 + 257).toNat, by omega⟩
  obtain ⟨n, en'⟩ : ∃ n : Nat, z2 + 1 = n := ⟨(z2 + 1).toNat, by omega⟩
  obtain ⟨c, ec⟩ : ∃ c : Nat, z3 + 4 = c := ⟨(z3 + 4).toNat, by omega⟩
  have wa : Unit → w32 ((a : Nat) : Int) = a := fun _ => w32_of (by omega)
  have wn : Unit → w32 ((n : Nat) : Int) = n := fun _ => w32_of (by omega)
  have hc19 : c ≤ 19 := by omega
  -- the class as far as 48 or 43
  have hcl : ∀ (S A : ms) (o : Nat), S.1 9 7 = 0 → RdC S o en t → CB S A o en t st h → ∃ A3, CB S A3 o en t st3 h3 ∧ ∀ T : ms, ((a ≤ 286 ∧ n ≤ 30) → EV q 136 48 [some (.ref 30), some (.ref 9), some (vI a), some (vI n), some (vI c), none] [] A3 none T) → (¬ (a ≤ 286 ∧ n ≤ 30) → EV q 136 43 [some (.ref 30), some (.ref 9), some (vI a), some (vI n), some (vI c), none] [] A3 none T) → EV q 136 0 [some (.ref 30), some (.ref 9), none, none, none, none] [] A none T := by
    intro S A o hS hC hA
    obtain ⟨A1, k1, k2⟩ := a6 S A o hS hC hA
    obtain ⟨A2, k3, k4⟩ := b6 S A1 o hS hC k2
    obtain ⟨A3, k5, k6⟩ := c6 S A2 o hS hC k4
    refine ⟨A3, k6, fun T y z => vc_Blocks_openCodes ⟨z1, A1, k1, z2, A2, k3, z3, A3, k5, ?_⟩⟩
    rw [ea, en', ec, wa (), wn ()]
    by_cases d1 : a ≤ 286
    · by_cases d2 : n ≤ 30
      · exact cNo (by omega) (cY (by omega) (y ⟨d1, d2⟩))
      · exact cNo (by omega) (cNo (by omega) (z (fun w => d2 w.2)))
    · exact cY (by omega) (z (fun w => d1 w.1))
  by_cases d3 : st3.1 = 0
  case neg =>
    obtain ⟨a', ea'⟩ : ∃ a : Nat, y1 + 257 = a := ⟨(y1 + 257).toNat, by omega⟩
    obtain ⟨n', en''⟩ : ∃ n : Nat, y2 + 1 = n := ⟨(y2 + 1).toNat, by omega⟩
    obtain ⟨c', ec'⟩ : ∃ c : Nat, y3 + 4 = c := ⟨(y3 + 4).toNat, by omega⟩
    refine ⟨st3, h3, 0, 0, fun _ => 0, ⟨c1, Fw_t a2 (Fw_t b2 c2), c3⟩, fun y => absurd y d3, fun S A o hS hC hA => ?_, fun S B hS hC hB => ?_⟩
    · obtain ⟨A3, k1, k2⟩ := hcl S A o hS hC hA
      by_cases d4 : a ≤ 286 ∧ n ≤ 30
      · obtain ⟨S1, A4, m1, m2, m3⟩ := tc_tail (q := q) (x2 := a) (x3 := n) he ht hc19 d3 c1 c3 hS hC k1
        exact ⟨S1, A4, EX.mono m1 (fun a k y => by unfold X75 at y; unfold XCc; omega), k2 A4 (fun _ => m3) (fun y => absurd d4 y), m2, fun y => absurd y d3⟩
      · obtain ⟨A5, k3, k4⟩ := sb_tell (q := q) (k := 4) c1 hC.2.2.1 k1
        rw [rdTell_r d3] at k4
        obtain ⟨S1, A4, m1, m2, m3⟩ := tc_tail (q := q) (x2 := a) (x3 := n) he ht hc19 d3 c1 c3 hS hC k4
        exact ⟨S1, A4, EX.mono m1 (fun a k y => by unfold X75 at y; unfold XCc; omega), k2 A4 (fun y => absurd y d4) (fun _ => vc_Blocks_openCodes_43 _ _ _ ⟨A5, k3, m3⟩), m2, fun y => absurd y d3⟩
    · obtain ⟨B1, k1, k2⟩ := a7 S B hS hC hB
      obtain ⟨B2, k3, k4⟩ := b7 S B1 hS hC k2
      obtain ⟨B3, k5, k6⟩ := c7 S B2 hS hC k4
      have kf := md_fine (q := q) c1 k6
      rw [if_neg d3] at kf
      obtain ⟨S1, B4, m1, m2, m3⟩ := tm_tail (q := q) (x1 := a') (x2 := n') (c := c') he ht (by omega) d3 c1 c3 hS hC k6
      refine ⟨S1, B4, EX.mono m1 (fun a k y => by unfold XCm; omega), vc_MD_readOwn ⟨y1, B1, k1, y2, B2, k3, y3, B3, k5, 0, B3, kf, ?_⟩, m2, fun y => absurd y d3⟩
      rw [ea', en'', ec']
      exact cY (by decide) m3
  have d2 := Fw_z c2 d3
  have d1 := Fw_z b2 d2
  obtain ⟨u1, _, v1⟩ := a5 d1
  obtain ⟨u2, _, v2⟩ := b5 d2
  obtain ⟨u3, _, v3⟩ := c5 d3
  subst u1 u2 u3
  -- the reference as far as 54 or 49
  have hml : ∀ (S B : ms), S.1 367 18 = 0 → RdM S en t → MB S B en st h → ∃ B3, MB S B3 en st3 h3 ∧ ∀ T : ms, ((a ≤ 286 ∧ n ≤ 30) → EV q 346 54 [some (.ref 367), some (vI a), some (vI n), some (vI c), none, none, none, none, none] [] B3 none T) → (¬ (a ≤ 286 ∧ n ≤ 30) → EV q 346 49 [some (.ref 367), some (vI a), some (vI n), some (vI c), none, none, none, none, none] [] B3 none T) → EV q 346 0 [some (.ref 367), none, none, none, none, none, none, none, none] [] B none T := by
    intro S B hS hC hB
    obtain ⟨B1, k1, k2⟩ := a7 S B hS hC hB
    obtain ⟨B2, k3, k4⟩ := b7 S B1 hS hC k2
    obtain ⟨B3, k5, k6⟩ := c7 S B2 hS hC k4
    have kf := md_fine (q := q) c1 k6
    rw [if_pos d3] at kf
    refine ⟨B3, k6, fun T y z => vc_MD_readOwn ⟨z1, B1, k1, z2, B2, k3, z3, B3, k5, 1, B3, kf, cNo (by decide) ?_⟩⟩
    rw [ea, en', ec, wa (), wn ()]
    by_cases e1 : a ≤ 286
    · by_cases e2 : n ≤ 30
      · exact cNo (by omega) (cY (by omega) (y ⟨e1, e2⟩))
      · exact cNo (by omega) (cNo (by omega) (z (fun w => e2 w.2)))
    · exact cY (by omega) (z (fun w => e1 w.1))
  by_cases d4 : a ≤ 286 ∧ n ≤ 30
  case neg =>
    have ct : (rdTell 4 st3).1 ≠ 0 := rdTell_1 (by decide)
    have hrt : rdR en (rdTell 4 st3) := rdR_tell c1 (by decide)
    have hht : hR (rdTell 4 st3) h3 := hR_n c3 Fw_tellAt
    refine ⟨rdTell 4 st3, h3, 0, 0, fun _ => 0, ⟨hrt, Fw_t a2 (Fw_t b2 (Fw_t c2 Fw_tellAt)), hht⟩, fun y => absurd y ct, fun S A o hS hC hA => ?_, fun S B hS hC hB => ?_⟩
    · obtain ⟨A3, k1, k2⟩ := hcl S A o hS hC hA
      obtain ⟨A5, k3, k4⟩ := sb_tell (q := q) (k := 4) c1 hC.2.2.1 k1
      obtain ⟨S1, A4, m1, m2, m3⟩ := tc_tail (q := q) (x2 := a) (x3 := n) he ht hc19 ct hrt hht hS hC k4
      exact ⟨S1, A4, EX.mono m1 (fun a k y => by unfold X75 at y; unfold XCc; omega), k2 A4 (fun y => absurd y d4) (fun _ => vc_Blocks_openCodes_43 _ _ _ ⟨A5, k3, m3⟩), m2, fun y => absurd y ct⟩
    · obtain ⟨B3, k1, k2⟩ := hml S B hS hC hB
      obtain ⟨B5, k3, k4⟩ := mb_tell (q := q) (k := 4) c1 he.2 c3 k1
      obtain ⟨S1, B4, m1, m2, m3⟩ := tm_tail (q := q) (x1 := a) (x2 := n) he ht hc19 ct hrt hht hS hC k4
      exact ⟨S1, B4, EX.mono m1 (fun a k y => by unfold XCm; omega), k2 B4 (fun y => absurd y d4) (fun _ => vc_MD_readOwn_49 _ _ _ ⟨B5, k3, m3⟩), m2, fun y => absurd y ct⟩
  obtain ⟨st5, h5, W, ⟨f1, f2, f3⟩, f4, f5, f6, f7⟩ := jthr (q := q) (c := c) he ht hc19 c 0 (fun _ => 0) st3 h3 (by omega) c1 c3 d3 (fun _ => by decide) (fun _ _ => rfl)
  -- the reference's lengths are cleared first
  have hm0 : ∀ (S B : ms), S.1 367 18 = 0 → RdM S en t → MB S B en st3 h3 → ∃ S1 B1, EX (fun a _ => a = 389) S S1 ∧ MB S1 B1 en st5 h5 ∧ (st5.1 = 0 → ∀ j : Nat, j < 19 → S1.1 389 (od j) = W j) ∧ ∀ T : ms, EV q 346 81 [some (.ref 367), some (vI a), some (vI n), some (vI c), some (vI c), none, none, none, none] [] B1 none T → EV q 346 54 [some (.ref 367), some (vI a), some (vI n), some (vI c), none, none, none, none, none] [] B none T := by
    intro S B hS hC hB
    obtain ⟨B1, g1, g2, g3⟩ := tm_clear (q := q) (x1 := a) (x2 := n) (x3 := c) 20 0 B (by decide) (fun k hk => absurd hk (by omega))
    obtain ⟨S1, s1, s2, s3⟩ := MB_X (X := fun a _ => a = 389) (fun a k z => by omega) hB g1
    obtain ⟨S2, B2, m1, m2, m3, m4⟩ := f7 S1 B1 a n (by rw [s1.2 367 18 (show ¬ (367 : Nat) = 389 by decide)]; exact hS) (RdM_ey hC s1.ey (fun k => show ¬ (368 : Nat) = 389 by decide)) (fun j hj => by
      obtain ⟨k, ek⟩ : ∃ k : Nat, od j = k := ⟨(od j).toNat, by have := (od_rg hj).1; omega⟩
      rw [s2 389 _ rfl, ek]
      exact g2 k (by have := (od_rg hj).1; omega)) s3
    exact ⟨S2, B2, EX.trans s1 m1, m2, m3, fun T y => vc_MD_readOwn_54 _ _ _ (g3 none T (m4 none T y))⟩
  by_cases d5 : st5.1 = 0
  case neg =>
    refine ⟨st5, h5, 0, 0, fun _ => 0, ⟨f1, Fw_t a2 (Fw_t b2 (Fw_t c2 f2)), f3⟩, fun y => absurd y d5, fun S A o hS hC hA => ?_, fun S B hS hC hB => ?_⟩
    · obtain ⟨A3, k1, k2⟩ := hcl S A o hS hC hA
      obtain ⟨S1, A4, m1, m2, m3, m4, m5⟩ := f6 S A3 o a n hS hC (fun j hj => absurd hj (by omega)) k1
      obtain ⟨S2, A5, n1, n2, n3⟩ := tc_end (q := q) (x2 := a) (x3 := n) (x4 := c) d5 f1 hC.2.2.1 m2 m3
      exact ⟨S2, A5, EX.trans (EX.mono m1 (fun a k y => by unfold XCc; omega)) (EX.mono n1 (fun a k y => by unfold X75 at y; unfold XCc; omega)), k2 A5 (fun _ => vc_Blocks_openCodes_48 _ _ _ (m5 none A5 n3)) (fun y => absurd d4 y), n2, fun y => absurd y d5⟩
    · obtain ⟨B3, k1, k2⟩ := hml S B hS hC hB
      obtain ⟨S1, B4, m1, m2, m3, m4⟩ := hm0 S B3 hS hC k1
      exact ⟨S1, B4, EX.mono m1 (fun a k y => by unfold XCm; omega), k2 B4 (fun _ => m4 B4 (tm_end d5 f1 m2)) (fun y => absurd d4 y), m2, fun y => absurd y d5⟩
  obtain ⟨stf, hf, L, ⟨g1, g2, g3⟩, g4, g5, g6⟩ := jown (q := q) (c := c) (W := W) he ht (a := a) (n := n) (by omega) (by omega) f5 f1 f3 d5
  refine ⟨stf, hf, a, n, L, ⟨g1, Fw_t a2 (Fw_t b2 (Fw_t c2 (Fw_t f2 g2))), g3⟩, fun y => ⟨by have := (g4 y).1; have := f4 d5; omega, by omega, by omega, (g4 y).2⟩, fun S A o hS hC hA => ?_, fun S B hS hC hB => ?_⟩
  · obtain ⟨A3, k1, k2⟩ := hcl S A o hS hC hA
    obtain ⟨S1, A4, m1, m2, m3, m4, m5⟩ := f6 S A3 o a n hS hC (fun j hj => absurd hj (by omega)) k1
    obtain ⟨S2, A5, n1, n2, n3, n4⟩ := g5 S1 A4 o (by rw [m1.2 9 7 (show ¬ (9 : Nat) = 76 by decide)]; exact hS) (RdC_ey hC m1.ey (fun k => show ¬ (2 : Nat) = 76 by decide)) (m4 d5) m2
    exact ⟨S2, A5, EX.trans (EX.mono m1 (fun a k y => by unfold XCc; omega)) n1, k2 A5 (fun _ => vc_Blocks_openCodes_48 _ _ _ (m5 none A5 n2)) (fun y => absurd d4 y), n3, n4⟩
  · obtain ⟨B3, k1, k2⟩ := hml S B hS hC hB
    obtain ⟨S1, B4, m1, m2, m3, m4⟩ := hm0 S B3 hS hC k1
    obtain ⟨S2, B5, n1, n2, n3, n4⟩ := g6 S1 B4 (by rw [m1.2 367 18 (show ¬ (367 : Nat) = 389 by decide)]; exact hS) (RdM_ey hC m1.ey (fun k => show ¬ (368 : Nat) = 389 by decide)) (m3 d5) m2
    exact ⟨S2, B5, EX.trans (EX.mono m1 (fun a k y => by unfold XCm; omega)) n1, k2 B5 (fun _ => m4 B5 n2) (fun y => absurd d4 y), n3, n4⟩
end Own2
