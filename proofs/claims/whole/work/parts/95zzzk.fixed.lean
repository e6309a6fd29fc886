/-! BLOCKS: a bit, and the fixed codes -/
section Fix
variable {q : Nat × (Nat → Int32)} {en : Int}
theorem jbit1 {t : Int → Int} (he : 0 ≤ en ∧ en ≤ 6000) (ht : ∀ k : Int, 0 ≤ k → k < en → 0 ≤ t k ∧ t k < 256) {st : Rd} {h : Int} (hr : rdR en st) (hh : hR st h) : ∃ (z z' : Int) (st' : Rd) (h' : Int), (rdR en st' ∧ Fw st st' ∧ hR st' h') ∧ ((0 ≤ z ∧ z < 2) ∧ (0 ≤ z' ∧ z' < 2)) ∧ (st'.1 = 0 → z = z' ∧ rdP st' h' = rdP st h + 1) ∧ (∀ (S A : ms) (o : Nat), S.1 9 7 = 0 → RdC S o en t → CB S A o en t st h → ∃ A', EV q 123 0 [some (.ref 9), some (vI 1), none, none, none] [] A (some (vL z)) A' ∧ CB S A' o en t st' h') ∧ ∀ S B : ms, S.1 367 18 = 0 → RdM S en t → MB S B en st h → ∃ B', EV q 340 0 [some (.ref 367), none] [] B (some (vI z')) B' ∧ MB S B' en st' h' := by
  obtain ⟨g1, g2, g3, g4, g5, g6⟩ := rdBit_s (t := t) (hi := 0) hr hh
  have ref : ∀ S B : ms, S.1 367 18 = 0 → RdM S en t → MB S B en st h → ∃ B', EV q 340 0 [some (.ref 367), none] [] B (some (vI (rdBit t en 0 st h).1)) B' ∧ MB S B' en (rdBit t en 0 st h).2.1 (rdBit t en 0 st h).2.2 := fun S B hS hC hB => mb_bit (q := q) ⟨hS, Or.inl rfl⟩ he.2 hC hr hh hB
  by_cases c : (rdBit t en 0 st h).2.1.1 = 0
  · have e : nvV 0 0 (rdBit t en 0 st h).1 0 = (rdBit t en 0 st h).1 := by
      have g : (rdBit t en 0 st h).1 = 0 ∨ (rdBit t en 0 st h).1 = 1 := by omega
      rcases g with y | y
      · rw [y]; decide
      · rw [y]; decide
    refine ⟨(rdBit t en 0 st h).1, (rdBit t en 0 st h).1, (rdBit t en 0 st h).2.1, (rdBit t en 0 st h).2.2, ⟨g1, g2, g3⟩, ⟨by omega, by omega⟩, fun _ => ⟨rfl, g6 c⟩, fun S A o hS hC hA => ?_, ref⟩
    obtain ⟨A1, k1, k2⟩ := (sb_bit (q := q) (v := 0) (n := 1) (i := 0) ⟨hS, Or.inl rfl⟩ hC ht hr hh (by decide) hA).2 c
    rw [e] at k2
    exact ⟨A1, vc_Source_takeBits _ (k2 _ _ (vc_Source_takeBits_5 _ _ _ (cY (by decide) ⟨rfl, rfl⟩))), k1⟩
  · refine ⟨0, (rdBit t en 0 st h).1, (rdBit t en 0 st h).2.1, (rdBit t en 0 st h).2.2, ⟨g1, g2, g3⟩, ⟨by omega, by omega⟩, fun y => absurd y c, fun S A o hS hC hA => ?_, ref⟩
    obtain ⟨A1, k1, k2⟩ := (sb_bit (q := q) (v := 0) (n := 1) (i := 0) ⟨hS, Or.inl rfl⟩ hC ht hr hh (by decide) hA).1 c
    exact ⟨A1, vc_Source_takeBits _ k1, k2⟩
theorem fx1 : ∀ (m i : Nat) (B : ms), i + m = 288 → (∀ k : Nat, k < i → B.1 385 k = flF k) → ∃ B1, EX (fun a _ => a = 385) B B1 ∧ (∀ k : Nat, k < 288 → B1.1 385 k = flF k) ∧ ∀ (r : Option Value) (T : ms), EV q 306 61 [some (.ref 367), some (vI 0), none] [] B1 r T → EV q 306 2 [some (.ref 367), some (vI i), none] [] B r T := by
  intro m
  induction m with
  | zero =>
    intro i B hi h
    have e : i = 288 := by omega
    subst e
    exact ⟨B, EX.refl _ B, h, fun r T y => vc_MD_fixed_2 _ (cY (by decide) y)⟩
  | succ m ih =>
    intro i B hi h
    have wi : Unit → w32 ((i : Nat) : Int) = i := fun _ => w32_of (by omega)
    obtain ⟨B1, g1, g2, g3⟩ := ih (i + 1) (wI B 385 i (flF i)) (by omega) (fun k hk => by
      by_cases d : k = i
      · subst d
        exact wI_at _ _ _ _
      · rw [wI_no _ (by omega)]
        exact h k (by omega))
    refine ⟨B1, EX.trans (EX.wr (EX.refl _ B) rfl) g1, g2, fun r T y => ?_⟩
    have zz := g3 r T y
    rw [show ((i + 1 : Nat) : Int) = (i : Int) + 1 by omega] at zz
    have k52 : EV q 306 52 [some (.ref 367), some (vI i), none] [vI (flF i), vI i, .ref 385] B r T := by
      refine vc_MD_fixed_52 _ _ _ ?_
      rw [wi ()]
      exact ⟨by omega, fun S2 e => by rw [e]; exact zz⟩
    refine vc_MD_fixed_2 _ ?_
    rw [wi ()]
    unfold flF at k52
    by_cases d1 : (144 : Int) ≤ i
    · rw [if_pos d1] at k52
      by_cases d2 : (256 : Int) ≤ i
      · rw [if_pos d2] at k52
        by_cases d3 : (280 : Int) ≤ i
        · rw [if_pos d3] at k52
          exact cNo (by omega) (cY d1 (cY d2 (cY d3 k52)))
        · rw [if_neg d3] at k52
          exact cNo (by omega) (cY d1 (cY d2 (cNo d3 k52)))
      · rw [if_neg d2] at k52
        exact cNo (by omega) (cY d1 (cNo d2 k52))
    · rw [if_neg d1] at k52
      exact cNo (by omega) (cNo d1 k52)
theorem fx2 : ∀ (m i : Nat) (B : ms), i + m = 32 → (∀ k : Nat, k < i → B.1 387 k = 5) → ∃ B1, EX (fun a _ => a = 387) B B1 ∧ (∀ k : Nat, k < 32 → B1.1 387 k = 5) ∧ ∀ (r : Option Value) (T : ms), EV q 306 61 [some (.ref 367), some (vI 32), none] [] B1 r T → EV q 306 61 [some (.ref 367), some (vI i), none] [] B r T := by
  intro m
  induction m with
  | zero =>
    intro i B hi h
    have e : i = 32 := by omega
    subst e
    exact ⟨B, EX.refl _ B, h, fun r T y => y⟩
  | succ m ih =>
    intro i B hi h
    have wi : Unit → w32 ((i : Nat) : Int) = i := fun _ => w32_of (by omega)
    obtain ⟨B1, g1, g2, g3⟩ := ih (i + 1) (wI B 387 i 5) (by omega) (fun k hk => by
      by_cases d : k = i
      · subst d
        exact wI_at _ _ _ _
      · rw [wI_no _ (by omega)]
        exact h k (by omega))
    refine ⟨B1, EX.trans (EX.wr (EX.refl _ B) rfl) g1, g2, fun r T y => ?_⟩
    have zz := g3 r T y
    rw [show ((i + 1 : Nat) : Int) = (i : Int) + 1 by omega] at zz
    refine vc_MD_fixed_61 _ ?_
    rw [wi ()]
    exact cNo (by omega) ⟨by omega, fun S2 e => by rw [e]; exact zz⟩
theorem mb_fixed {S B : ms} {st : Rd} {u : Int} (h : MB S B en st u) : ∃ S1 B1, EX XSm S S1 ∧ MB S1 B1 en st u ∧ EV q 306 0 [some (.ref 367), none, none] [] B none B1 ∧ CodM S1 385 330 386 330 288 flF ∧ CodM S1 387 40 388 40 32 (fun _ => 5) := by
  obtain ⟨B1, a1, a2, a3⟩ := fx1 (q := q) 288 0 B (by omega) (fun k hk => absurd hk (by omega))
  obtain ⟨B2, b1, b2, b3⟩ := fx2 (q := q) 32 0 B1 (by omega) (fun k hk => absurd hk (by omega))
  have u5 : ∀ k : Nat, k < 288 → B2.1 385 k = flF k := fun k hk => by
    rw [b1.2 385 k (show ¬ (385 : Nat) = 387 by decide)]
    exact a2 k hk
  obtain ⟨B3, c1, c2, c3, c4, c5⟩ := md_codes (q := q) (B := B2) (l := flF) (n := 288) (fr := 0) sh_385 sh_386 (by decide) (by omega) (by decide) (by decide) (by decide) (fun s hs => ⟨by have := flF_rg s; omega, by
    rw [Int.zero_add]
    exact u5 s hs⟩)
  obtain ⟨B4, d1, d2, d3, d4, d5⟩ := md_codes (q := q) (B := B3) (l := fun _ => 5) (n := 32) (fr := 0) sh_387 sh_388 (by decide) (by omega) (by decide) (by decide) (by decide) (fun s hs => ⟨by decide, by
    rw [Int.zero_add, c3 387 s (by decide)]
    exact b2 s hs⟩)
  have ex : EX XSm B B4 := EX.trans (EX.mono a1 (fun a k y => by unfold XSm; omega)) (EX.trans (EX.mono b1 (fun a k y => by unfold XSm; omega)) (EX.trans ⟨c2, fun a k y => c3 a k (fun z => y (by unfold XSm; omega))⟩ ⟨d2, fun a k y => d3 a k (fun z => y (by unfold XSm; omega))⟩))
  obtain ⟨S1, s1, s2, s3⟩ := MB_X (X := XSm) (fun a k y => by unfold XSm at y; omega) h ex
  have k61 : EV q 306 61 [some (.ref 367), some (vI 32), none] [] B2 none B4 := vc_MD_fixed_61 _ (cY (by decide) ⟨_, B3, c1, _, B4, d1, rfl, rfl⟩)
  refine ⟨S1, B4, s1, s3, vc_MD_fixed (a3 none B4 (b3 none B4 k61)), ⟨sh_385, sh_386, by omega, by omega, fun s hs => ?_, fun s hs hl => ?_⟩, ⟨sh_387, sh_388, by omega, by omega, fun s hs => ?_, fun s hs hl => ?_⟩⟩
  · rw [s2 385 s (by unfold XSm; omega), d3 385 s (by decide), c3 385 s (by decide)]
    exact u5 s hs
  · rw [s2 386 s (by unfold XSm; omega), d3 386 s (by decide)]
    have := c5 s hs (by omega)
    rw [Int.zero_add] at this
    exact this
  · rw [s2 387 s (by unfold XSm; omega), d3 387 s (by decide), c3 387 s (by decide)]
    exact b2 s hs
  · rw [s2 388 s (by unfold XSm; omega)]
    have := d5 s hs (by omega)
    rw [Int.zero_add] at this
    exact this
end Fix
