/-! SORTED: a bit, and the steps of a length, both sides at once -/
section Srt
variable {q : Nat × (Nat → Int32)} {en : Int}
theorem jbit1h {t : Int → Int} {hi : Int} (hhi : hi = 0 ∨ hi = 1) (he : 0 ≤ en ∧ en ≤ 6000) (ht : ∀ k : Int, 0 ≤ k → k < en → 0 ≤ t k ∧ t k < 256) {st : Rd} {h : Int} (hr : rdR en st) (hh : hR st h) : ∃ (z z' : Int) (st' : Rd) (h' : Int), (rdR en st' ∧ Fw st st' ∧ hR st' h' ∧ st'.2.2.2 = st.2.2.2) ∧ ((0 ≤ z ∧ z < 2) ∧ (0 ≤ z' ∧ z' < 2)) ∧ (st'.1 = 0 → z = z' ∧ rdP st' h' = rdP st h + 1) ∧ (st'.1 ≠ 0 → z = 0) ∧ (∀ (S A : ms) (o : Nat), S.1 9 7 = hi → RdC S o en t → CB S A o en t st h → ∃ A', EV q 123 0 [some (.ref 9), some (vI 1), none, none, none] [] A (some (vL z)) A' ∧ CB S A' o en t st' h') ∧ ∀ S B : ms, S.1 367 18 = hi → RdM S en t → MB S B en st h → ∃ B', EV q 340 0 [some (.ref 367), none] [] B (some (vI z')) B' ∧ MB S B' en st' h' := by
  obtain ⟨g1, g2, g3, g4, g5, g6⟩ := rdBit_s (t := t) (hi := hi) hr hh
  have ref : ∀ S B : ms, S.1 367 18 = hi → RdM S en t → MB S B en st h → ∃ B', EV q 340 0 [some (.ref 367), none] [] B (some (vI (rdBit t en hi st h).1)) B' ∧ MB S B' en (rdBit t en hi st h).2.1 (rdBit t en hi st h).2.2 := fun S B hS hC hB => mb_bit (q := q) ⟨hS, hhi⟩ he.2 hC hr hh hB
  by_cases c : (rdBit t en hi st h).2.1.1 = 0
  · have e : nvV hi 0 (rdBit t en hi st h).1 0 = (rdBit t en hi st h).1 := by
      have g : (rdBit t en hi st h).1 = 0 ∨ (rdBit t en hi st h).1 = 1 := by omega
      rcases g with y | y
      · rw [y]
        rcases hhi with w | w
        · rw [w]; decide
        · rw [w]; decide
      · rw [y]
        rcases hhi with w | w
        · rw [w]; decide
        · rw [w]; decide
    refine ⟨(rdBit t en hi st h).1, (rdBit t en hi st h).1, (rdBit t en hi st h).2.1, (rdBit t en hi st h).2.2, ⟨g1, g2, g3, g4⟩, ⟨by omega, by omega⟩, fun _ => ⟨rfl, g6 c⟩, fun y => absurd c y, fun S A o hS hC hA => ?_, ref⟩
    obtain ⟨A1, k1, k2⟩ := (sb_bit (q := q) (v := 0) (n := 1) (i := 0) ⟨hS, hhi⟩ hC ht hr hh (by decide) hA).2 c
    rw [e] at k2
    exact ⟨A1, vc_Source_takeBits _ (k2 _ _ (vc_Source_takeBits_5 _ _ _ (cY (by decide) ⟨rfl, rfl⟩))), k1⟩
  · refine ⟨0, (rdBit t en hi st h).1, (rdBit t en hi st h).2.1, (rdBit t en hi st h).2.2, ⟨g1, g2, g3, g4⟩, ⟨by omega, by omega⟩, fun y => absurd y c, fun _ => rfl, fun S A o hS hC hA => ?_, ref⟩
    obtain ⟨A1, k1, k2⟩ := (sb_bit (q := q) (v := 0) (n := 1) (i := 0) ⟨hS, hhi⟩ hC ht hr hh (by decide) hA).1 c
    exact ⟨A1, vc_Source_takeBits _ k1, k2⟩
end Srt
