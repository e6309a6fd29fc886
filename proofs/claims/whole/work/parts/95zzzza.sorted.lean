/-! SORTED: to the front; a bit -/
section Srt7
variable {q : Nat × (Nat → Int32)} {en : Int}
def tF (p : Nat) (g : Int → Int) : Int → Int := fun k => if k = 0 then g p else if k ≤ p then g (k - 1) else g k
theorem tF_0 (p : Nat) (g : Int → Int) : tF p g 0 = g p := if_pos rfl
theorem tF_in {p : Nat} {g : Int → Int} {k : Int} (h0 : k ≠ 0) (h : k ≤ p) : tF p g k = g (k - 1) := by
  unfold tF; rw [if_neg h0, if_pos h]
theorem tF_up {p : Nat} {g : Int → Int} {k : Int} (h0 : k ≠ 0) (h : ¬ k ≤ p) : tF p g k = g k := by
  unfold tF; rw [if_neg h0, if_neg h]
theorem tF_all {p n : Nat} {g : Int → Int} {P : Int → Prop} (hp : p < n) (h : ∀ k : Nat, k < n → P (g k)) : ∀ k : Nat, k < n → P (tF p g k) := by
  intro k hk
  by_cases c : (k : Int) = 0
  · rw [c, tF_0]; exact h p hp
  · by_cases d : (k : Int) ≤ p
    · rw [tF_in c d]
      have := h (k - 1) (by omega)
      rw [show ((k - 1 : Nat) : Int) = (k : Int) - 1 by omega] at this
      exact this
    · rw [tF_up c d]; exact h k hk
theorem md_front {S : ms} {g : Int → Int} {N p : Nat} (hp : p < N) (hN : N ≤ 256) (hg : ∀ k : Nat, k < N → S.1 410 k = b8 (g k)) : ∃ T, EV q 324 0 [some (.ref 367), some (vI p), none, none] [] S none T ∧ EX (fun a _ => a = 410) S T ∧ ∀ k : Nat, k < N → T.1 410 k = b8 (tF p g k) := by
  have wp : Unit → w32 ((p : Nat) : Int) = p := fun _ => w32_of (by omega)
  have lp : ∀ (j : Nat) (S1 : ms), j ≤ p → EX (fun a _ => a = 410) S S1 → (∀ k : Nat, k < N → (j < k ∧ k ≤ p → S1.1 410 k = b8 (g ((k : Int) - 1))) ∧ (¬ (j < k ∧ k ≤ p) → S1.1 410 k = b8 (g k))) → ∃ T, EV q 324 9 [some (.ref 367), some (vI p), some (vI (b8 (g p))), some (vI j)] [] S1 none T ∧ EX (fun a _ => a = 410) S T ∧ ∀ k : Nat, k < N → T.1 410 k = b8 (tF p g k) := by
    intro j
    induction j with
    | zero =>
      intro S1 hj ex h1
      have w0 : w32 0 = 0 := by decide
      refine ⟨wI S1 410 0 (b8 (g p)), vc_MD_toFront_9 _ _ _ (cY (by decide) ?_), EX.wr ex rfl, fun k hk => ?_⟩
      · rw [w0, b8_of (b8_rg _)]
        exact ⟨by decide, fun S2 e => ⟨rfl, e.symm⟩⟩
      · by_cases c : (k : Int) = 0
        · rw [c, wI_at, tF_0]
        · rw [wI_no _ (by omega)]
          by_cases d : (k : Int) ≤ p
          · rw [tF_in c d]; exact (h1 k hk).1 (by omega)
          · rw [tF_up c d]; exact (h1 k hk).2 (by omega)
    | succ j ih =>
      intro S1 hj ex h1
      have wj : Unit → w32 ((j : Nat) : Int) = j := fun _ => w32_of (by omega)
      have wj1 : Unit → w32 ((j + 1 : Nat) : Int) = (j + 1 : Nat) := fun _ => w32_of (by omega)
      have ej : ((j + 1 : Nat) : Int) - 1 = j := by omega
      have ej1 : ((j + 1 : Nat) : Int) = (j : Int) + 1 := by omega
      obtain ⟨T, k1, k2, k3⟩ := ih (wI S1 410 (j + 1 : Nat) (b8 (g j))) (by omega) (EX.wr ex rfl) (fun k hk => by
        by_cases c : k = j + 1
        · subst c
          rw [wI_at, ej]
          exact ⟨fun _ => rfl, fun n => absurd (by omega) n⟩
        · rw [wI_no _ (by omega)]
          exact ⟨fun y => (h1 k hk).1 (by omega), fun y => (h1 k hk).2 (by omega)⟩)
      refine ⟨T, vc_MD_toFront_9 _ _ _ ?_, k2, k3⟩
      have hv : S1.1 410 j = b8 (g j) := (h1 j (by omega)).2 (by omega)
      have e8 : b8 (b8 (g j)) = b8 (g j) := b8_of (b8_rg _)
      rw [wj1 (), ej, wj (), hv, e8]
      exact cNo (by omega) ⟨by omega, by omega, fun S2 e => by rw [e]; exact k1⟩
  obtain ⟨T, k1, k2, k3⟩ := lp p S (Nat.le_refl _) (EX.refl _ S) (fun k hk => ⟨fun y => absurd y (by omega), fun _ => hg k hk⟩)
  refine ⟨T, vc_MD_toFront _ ?_, k2, k3⟩
  rw [wp (), hg p hp]
  exact ⟨by omega, k1⟩
theorem sp_front {S : ms} {g : Int → Int} {N p : Nat} (hp : p < N) (hN : N ≤ 256) (hg : ∀ k : Nat, k < N → S.1 102 k = g k) : ∃ T, EV q 103 0 [some (.ref 94), some (vI p), none, none] [] S (some (vI p)) T ∧ EX (fun a _ => a = 102) S T ∧ ∀ k : Nat, k < N → T.1 102 k = tF p g k := by
  have wp : Unit → w32 ((p : Nat) : Int) = p := fun _ => w32_of (by omega)
  have lp : ∀ (j : Nat) (S1 : ms), j ≤ p → EX (fun a _ => a = 102) S S1 → (∀ k : Nat, k < N → (j < k ∧ k ≤ p → S1.1 102 k = g ((k : Int) - 1)) ∧ (¬ (j < k ∧ k ≤ p) → S1.1 102 k = g k)) → ∃ T, EV q 103 9 [some (.ref 94), some (vI p), some (vI (g p)), some (vI j)] [] S1 (some (vI p)) T ∧ EX (fun a _ => a = 102) S T ∧ ∀ k : Nat, k < N → T.1 102 k = tF p g k := by
    intro j
    induction j with
    | zero =>
      intro S1 hj ex h1
      have w0 : w32 0 = 0 := by decide
      refine ⟨wI S1 102 0 (g p), vc_Sorted_toFront_9 _ _ _ (cY (by decide) ?_), EX.wr ex rfl, fun k hk => ?_⟩
      · rw [w0]
        exact ⟨by decide, fun S2 e => ⟨rfl, e.symm⟩⟩
      · by_cases c : (k : Int) = 0
        · rw [c, wI_at, tF_0]
        · rw [wI_no _ (by omega)]
          by_cases d : (k : Int) ≤ p
          · rw [tF_in c d]; exact (h1 k hk).1 (by omega)
          · rw [tF_up c d]; exact (h1 k hk).2 (by omega)
    | succ j ih =>
      intro S1 hj ex h1
      have wj : Unit → w32 ((j : Nat) : Int) = j := fun _ => w32_of (by omega)
      have wj1 : Unit → w32 ((j + 1 : Nat) : Int) = (j + 1 : Nat) := fun _ => w32_of (by omega)
      have ej : ((j + 1 : Nat) : Int) - 1 = j := by omega
      have ej1 : ((j + 1 : Nat) : Int) = (j : Int) + 1 := by omega
      obtain ⟨T, k1, k2, k3⟩ := ih (wI S1 102 (j + 1 : Nat) (g j)) (by omega) (EX.wr ex rfl) (fun k hk => by
        by_cases c : k = j + 1
        · subst c
          rw [wI_at, ej]
          exact ⟨fun _ => rfl, fun n => absurd (by omega) n⟩
        · rw [wI_no _ (by omega)]
          exact ⟨fun y => (h1 k hk).1 (by omega), fun y => (h1 k hk).2 (by omega)⟩)
      refine ⟨T, vc_Sorted_toFront_9 _ _ _ ?_, k2, k3⟩
      have hv : S1.1 102 j = g j := (h1 j (by omega)).2 (by omega)
      rw [wj1 (), ej, wj (), hv]
      exact cNo (by omega) ⟨by omega, by omega, fun S2 e => by rw [e]; exact k1⟩
  obtain ⟨T, k1, k2, k3⟩ := lp p S (Nat.le_refl _) (EX.refl _ S) (fun k hk => ⟨fun y => absurd y (by omega), fun _ => hg k hk⟩)
  refine ⟨T, vc_Sorted_toFront _ ?_, k2, k3⟩
  rw [wp (), hg p hp]
  exact ⟨by omega, k1⟩
theorem jbZ {t : Int → Int} (he : 0 ≤ en ∧ en ≤ 6000) (ht : ∀ k : Int, 0 ≤ k → k < en → 0 ≤ t k ∧ t k < 256) {st : Rd} {h : Int} (hr : rdR en st) (hh : hR st h) : ∃ (z : Int) (st' : Rd) (h' : Int), (rdR en st' ∧ Fw st st' ∧ hR st' h' ∧ st'.2.2.2 = st.2.2.2) ∧ (0 ≤ z ∧ z < 2) ∧ (st'.1 = 0 → rdP st' h' = rdP st h + 1) ∧ (st'.1 ≠ 0 → z = 0) ∧ (∀ (S A : ms) (o : Nat), S.1 9 7 = 1 → RdC S o en t → CB S A o en t st h → ∃ A', EV q 123 0 [some (.ref 9), some (vI 1), none, none, none] [] A (some (vL z)) A' ∧ CB S A' o en t st' h') ∧ ∀ S B : ms, S.1 367 18 = 1 → RdM S en t → MB S B en st h → ∃ B', EV q 340 0 [some (.ref 367), none] [] B (some (vI z)) B' ∧ MB S B' en st' h' := by
  obtain ⟨g1, g2, g3, g4, g5, g6⟩ := rdBit_s (t := t) (hi := 1) hr hh
  refine ⟨(rdBit t en 1 st h).1, (rdBit t en 1 st h).2.1, (rdBit t en 1 st h).2.2, ⟨g1, g2, g3, g4⟩, by omega, fun y => g6 y, fun y => rdBit_0 y, fun S A o hS hC hA => ?_, fun S B hS hC hB => mb_bit (q := q) ⟨hS, Or.inr rfl⟩ he.2 hC hr hh hB⟩
  by_cases c : (rdBit t en 1 st h).2.1.1 = 0
  · have e : nvV 1 0 (rdBit t en 1 st h).1 0 = (rdBit t en 1 st h).1 := by
      have g : (rdBit t en 1 st h).1 = 0 ∨ (rdBit t en 1 st h).1 = 1 := by omega
      rcases g with y | y
      · rw [y]; decide
      · rw [y]; decide
    obtain ⟨A1, k1, k2⟩ := (sb_bit (q := q) (v := 0) (n := 1) (i := 0) ⟨hS, Or.inr rfl⟩ hC ht hr hh (by decide) hA).2 c
    rw [e] at k2
    exact ⟨A1, vc_Source_takeBits _ (k2 _ _ (vc_Source_takeBits_5 _ _ _ (cY (by decide) ⟨rfl, rfl⟩))), k1⟩
  · obtain ⟨A1, k1, k2⟩ := (sb_bit (q := q) (v := 0) (n := 1) (i := 0) ⟨hS, Or.inr rfl⟩ hC ht hr hh (by decide) hA).1 c
    rw [rdBit_0 c]
    exact ⟨A1, vc_Source_takeBits _ k1, k2⟩
end Srt7
