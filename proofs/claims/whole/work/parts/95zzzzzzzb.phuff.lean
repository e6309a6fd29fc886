/-! pack: own codes; how the joining begins, the class -/
section PIni
variable {q : Nat × (Nat → Int32)} {n m : Nat} {od : Nat → Nat} {c W : Nat → Int}
theorem hq_ini (hO : OLv n m od c) (hW : ∀ i : Nat, i < m → W i = c (od i)) : HQ m 0 m m W (fun _ => 0) 0 ∧ HT m 0 m m W (sm W m) ∧ UOk m 0 m m (fun _ => 0) (fun _ => 0) := by
  have ps : ∀ i : Nat, i < m → 1 ≤ W i := fun i hi => by rw [hW i hi]; have := (hO.1 i hi).2; omega
  refine ⟨⟨⟨⟨by omega, Nat.le_refl _, Nat.le_refl _⟩, fun i j hij hj => ?_, fun i j hi hij hj => absurd hj (by omega)⟩, ⟨fun i hi => ?_, Int.le_refl _, fun y => absurd y (by omega)⟩, fun i hi => ⟨ps i hi, ?_, ?_⟩⟩, ?_, fun i hi hu => absurd (Or.inl ⟨by omega, hi⟩) hu⟩
  · by_cases e : i = j
    · rw [e]; exact Int.le_refl _
    · rw [hW i (by omega), hW j hj]
      have := hO.2.1 i j (by omega) hj
      omega
  · have := ps i (by omega)
    omega
  · show fbF 2 ≤ W i
    have := ps i hi
    have e : fbF 2 = 1 := by decide
    omega
  · show fbF 1 ≤ max 1 0
    decide
  · unfold HT
    have e : sm W 0 = 0 := rfl
    rw [e]
    omega
theorem cl_jw {cd : Nat} (hc : isCode cd) (hn : n ≤ 288 ∧ m ≤ n) (hO : OLv n m od c) : ∀ (v i : Nat) (A : ms), i + v = m → (∀ j : Nat, j < m → A.1 (cd + 4) j = od j) → (∀ s : Nat, s < n → A.1 (cd + 8) s = c s) → (∀ j : Nat, j < i → A.1 (cd + 9) j = c (od j)) → ∃ A', EX (fun a _ => a = cd + 9) A A' ∧ (∀ j : Nat, j < m → A'.1 (cd + 9) j = c (od j)) ∧ ∀ (R : Option Value) (T : ms), EV q 72 37 [some (.ref cd), some (vI m), some (vI 0), some (vI m), some (vI m), none, none, none] [] A' R T → EV q 72 2 [some (.ref cd), some (vI m), some (vI i), none, none, none, none, none] [] A R T := by
  have wm : Unit → w32 (m : Int) = m := fun _ => w32_of (by omega)
  intro v
  induction v with
  | zero =>
    intro i A hi h4 h8 h9
    have e : i = m := by omega
    subst e
    exact ⟨A, EX.refl _ A, h9, fun R T k => vc_Code_joinAll_2 _ _ _ hc (cY (Int.le_refl _) k)⟩
  | succ v ih =>
    intro i A hi h4 h8 h9
    have wi : Unit → w32 (i : Int) = i := fun _ => w32_of (by omega)
    have o1 := hO.1 i (by omega)
    obtain ⟨A', g1, g2, g3⟩ := ih (i + 1) (wI A (cd + 9) i (c (od i))) (by omega) (fun j hj => by rw [wI_no _ (by omega)]; exact h4 j hj) (fun s hs => by rw [wI_no _ (by omega)]; exact h8 s hs) (fun j hj => by
      by_cases e : j = i
      · rw [e, wI_at]
      · rw [wI_no _ (by omega)]
        exact h9 j (by omega))
    refine ⟨A', ((EX.refl _ A).wr rfl).trans g1, g2, fun R T k => vc_Code_joinAll_2 _ _ _ hc ?_⟩
    have g4 := g3 R T k
    rw [show ((i + 1 : Nat) : Int) = (i : Int) + 1 by omega] at g4
    rw [wm (), wi (), h4 i (by omega), show w32 (od i : Int) = od i from w32_of (by omega), h8 (od i) o1.1]
    exact cNo (by omega) ⟨by omega, by omega, by omega, fun S4 q4 => by rw [q4]; exact g4⟩
end PIni
