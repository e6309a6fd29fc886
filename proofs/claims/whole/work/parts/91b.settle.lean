/-! Code.settle: its three loops -/
section PSet2
variable {q : Nat × (Nat → Int32)} {sx : List sh_T} {b n : Nat} {l : Int → Int} {r : Option Value} {Sf S0 : ms}
def stI1 (b : Nat) (l : Int → Int) (S0 S : ms) (s : Nat) : Prop := S.2 = S0.2 ∧ (∀ (a : Nat) (k : Int), ¬ (a = b ∧ (k = 5 ∨ k = 6 ∨ k = 7)) → a ≠ b + 5 → S.1 a k = S0.1 a k) ∧ S.1 b 5 = cG l s ∧ S.1 b 6 = cU l s ∧ S.1 b 7 = cS l s ∧ ∀ k : Nat, 1 ≤ k → k ≤ 20 → S.1 (b + 5) k = cN l k s
theorem cG_rg {l : Int → Int} : ∀ m : Nat, (∀ s : Nat, s < m → 0 ≤ l s ∧ l s ≤ 20) → 0 ≤ cG l m ∧ cG l m ≤ 20
  | 0, _ => ⟨Int.le_refl _, (by decide : (0 : Int) ≤ 20)⟩
  | m + 1, h => by
    have := cG_rg m (fun s hs => h s (by omega))
    have h2 := h m (by omega)
    show 0 ≤ (if 0 < l m then max (cG l m) (l m) else cG l m) ∧ (if 0 < l m then max (cG l m) (l m) else cG l m) ≤ 20
    split <;> omega
theorem lp_settle1 (hsx : sx.length ≤ en_b) (hc : isCodeP sx b) (hn : n ≤ 288) (hl : ∀ s : Nat, s < n → 0 ≤ l s ∧ l s ≤ 20) (hl0 : ∀ s : Nat, s < n → S0.1 (b + 1) s = l s) : ∀ (t s : Nat) (S : ms), s + t = n → stI1 b l S0 S s → ∃ T, stI1 b l S0 T n ∧ ∀ (r : Option Value) (Sf : ms), EW q sx 0 0 10 108 [some (.ref b), some (vI n), some (vI 1), none] [] (wI (wI T (b + 6) 1 0) (b + 7) 1 0) r Sf → EW q sx 0 0 10 25 [some (.ref b), some (vI n), some (vI s), none] [] S r Sf := by
  intro t
  induction t with
  | zero =>
    intro s S hs hI
    have e : s = n := by omega
    subst e
    refine ⟨S, hI, fun r Sf k => pc_Code_settle_25 hsx _ _ b hc ⟨fun _ => ⟨by decide, fun S2 e2 => ⟨by decide, fun S4 e4 => ?_⟩⟩, fun c => absurd (Int.le_refl _) c⟩⟩
    subst e2 e4
    exact k
  | succ t ih =>
    intro s S hs hI
    have hsn : s < n := by omega
    have e1 : w32 (s : Nat) = (s : Nat) := w32_of (by omega)
    have e2 : w32 (n : Nat) = (n : Nat) := w32_of (by omega)
    obtain ⟨i1, i2, i3, i4, i5, i6⟩ := hI
    have el : S.1 (b + 1) (w32 (s : Nat)) = l s := by rw [e1, i2 _ _ (by omega) (by omega), hl0 s hsn]
    have hls := hl s hsn
    have e3 : w32 (l s) = l s := w32_of (by omega)
    have hcg := cG_rg (l := l) s (fun z hz => hl z (by omega))
    by_cases hp : 0 < l s
    · let S8 := wI S (b + 5) (l s) (S.1 (b + 5) (l s) + 1)
      let S9 := wI S8 b 6 (S8.1 b 6 + 1)
      let S10 := wI S9 b 7 (S9.1 b 7 + (w32 1048576 / ((2 : Int) ^ (l s % 32).toNat)))
      let S11 := wI S10 b 5 (max (w32 (S10.1 b 5)) (l s))
      have r6 : ∀ (k : Nat), 1 ≤ k → k ≤ 20 → S11.1 (b + 5) k = cN l k (s + 1) := by
        intro k hk1 hk2
        show (wI (wI (wI (wI S (b + 5) (l s) _) b 6 _) b 7 _) b 5 _).1 (b + 5) k = cN l k s + if l s = k then 1 else 0
        simp only [rI_I]
        rw [if_neg (by omega), if_neg (by omega), if_neg (by omega)]
        by_cases hk : l s = k
        · rw [if_pos (by simp [hk]), if_pos hk, hk, i6 k hk1 hk2]
        · rw [if_neg (by omega), if_neg hk, i6 k hk1 hk2]
          omega
      have hI' : stI1 b l S0 S11 (s + 1) := by
        refine ⟨i1, fun a k h1 h2 => ?_, ?_, ?_, ?_, r6⟩
        · show (wI (wI (wI (wI S (b + 5) (l s) _) b 6 _) b 7 _) b 5 _).1 a k = _
          simp only [rI_I]
          rw [if_neg (by omega), if_neg (by omega), if_neg (by omega), if_neg (by omega)]
          exact i2 a k h1 h2
        · show (if b = b ∧ (5 : Int) = 5 then max (w32 (S10.1 b 5)) (l s) else S10.1 b 5) = if 0 < l s then max (cG l s) (l s) else cG l s
          rw [if_pos ⟨rfl, rfl⟩]
          have : S10.1 b 5 = cG l s := by
            show (wI (wI (wI S (b + 5) (l s) _) b 6 _) b 7 _).1 b 5 = _
            simp only [rI_I]
            rw [if_neg (by omega), if_neg (by omega), if_neg (by omega), i3]
          rw [this, w32_of (by omega), if_pos hp]
        · show (wI (wI (wI (wI S (b + 5) (l s) _) b 6 _) b 7 _) b 5 _).1 b 6 = cU l s + if 0 < l s then 1 else 0
          simp only [rI_I]
          rw [if_neg (by omega), if_neg (by omega), if_pos (by simp), if_pos hp]
          have : S8.1 b 6 = cU l s := by
            show (wI S (b + 5) (l s) _).1 b 6 = _
            simp only [rI_I]
            rw [if_neg (by omega), i4]
          rw [this]
        · show (wI (wI (wI (wI S (b + 5) (l s) _) b 6 _) b 7 _) b 5 _).1 b 7 = cS l s + if 0 < l s then w32 1048576 / ((2 : Int) ^ (l s % 32).toNat) else 0
          simp only [rI_I]
          rw [if_neg (by omega), if_pos (by simp), if_pos hp]
          have : S9.1 b 7 = cS l s := by
            show (wI (wI S (b + 5) (l s) _) b 6 _).1 b 7 = _
            simp only [rI_I]
            rw [if_neg (by omega), if_neg (by omega), i5]
          rw [this]
      obtain ⟨T, hT, kT⟩ := ih (s + 1) S11 (by omega) hI'
      refine ⟨T, hT, fun r Sf k => pc_Code_settle_25 hsx _ _ b hc ⟨fun c => ?_, fun _ => ⟨by rw [e1]; omega, fun c => ?_, fun c => ?_⟩⟩⟩
      · rw [e1, e2] at c
        omega
      · rw [el, e3] at c
        omega
      · rw [el, e3]
        refine ⟨by omega, by omega, fun T8 f8 T9 f9 T10 f10 T11 f11 => ?_⟩
        refine pc_Code_settle_86 hsx _ _ _ b hc ?_
        rw [show ((s : Nat) : Int) + 1 = ((s + 1 : Nat) : Int) by omega]
        subst f8 f9 f10 f11
        exact kT r Sf k
    · have hI' : stI1 b l S0 S (s + 1) := by
        refine ⟨i1, i2, ?_, ?_, ?_, fun k hk1 hk2 => ?_⟩
        · rw [i3]
          show _ = if 0 < l s then max (cG l s) (l s) else cG l s
          rw [if_neg hp]
        · rw [i4]
          show _ = cU l s + if 0 < l s then 1 else 0
          rw [if_neg hp]
          omega
        · rw [i5]
          show _ = cS l s + if 0 < l s then w32 1048576 / ((2 : Int) ^ (l s % 32).toNat) else 0
          rw [if_neg hp]
          omega
        · rw [i6 k hk1 hk2]
          show _ = cN l k s + if l s = k then 1 else 0
          rw [if_neg (by omega)]
          omega
      obtain ⟨T, hT, kT⟩ := ih (s + 1) S (by omega) hI'
      refine ⟨T, hT, fun r Sf k => pc_Code_settle_25 hsx _ _ b hc ⟨fun c => ?_, fun _ => ⟨by rw [e1]; omega, fun c => ?_, fun c => ?_⟩⟩⟩
      · rw [e1, e2] at c
        omega
      · refine pc_Code_settle_86 hsx _ _ _ b hc ?_
        rw [show ((s : Nat) : Int) + 1 = ((s + 1 : Nat) : Int) by omega]
        exact kT r Sf k
      · rw [el, e3] at c
        omega
/-- the second loop: first codes and places of each length -/
def stI2 (b n : Nat) (l : Int → Int) (S1 S : ms) (z : Nat) : Prop := S.2 = S1.2 ∧ (∀ (a : Nat) (k : Int), a ≠ b + 6 → a ≠ b + 7 → S.1 a k = S1.1 a k) ∧ ∀ k : Nat, 1 ≤ k → k ≤ z → S.1 (b + 6) k = cC l n (k - 1) ∧ S.1 (b + 7) k = cP l n (k - 1)
theorem lp_settle2 (hsx : sx.length ≤ en_b) (hc : isCodeP sx b) {S1 : ms} (h5 : ∀ k : Nat, 1 ≤ k → k ≤ 20 → S1.1 (b + 5) k = cN l k n) : ∀ (t z : Nat) (S : ms), z + t = 21 → 1 ≤ z → stI2 b n l S1 S z → ∃ V, stI2 b n l S1 V 21 ∧ ∀ (r : Option Value) (Sf : ms), EW q sx 0 0 10 166 [some (.ref b), some (vI n), some (vI 0), none] [] V r Sf → EW q sx 0 0 10 108 [some (.ref b), some (vI n), some (vI z), none] [] S r Sf := by
  intro t
  induction t with
  | zero =>
    intro z S hz h1 hI
    have e : z = 21 := by omega
    subst e
    exact ⟨S, hI, fun r Sf k => pc_Code_settle_108 hsx _ _ b hc ⟨fun _ => k, fun c => absurd (by decide) c⟩⟩
  | succ t ih =>
    intro z S hz h1 hI
    have e1 : w32 (z : Nat) = (z : Nat) := w32_of (by omega)
    have e2 : w32 (((z : Nat) : Int) + 1) = ((z + 1 : Nat) : Int) := by rw [w32_of (by omega)]; omega
    obtain ⟨i1, i2, i3⟩ := hI
    have g5 : S.1 (b + 5) (z : Nat) = cN l (z : Nat) n := by rw [i2 _ _ (by omega) (by omega), h5 z h1 (by omega)]
    obtain ⟨g6, g7⟩ := i3 z h1 (Nat.le_refl _)
    let S4 := wI S (b + 6) ((z + 1 : Nat) : Int) ((S.1 (b + 6) (z : Nat) + S.1 (b + 5) (z : Nat)) * 2)
    let S8 := wI S4 (b + 7) ((z + 1 : Nat) : Int) (S4.1 (b + 7) (z : Nat) + S4.1 (b + 5) (z : Nat))
    have q4 : ∀ (a : Nat) (k : Int), a ≠ b + 6 → S4.1 a k = S.1 a k := by
      intro a k ha
      show (wI S (b + 6) _ _).1 a k = _
      simp only [rI_I]
      exact if_neg (by omega)
    have q8 : ∀ (a : Nat) (k : Int), S8.1 a k = if a = b + 7 ∧ k = ((z + 1 : Nat) : Int) then S4.1 (b + 7) (z : Nat) + S4.1 (b + 5) (z : Nat) else S4.1 a k := fun _ _ => rfl
    have q4b : ∀ (a : Nat) (k : Int), S4.1 a k = if a = b + 6 ∧ k = ((z + 1 : Nat) : Int) then (S.1 (b + 6) (z : Nat) + S.1 (b + 5) (z : Nat)) * 2 else S.1 a k := fun _ _ => rfl
    have hI' : stI2 b n l S1 S8 (z + 1) := by
      refine ⟨i1, fun a k ha hb => ?_, fun k hk1 hk2 => ?_⟩
      · rw [q8, if_neg (by omega), q4 a k ha, i2 a k ha hb]
      · by_cases hk : k = z + 1
        · subst hk
          have hz1 : z = (z - 1) + 1 := by omega
          constructor
          · rw [q8, if_neg (by omega), q4b, if_pos ⟨rfl, rfl⟩, g6, g5, show z + 1 - 1 = (z - 1) + 1 by omega]
            show _ = (cC l n (z - 1) + cN l ((z - 1 + 1 : Nat) : Int) n) * 2
            rw [← hz1]
          · rw [q8, if_pos ⟨rfl, rfl⟩, q4 _ _ (by omega), q4 _ _ (by omega), g7, g5, show z + 1 - 1 = (z - 1) + 1 by omega]
            show _ = cP l n (z - 1) + cN l ((z - 1 + 1 : Nat) : Int) n
            rw [← hz1]
        · obtain ⟨j6, j7⟩ := i3 k hk1 (by omega)
          constructor
          · rw [q8, if_neg (by omega), q4b, if_neg (by omega), j6]
          · rw [q8, if_neg (by omega), q4 _ _ (by omega), j7]
    obtain ⟨V, hV, kV⟩ := ih (z + 1) S8 (by omega) (by omega) hI'
    refine ⟨V, hV, fun r Sf k => pc_Code_settle_108 hsx _ _ b hc ⟨fun c => ?_, fun _ => ?_⟩⟩
    · rw [e1] at c
      omega
    · rw [e1, e2]
      refine ⟨by omega, by omega, by omega, fun T4 f4 => ⟨by omega, by omega, by omega, fun T8 f8 => ?_⟩⟩
      rw [show ((z : Nat) : Int) + 1 = ((z + 1 : Nat) : Int) by omega]
      subst f4 f8
      exact kV r Sf k
end PSet2
