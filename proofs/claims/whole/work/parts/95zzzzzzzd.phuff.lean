/-! pack: own codes; the counts are copied -/
section PCpy
variable {q : Nat × (Nat → Int32)} {n : Nat} {c : Nat → Int}
theorem cl_cpy {cd a1 na1 : Nat} {x3 : Int} (hc : isCode cd) (s1 : SH a1 = (0, na1, [])) (h1 : n ≤ na1 ∧ a1 ≠ cd + 8) (hn : n ≤ 288) : ∀ (v s : Nat) (A : ms), s + v = n → (∀ t : Nat, t < n → A.1 a1 t = c t) → (∀ t : Nat, t < s → A.1 (cd + 8) t = c t) → ∃ A', EX (fun a _ => a = cd + 8) A A' ∧ (∀ t : Nat, t < n → A'.1 (cd + 8) t = c t) ∧ ∀ (R : Option Value) (T : ms), EV q 70 29 [some (.ref cd), some (.ref a1), some (vI n), some (vI x3), some (vI 0), none, none] [] A' R T → EV q 70 3 [some (.ref cd), some (.ref a1), some (vI n), some (vI x3), some (vI s), none, none] [] A R T := by
  have wn : Unit → w32 (n : Int) = n := fun _ => w32_of (by omega)
  intro v
  induction v with
  | zero =>
    intro s A hs h h8
    have e : s = n := by omega
    subst e
    exact ⟨A, EX.refl _ A, h8, fun R T k => vc_Code_byCounts_3 _ _ _ _ hc _ _ s1 (cY (Int.le_refl _) k)⟩
  | succ v ih =>
    intro s A hs h h8
    have ws : Unit → w32 (s : Int) = s := fun _ => w32_of (by omega)
    obtain ⟨A', g1, g2, g3⟩ := ih (s + 1) (wI A (cd + 8) s (c s)) (by omega) (fun t ht => by rw [wI_no _ (by omega)]; exact h t ht) (fun t ht => by
      by_cases e : t = s
      · rw [e, wI_at]
      · rw [wI_no _ (by omega)]
        exact h8 t (by omega))
    refine ⟨A', ((EX.refl _ A).wr rfl).trans g1, g2, fun R T k => vc_Code_byCounts_3 _ _ _ _ hc _ _ s1 ?_⟩
    have g4 := g3 R T k
    rw [show ((s + 1 : Nat) : Int) = (s : Int) + 1 by omega] at g4
    rw [wn (), ws (), h s (by omega)]
    exact cNo (by omega) ⟨by omega, by omega, fun S3 q3 => by rw [q3]; exact g4⟩
theorem md_cpy {a1 na1 a4 na4 : Nat} {x3 x5 : Int} (s1 : SH a1 = (0, na1, [])) (s4 : SH a4 = (0, na4, [])) (h1 : n ≤ na1) (hn : n ≤ 288) (hr : ∀ s : Nat, s < n → 0 ≤ c s ∧ c s < 100000000) : ∀ (v s : Nat) (B : ms), s + v = n → (∀ t : Nat, t < n → B.1 a1 t = c t) → (∀ t : Nat, t < s → B.2.1 378 t = c t) → ∃ B', (B'.1 = B.1 ∧ B'.2.2 = B.2.2) ∧ (∀ t : Nat, t < n → B'.2.1 378 t = c t) ∧ ∀ (R : Option Value) (T : ms), EV q 299 30 [some (.ref 367), some (.ref a1), some (vI n), some (vI x3), some (.ref a4), some (vI x5), some (vI 1), none, none, none, none, none] [] B' R T → EV q 299 3 [some (.ref 367), some (.ref a1), some (vI n), some (vI x3), some (.ref a4), some (vI x5), some (vI s), none, none, none, none, none] [] B R T := by
  have wn : Unit → w32 (n : Int) = n := fun _ => w32_of (by omega)
  intro v
  induction v with
  | zero =>
    intro s B hs h h8
    have e : s = n := by omega
    subst e
    exact ⟨B, ⟨rfl, rfl⟩, h8, fun R T k => vc_MD_lengthsBy_3 _ _ _ _ _ _ s1 _ _ s4 (cY (Int.le_refl _) k)⟩
  | succ v ih =>
    intro s B hs h h8
    have ws : Unit → w32 (s : Int) = s := fun _ => w32_of (by omega)
    have cs := hr s (by omega)
    obtain ⟨B', g1, g2, g3⟩ := ih (s + 1) (wJ B 378 s (c s)) (by omega) (fun t ht => h t ht) (fun t ht => by
      by_cases e : t = s
      · rw [e, wJ_at]
      · rw [wJ_no _ (by omega)]
        exact h8 t (by omega))
    refine ⟨B', ⟨g1.1, g1.2⟩, g2, fun R T k => vc_MD_lengthsBy_3 _ _ _ _ _ _ s1 _ _ s4 ?_⟩
    have g4 := g3 R T k
    rw [show ((s + 1 : Nat) : Int) = (s : Int) + 1 by omega] at g4
    rw [wn (), ws (), h s (by omega), w32_of (x := c s) (by omega)]
    exact cNo (by omega) ⟨by omega, by omega, fun S3 q3 => by rw [q3]; exact g4⟩
end PCpy
