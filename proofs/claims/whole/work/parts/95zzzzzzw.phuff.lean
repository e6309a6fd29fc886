/-! pack: own codes; the reference's least -/
section PLeast
variable {q : Nat × (Nat → Int32)}
/-- items 0 .. made - 1 of the reference: which are free, and their weights -/
def MH (B : ms) (n made : Nat) (fr : Nat → Prop) (w : Nat → Int) : Prop := ∀ k : Nat, k < made → ((0 ≤ w k ∧ w k < 4611686018427387904) ∧ B.2.1 376 k = w k) ∧ (-1 ≤ B.1 377 k ∧ B.1 377 k < 700) ∧ (k < n → 0 ≤ B.2.1 378 k ∧ B.2.1 378 k < 4611686018427387904) ∧ (fr k ↔ (B.1 377 k < 0 ∧ (n ≤ k ∨ 0 < B.2.1 378 k)))
theorem md_least {B : ms} {n made best : Nat} {fr : Nat → Prop} {w : Nat → Int} (hm : made ≤ 700 ∧ n ≤ 300) (h : MH B n made fr w) (hb : best < made ∧ fr best) (hb2 : ∀ j : Nat, j < made → fr j → w best ≤ w j) (hb3 : ∀ j : Nat, j < best → fr j → w best < w j) : EV q 300 0 [some (.ref 367), some (vI made), some (vI n), none, none, none] [] B (some (vI best)) B := by
  have wm : Unit → w32 (made : Int) = made := fun _ => w32_of (by omega)
  have wn : Unit → w32 (n : Int) = n := fun _ => w32_of (by omega)
  have w0 : w64 0 = 0 := by decide
  have lp : ∀ (v k : Nat) (cb : Int), k + v = made → ((cb = -1 ∧ ∀ j : Nat, j < k → ¬ fr j) ∨ ∃ c : Nat, cb = c ∧ c < k ∧ fr c ∧ (∀ j : Nat, j < k → fr j → w c ≤ w j) ∧ ∀ j : Nat, j < c → fr j → w c < w j) → EV q 300 5 [some (.ref 367), some (vI made), some (vI n), some (vI cb), some (vI k), none] [] B (some (vI best)) B := by
    intro v
    induction v with
    | zero =>
      intro k cb hk hc
      have ek : k = made := by omega
      subst ek
      have e : cb = best := by
        rcases hc with ⟨_, y⟩ | ⟨c, c1, c2, c3, c4, c5⟩
        · exact absurd hb.2 (y best hb.1)
        · have a1 := hb2 c c2 c3
          have a2 := c4 best hb.1 hb.2
          by_cases d : c < best
          · have := hb3 c d c3
            omega
          · by_cases d2 : best < c
            · have := c5 best d2 hb.2
              omega
            · omega
      rw [e]
      exact vc_MD_least_5 _ _ _ _ (cY (Int.le_refl _) ⟨rfl, rfl⟩)
    | succ v ih =>
      intro k cb hk hc
      have wk : Unit → w32 (k : Int) = k := fun _ => w32_of (by omega)
      obtain ⟨⟨m1, m2⟩, m3, m4, m5⟩ := h k (by omega)
      have kx : ((k + 1 : Nat) : Int) = (k : Int) + 1 := by omega
      have no : ¬ fr k → EV q 300 43 [some (.ref 367), some (vI made), some (vI n), some (vI cb), some (vI k), none] [] B (some (vI best)) B := fun hn => by
        have i := ih (k + 1) cb (by omega) (by
          rcases hc with ⟨y1, y2⟩ | ⟨c, c1, c2, c3, c4, c5⟩
          · refine Or.inl ⟨y1, fun j hj => ?_⟩
            by_cases e : j = k
            · rw [e]; exact hn
            · exact y2 j (by omega)
          · refine Or.inr ⟨c, c1, by omega, c3, fun j hj hf => ?_, c5⟩
            by_cases e : j = k
            · rw [e] at hf; exact absurd hf hn
            · exact c4 j (by omega) hf)
        rw [kx] at i
        exact vc_MD_least_43 _ _ _ _ (vc_MD_least_44 _ _ _ _ _ (cY (by decide) (vc_MD_least_75 _ _ _ _ _ i)))
      have yes : fr k → EV q 300 39 [some (.ref 367), some (vI made), some (vI n), some (vI cb), some (vI k), none] [] B (some (vI best)) B := fun hf => by
        have tk : (∀ j : Nat, j < k → fr j → w k < w j) → EV q 300 72 [some (.ref 367), some (vI made), some (vI n), some (vI cb), some (vI k), some (vI 1)] [] B (some (vI best)) B := fun hl => by
          have i := ih (k + 1) k (by omega) (Or.inr ⟨k, rfl, by omega, hf, fun j hj hfj => by
            by_cases e : j = k
            · rw [e]; exact Int.le_refl _
            · have := hl j (by omega) hfj
              omega, hl⟩)
          rw [kx] at i
          exact vc_MD_least_72 _ _ _ _ _ (vc_MD_least_75 _ _ _ _ _ i)
        refine vc_MD_least_39 _ _ _ _ (vc_MD_least_44 _ _ _ _ _ (cNo (by decide) ?_))
        rcases hc with ⟨y1, y2⟩ | ⟨c, c1, c2, c3, c4, c5⟩
        · rw [y1]
          rw [y1] at tk
          exact cY (by decide) (tk (fun j hj hfj => absurd hfj (y2 j hj)))
        · obtain ⟨⟨p1, p2⟩, -, -, -⟩ := h c (by omega)
          rw [c1, show w32 (c : Int) = c from w32_of (by omega), wk (), p2, m2, w64_of (x := w c) (by omega), w64_of (x := w k) (by omega)]
          rw [c1] at tk
          refine cNo (by omega) ⟨by omega, by omega, ?_⟩
          by_cases d : w c ≤ w k
          · have i := ih (k + 1) c (by omega) (Or.inr ⟨c, rfl, by omega, c3, fun j hj hfj => by
              by_cases e : j = k
              · rw [e]; exact d
              · exact c4 j (by omega) hfj, c5⟩)
            rw [kx] at i
            exact cY d (vc_MD_least_75 _ _ _ _ _ i)
          · exact cNo d (tk (fun j hj hfj => by have := c4 j hj hfj; omega))
      refine vc_MD_least_5 _ _ _ _ ?_
      rw [wm (), wk (), wn (), w32_of (x := B.1 377 k) (by omega), w0]
      refine cNo (by omega) ⟨by omega, ?_⟩
      by_cases c1 : 0 ≤ B.1 377 k
      · exact cY c1 (no (fun y => by have := (m5.1 y).1; omega))
      · refine cNo c1 ?_
        by_cases c2 : (n : Int) ≤ k
        · exact cY c2 (yes (m5.2 ⟨by omega, Or.inl (by omega)⟩))
        · have m4' := m4 (by omega)
          rw [w64_of (x := B.2.1 378 k) (by omega)]
          refine cNo c2 ⟨by omega, ?_⟩
          by_cases c3 : B.2.1 378 k ≤ 0
          · exact cY c3 (no (fun y => by have := (m5.1 y).2; omega))
          · exact cNo c3 (yes (m5.2 ⟨by omega, Or.inr (by omega)⟩))
  exact vc_MD_least _ _ (lp made 0 (-1) (by omega) (Or.inl ⟨rfl, fun j hj => absurd hj (by omega)⟩))
end PLeast
