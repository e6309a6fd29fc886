/-! pack: own codes; the leaves in order, the class -/
section POrd
variable {q : Nat × (Nat → Int32)} {c : Nat → Int}
def inO (od : Nat → Nat) (i s j : Nat) : Nat := if j < i then od j else if j = i then s else od (j - 1)
theorem inO_a {od : Nat → Nat} {i s j : Nat} (h : j < i) : inO od i s j = od j := if_pos h
theorem inO_b {od : Nat → Nat} {i s : Nat} : inO od i s i = s := by unfold inO; rw [if_neg (by omega), if_pos rfl]
theorem inO_c {od : Nat → Nat} {i s j : Nat} (h : i < j) : inO od i s j = od (j - 1) := by unfold inO; rw [if_neg (by omega), if_neg (by omega)]
theorem OLv_in {s k i : Nat} {od : Nat → Nat} (h : OLv s k od c) (hs : 0 < c s) (hi : i ≤ k) (h1 : ∀ j : Nat, i ≤ j → j < k → c s < c (od j)) (h2 : i = 0 ∨ c (od (i - 1)) ≤ c s) : OLv (s + 1) (k + 1) (inO od i s) c := by
  obtain ⟨a1, a2, a3⟩ := h
  have lo : ∀ j : Nat, j < i → c (od j) ≤ c s := fun j hj => by
    rcases h2 with y | y
    · omega
    · by_cases e : j = i - 1
      · rw [e]; exact y
      · have := a2 j (i - 1) (by omega) (by omega)
        omega
  refine ⟨fun j hj => ?_, fun p r hpr hr => ?_, fun t ht hc => ?_⟩
  · by_cases e1 : j < i
    · rw [inO_a e1]
      have := a1 j (by omega)
      exact ⟨by omega, this.2⟩
    · by_cases e2 : j = i
      · rw [e2, inO_b]
        exact ⟨by omega, hs⟩
      · rw [inO_c (by omega)]
        have := a1 (j - 1) (by omega)
        exact ⟨by omega, this.2⟩
  · by_cases e1 : r < i
    · rw [inO_a e1, inO_a (by omega)]
      exact a2 p r hpr (by omega)
    · by_cases e2 : r = i
      · rw [e2, inO_b, inO_a (by omega)]
        have l := lo p (by omega)
        have := (a1 p (by omega)).1
        omega
      · rw [inO_c (show i < r by omega)]
        by_cases e3 : p < i
        · rw [inO_a e3]
          exact a2 p (r - 1) (by omega) (by omega)
        · by_cases e4 : p = i
          · rw [e4, inO_b]
            exact Or.inl (h1 (r - 1) (by omega) (by omega))
          · rw [inO_c (by omega)]
            exact a2 (p - 1) (r - 1) (by omega) (by omega)
  · by_cases e : t = s
    · exact ⟨i, by omega, by rw [inO_b, e]⟩
    · obtain ⟨j, j1, j2⟩ := a3 t (by omega) hc
      by_cases e1 : j < i
      · exact ⟨j, by omega, by rw [inO_a e1, j2]⟩
      · exact ⟨j + 1, by omega, by rw [inO_c (by omega), show j + 1 - 1 = j by omega, j2]⟩
/-- how many of the first n are above 0 -/
def pcF (c : Nat → Int) : Nat → Nat
  | 0 => 0
  | s + 1 => pcF c s + if 0 < c s then 1 else 0
theorem pcF_s (c : Nat → Int) (s : Nat) : pcF c (s + 1) = pcF c s + if 0 < c s then 1 else 0 := rfl
theorem cl_order {cd n : Nat} (hc : isCode cd) (hn : n ≤ 288) (hr : ∀ s : Nat, s < n → 0 ≤ c s ∧ c s < 100000000) : ∀ (v s k : Nat) (od : Nat → Nat) (A : ms), s + v = n → (k ≤ s ∧ k = pcF c s) → OLv s k od c → (∀ i : Nat, i < k → A.1 (cd + 4) i = od i) → (∀ s : Nat, s < n → A.1 (cd + 8) s = c s) → ∃ (A' : ms) (m : Nat) (od' : Nat → Nat), EX (fun a _ => a = cd + 4) A A' ∧ OLv n m od' c ∧ (m ≤ n ∧ m = pcF c n) ∧ (∀ i : Nat, i < m → A'.1 (cd + 4) i = od' i) ∧ EV q 71 4 [some (.ref cd), some (vI n), some (vI k), some (vI s), none] [] A (some (vI m)) A' := by
  intro v
  induction v with
  | zero =>
    intro s k od A hs hk hO h4 h8
    have e : s = n := by omega
    subst e
    exact ⟨A, k, od, EX.refl _ A, hO, hk, h4, vc_Code_orderLeaves_4 _ _ _ _ hc (cY (Int.le_refl _) ⟨rfl, rfl⟩)⟩
  | succ v ih =>
    intro s k od A hs hk hO h4 h8
    have ws : Unit → w32 (s : Int) = s := fun _ => w32_of (by omega)
    have wn : Unit → w32 (n : Int) = n := fun _ => w32_of (by omega)
    have cs := hr s (by omega)
    have sx : ((s + 1 : Nat) : Int) = (s : Int) + 1 := by omega
    by_cases c0 : c s ≤ 0
    · obtain ⟨A', m, od', g1, g2, g3, g4, g5⟩ := ih (s + 1) k od A (by omega) ⟨by omega, by rw [pcF_s, if_neg (by omega)]; omega⟩ ⟨fun i hi => by have := hO.1 i hi; exact ⟨by omega, this.2⟩, hO.2.1, fun t ht hc' => by
        by_cases e : t = s
        · rw [e] at hc'; omega
        · exact hO.2.2 t (by omega) hc'⟩ h4 h8
      rw [sx] at g5
      refine ⟨A', m, od', g1, g2, g3, g4, vc_Code_orderLeaves_4 _ _ _ _ hc ?_⟩
      rw [wn (), ws (), h8 s (by omega), w32_of (x := c s) (by omega)]
      exact cNo (by omega) ⟨by omega, cY c0 (vc_Code_orderLeaves_82 _ _ _ _ hc g5)⟩
    · have lp : ∀ (i : Nat) (U : ms), i ≤ k → EX (fun a _ => a = cd + 4) A U → (∀ j : Nat, j < i → U.1 (cd + 4) j = od j) → (∀ j : Nat, i < j → j ≤ k → U.1 (cd + 4) j = od (j - 1)) → (∀ j : Nat, i ≤ j → j < k → c s < c (od j)) → ∃ (A' : ms) (m : Nat) (od' : Nat → Nat), EX (fun a _ => a = cd + 4) A A' ∧ OLv n m od' c ∧ (m ≤ n ∧ m = pcF c n) ∧ (∀ i : Nat, i < m → A'.1 (cd + 4) i = od' i) ∧ EV q 71 21 [some (.ref cd), some (vI n), some (vI k), some (vI s), some (vI i)] [] U (some (vI m)) A' := by
        intro i
        induction i with
        | zero =>
          intro U hi hU f1 f2 f3
          obtain ⟨A', m, od', g1, g2, g3, g4, g5⟩ := ih (s + 1) (k + 1) (inO od 0 s) (wI U (cd + 4) ((0 : Nat) : Int) s) (by omega) ⟨by omega, by rw [pcF_s, if_pos (by omega)]; omega⟩ (OLv_in hO (by omega) (by omega) f3 (Or.inl rfl)) (fun j hj => by
            by_cases e : j = 0
            · rw [e, inO_b, wI_at]
            · rw [inO_c (by omega), wI_no _ (by omega)]
              exact f2 j (by omega) (by omega)) (fun t ht => by rw [wI_no _ (by omega), hU.2 _ _ (by omega)]; exact h8 t ht)
          rw [sx, show ((k + 1 : Nat) : Int) = (k : Int) + 1 by omega] at g5
          refine ⟨A', m, od', (hU.wr rfl).trans g1, g2, g3, g4, vc_Code_orderLeaves_21 _ _ _ _ _ hc (cY (by decide) (vc_Code_orderLeaves_71 _ _ _ _ _ hc ?_))⟩
          rw [show w32 ((0 : Nat) : Int) = ((0 : Nat) : Int) by decide]
          exact ⟨by decide, fun S2 q2 => by rw [q2]; exact vc_Code_orderLeaves_82 _ _ _ _ hc g5⟩
        | succ i ih2 =>
          intro U hi hU f1 f2 f3
          have wi : Unit → w32 (((i + 1 : Nat) : Int) - 1) = i := fun _ => by rw [show ((i + 1 : Nat) : Int) - 1 = i by omega]; exact w32_of (by omega)
          have o1 := hO.1 i (by omega)
          have u4 : U.1 (cd + 4) i = od i := f1 i (by omega)
          have u8 : ∀ t : Nat, t < n → U.1 (cd + 8) t = c t := fun t ht => by rw [hU.2 _ _ (by omega)]; exact h8 t ht
          have co := hr (od i) (by omega)
          have w1 : Unit → w32 ((i + 1 : Nat) : Int) = ((i + 1 : Nat) : Int) := fun _ => w32_of (by omega)
          by_cases cc : c (od i) ≤ c s
          · obtain ⟨A', m, od', g1, g2, g3, g4, g5⟩ := ih (s + 1) (k + 1) (inO od (i + 1) s) (wI U (cd + 4) ((i + 1 : Nat) : Int) s) (by omega) ⟨by omega, by rw [pcF_s, if_pos (by omega)]; omega⟩ (OLv_in hO (by omega) hi f3 (Or.inr (by rw [show i + 1 - 1 = i by omega]; exact cc))) (fun j hj => by
              by_cases e1 : j < i + 1
              · rw [inO_a e1, wI_no _ (by omega)]
                exact f1 j e1
              · by_cases e : j = i + 1
                · rw [e, inO_b, wI_at]
                · rw [inO_c (by omega), wI_no _ (by omega)]
                  exact f2 j (by omega) (by omega)) (fun t ht => by rw [wI_no _ (by omega)]; exact u8 t ht)
            rw [sx, show ((k + 1 : Nat) : Int) = (k : Int) + 1 by omega] at g5
            have k71 : EV q 71 71 [some (.ref cd), some (vI n), some (vI k), some (vI s), some (vI ((i + 1 : Nat) : Int))] [] U (some (vI m)) A' := by
              refine vc_Code_orderLeaves_71 _ _ _ _ _ hc ?_
              rw [w1 ()]
              exact ⟨by omega, fun S2 q2 => by rw [q2]; exact vc_Code_orderLeaves_82 _ _ _ _ hc g5⟩
            refine ⟨A', m, od', (hU.wr rfl).trans g1, g2, g3, g4, vc_Code_orderLeaves_21 _ _ _ _ _ hc ?_⟩
            rw [w1 (), wi (), u4, show w32 (od i : Int) = od i from w32_of (by omega), ws (), u8 (od i) (by omega), u8 s (by omega), w32_of (x := c (od i)) (by omega), w32_of (x := c s) (by omega)]
            exact cNo (by omega) ⟨by omega, by omega, by omega, cY cc k71⟩
          · obtain ⟨A', m, od', g1, g2, g3, g4, g5⟩ := ih2 (wI U (cd + 4) ((i + 1 : Nat) : Int) (od i)) (by omega) (hU.wr rfl) (fun j hj => by rw [wI_no _ (by omega)]; exact f1 j (by omega)) (fun j h1 h2 => by
              by_cases e : j = i + 1
              · rw [e, wI_at, show i + 1 - 1 = i by omega]
              · rw [wI_no _ (by omega)]
                exact f2 j (by omega) h2) (fun j h1 h2 => by
              by_cases e : j = i
              · rw [e]; omega
              · exact f3 j (by omega) h2)
            refine ⟨A', m, od', g1, g2, g3, g4, vc_Code_orderLeaves_21 _ _ _ _ _ hc ?_⟩
            rw [w1 (), wi (), u4, show w32 (od i : Int) = od i from w32_of (by omega), ws (), u8 (od i) (by omega), u8 s (by omega), w32_of (x := c (od i)) (by omega), w32_of (x := c s) (by omega)]
            refine cNo (by omega) ⟨by omega, by omega, by omega, cNo cc ⟨by omega, by omega, fun S6 q6 => ?_⟩⟩
            rw [q6, show ((i + 1 : Nat) : Int) - 1 = i by omega]
            exact g5
      obtain ⟨A', m, od', g1, g2, g3, g4, g5⟩ := lp k A (Nat.le_refl _) (EX.refl _ A) h4 (fun j h1 h2 => absurd h1 (by omega)) (fun j h1 h2 => absurd h1 (by omega))
      refine ⟨A', m, od', g1, g2, g3, g4, vc_Code_orderLeaves_4 _ _ _ _ hc ?_⟩
      rw [wn (), ws (), h8 s (by omega), w32_of (x := c s) (by omega)]
      exact cNo (by omega) ⟨by omega, cNo c0 g5⟩
end POrd
