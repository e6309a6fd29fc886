/-! pack: SORTED; the class orders by ranks -/
section PObr
variable {q : Nat × (Nat → Int32)} {n M : Nat} {rk : Nat → Int} {mv : Nat → Nat}
theorem cl_ob1 (hM : M ≤ 2500) : ∀ (v r : Nat) (A : ms), r + v = M + 1 → (∀ k : Int, 0 ≤ k → k < r → A.1 100 k = 0) → ∃ A', EX (fun a _ => a = 100) A A' ∧ (∀ k : Int, 0 ≤ k → k ≤ M → A'.1 100 k = 0) ∧ ∀ (R : Option Value) (S' : ms), EV q 95 22 [some (.ref 94), some (vI M), some (vI 0), none] [] A' R S' → EV q 95 2 [some (.ref 94), some (vI M), some (vI r), none] [] A R S' := by
  have wM : Unit → w32 (M : Int) = M := fun _ => w32_of (by omega)
  intro v
  induction v with
  | zero =>
    intro r A hr h
    refine ⟨A, EX.refl _ A, fun k k0 k1 => h k k0 (by omega), fun R S' k => vc_Sorted_orderByRanks_2 _ _ ?_⟩
    rw [wM (), show w32 (r : Int) = r from w32_of (by omega)]
    exact cY (by omega) k
  | succ v ih =>
    intro r A hr h
    obtain ⟨A', g1, g2, g3⟩ := ih (r + 1) (wI A 100 r 0) (by omega) (fun k k0 k1 => by
      by_cases e : k = r
      · rw [e, wI_at]
      · rw [wI_no _ (by omega)]
        exact h k k0 (by omega))
    refine ⟨A', ((EX.refl _ A).wr rfl).trans g1, g2, fun R S' k => vc_Sorted_orderByRanks_2 _ _ ?_⟩
    have g4 := g3 R S' k
    rw [show ((r + 1 : Nat) : Int) = (r : Int) + 1 by omega] at g4
    rw [wM (), show w32 (r : Int) = r from w32_of (by omega)]
    exact cNo (by omega) ⟨by omega, fun S2 q2 => by rw [q2]; exact g4⟩
theorem cl_ob2 (hM : M ≤ 2500) (hn : n ≤ 2500) (hr : ∀ a : Nat, a < n → 0 ≤ rk a ∧ rk a < M) : ∀ (v i : Nat) (A : ms), i + v = n → A.1 94 1 = n → (∀ a : Nat, a < n → A.1 98 a = rk a) → (∀ k : Int, 0 ≤ k → k ≤ M → A.1 100 k = sm (fun j => if rk j + 1 = k then 1 else 0) i) → ∃ A', EX (fun a _ => a = 100) A A' ∧ (∀ k : Int, 0 ≤ k → k ≤ M → A'.1 100 k = sm (fun j => if rk j + 1 = k then 1 else 0) n) ∧ ∀ (R : Option Value) (S' : ms), EV q 95 55 [some (.ref 94), some (vI M), some (vI 1), none] [] A' R S' → EV q 95 22 [some (.ref 94), some (vI M), some (vI i), none] [] A R S' := by
  have wn : Unit → w32 (n : Int) = n := fun _ => w32_of (by omega)
  intro v
  induction v with
  | zero =>
    intro i A hi h1 h8 h
    have e : i = n := by omega
    subst e
    refine ⟨A, EX.refl _ A, h, fun R S' k => vc_Sorted_orderByRanks_22 _ _ ?_⟩
    rw [h1]
    exact cY (Int.le_refl _) k
  | succ v ih =>
    intro i A hi h1 h8 h
    have ri := hr i (by omega)
    obtain ⟨A', g1, g2, g3⟩ := ih (i + 1) (wI A 100 (rk i + 1) (A.1 100 (rk i + 1) + 1)) (by omega) (by rw [wI_no _ (by omega)]; exact h1) (fun a ha => by rw [wI_no _ (by omega)]; exact h8 a ha) (fun k k0 k1 => by
      rw [sm_1]
      by_cases e : rk i + 1 = k
      · rw [if_pos e, e, wI_at, h k k0 k1]
      · rw [if_neg e, wI_no _ (fun z => e z.2.symm), h k k0 k1]
        omega)
    refine ⟨A', ((EX.refl _ A).wr rfl).trans g1, g2, fun R S' k => vc_Sorted_orderByRanks_22 _ _ ?_⟩
    have g4 := g3 R S' k
    rw [show ((i + 1 : Nat) : Int) = (i : Int) + 1 by omega] at g4
    rw [h1, wn (), show w32 (i : Int) = i from w32_of (by omega), h8 i (by omega), w32_of (x := rk i + 1) (by omega)]
    exact cNo (by omega) ⟨by omega, by omega, by omega, fun S4 q4 => by rw [q4]; exact g4⟩
theorem cl_ob3 (hM : M ≤ 2500) (hr : ∀ a : Nat, a < n → 0 ≤ rk a ∧ rk a < M) : ∀ (v r : Nat) (A : ms), r + v = M + 1 → 1 ≤ r → (∀ k : Int, 0 ≤ k → k ≤ M → A.1 100 k = if k < r then sm (fun j => if rk j < k then 1 else 0) n else sm (fun j => if rk j + 1 = k then 1 else 0) n) → ∃ A', EX (fun a _ => a = 100) A A' ∧ (∀ k : Int, 0 ≤ k → k ≤ M → A'.1 100 k = sm (fun j => if rk j < k then 1 else 0) n) ∧ ∀ (R : Option Value) (S' : ms), EV q 95 85 [some (.ref 94), some (vI M), some (vI 0), none] [] A' R S' → EV q 95 55 [some (.ref 94), some (vI M), some (vI r), none] [] A R S' := by
  have wM : Unit → w32 (M : Int) = M := fun _ => w32_of (by omega)
  intro v
  induction v with
  | zero =>
    intro r A hv h1 h
    refine ⟨A, EX.refl _ A, fun k k0 k1 => by rw [h k k0 k1, if_pos (by omega)], fun R S' k => vc_Sorted_orderByRanks_55 _ _ ?_⟩
    rw [wM (), show w32 (r : Int) = r from w32_of (by omega)]
    exact cY (by omega) k
  | succ v ih =>
    intro r A hv h1 h
    have e1 := h r (by omega) (by omega)
    rw [if_neg (by omega)] at e1
    have e2 := h ((r : Int) - 1) (by omega) (by omega)
    rw [if_pos (by omega)] at e2
    have eq : sm (fun j => if rk j + 1 = (r : Int) then (1 : Int) else 0) n + sm (fun j => if rk j < (r : Int) - 1 then (1 : Int) else 0) n = sm (fun j => if rk j < (r : Int) then (1 : Int) else 0) n := by
      have a := cLE rk ((r : Int) - 1) n
      rw [show (r : Int) - 1 + 1 = r by omega] at a
      rw [← a, Int.add_comm]
      congr 1
      refine sm_cg (fun j _ => ?_)
      by_cases c : rk j + 1 = (r : Int)
      · rw [if_pos c, if_pos (by omega)]
      · rw [if_neg c, if_neg (by omega)]
    obtain ⟨A', g1, g2, g3⟩ := ih (r + 1) (wI A 100 r (A.1 100 r + A.1 100 ((r : Int) - 1))) (by omega) (by omega) (fun k k0 k1 => by
      by_cases e : k = r
      · rw [e, wI_at, if_pos (by omega), e1, e2]
        exact eq
      · rw [wI_no _ (by omega), h k k0 k1]
        by_cases c : k < r
        · rw [if_pos c, if_pos (by omega)]
        · rw [if_neg c, if_neg (by omega)])
    refine ⟨A', ((EX.refl _ A).wr rfl).trans g1, g2, fun R S' k => vc_Sorted_orderByRanks_55 _ _ ?_⟩
    have g4 := g3 R S' k
    rw [show ((r + 1 : Nat) : Int) = (r : Int) + 1 by omega] at g4
    rw [wM (), show w32 (r : Int) = r from w32_of (by omega), w32_of (x := (r : Int) - 1) (by omega)]
    exact cNo (by omega) ⟨by omega, by omega, by omega, fun S4 q4 => by rw [q4]; exact g4⟩
theorem cl_ob4 (hM : M ≤ 2500) (hn : n ≤ 2500) (hr : ∀ a : Nat, a < n → 0 ≤ rk a ∧ rk a < M) (hm : Pmu n mv) : ∀ (v i : Nat) (A : ms), i + v = n → A.1 94 1 = n → (∀ j : Nat, j < n → A.1 97 j = mv j) → (∀ a : Nat, a < n → A.1 98 a = rk a) → (∀ k : Int, 0 ≤ k → k ≤ M → A.1 100 k = sm (fun j => if rk (mv j) < k then 1 else 0) n + sm (fun j => if rk (mv j) = k then 1 else 0) i) → (∀ j : Nat, j < i → A.1 96 (posF (fun i => rk (mv i)) n j) = mv j) → ∃ A', EX (fun a _ => a = 96 ∨ a = 100) A A' ∧ (∀ j : Nat, j < n → A'.1 96 (posF (fun i => rk (mv i)) n j) = mv j) ∧ EV q 95 85 [some (.ref 94), some (vI M), some (vI i), none] [] A none A' := by
  have wn : Unit → w32 (n : Int) = n := fun _ => w32_of (by omega)
  intro v
  induction v with
  | zero =>
    intro i A hi h1 h7 h8 h h6
    have e : i = n := by omega
    subst e
    refine ⟨A, EX.refl _ A, h6, vc_Sorted_orderByRanks_85 _ _ ?_⟩
    rw [h1]
    exact cY (Int.le_refl _) ⟨rfl, rfl⟩
  | succ v ih =>
    intro i A hi h1 h7 h8 h h6
    have mi := hm.1 i (by omega)
    have ri := hr (mv i) mi
    obtain ⟨p, ep⟩ : ∃ p, p = posF (fun i => rk (mv i)) n i := ⟨_, rfl⟩
    have pr := posF_0 (fun i => rk (mv i)) (n := n) (i := i) (by omega)
    rw [← ep] at pr
    have e100 : A.1 100 (rk (mv i)) = p := by
      rw [h _ ri.1 (by omega), ep]
      rfl
    obtain ⟨A1, e1⟩ : ∃ A1, A1 = wI A 96 p (mv i) := ⟨_, rfl⟩
    obtain ⟨A2, e2⟩ : ∃ A2, A2 = wI A1 100 (rk (mv i)) (p + 1) := ⟨_, rfl⟩
    have e1' : A1.1 100 (rk (mv i)) = p := by rw [e1, wI_no _ (by omega)]; exact e100
    obtain ⟨A', g1, g2, g3⟩ := ih (i + 1) A2 (by omega) (by rw [e2, wI_no _ (by omega), e1, wI_no _ (by omega)]; exact h1) (fun a ha => by rw [e2, wI_no _ (by omega), e1, wI_no _ (by omega)]; exact h7 a ha) (fun a ha => by rw [e2, wI_no _ (by omega), e1, wI_no _ (by omega)]; exact h8 a ha) (fun k k0 k1 => by
      rw [sm_1]
      by_cases e : rk (mv i) = k
      · have := h k k0 k1
        rw [if_pos e, ← e, e2, wI_at]
        rw [← e, e100] at this
        omega
      · rw [if_neg e, e2, wI_no _ (fun z => e z.2.symm), e1, wI_no _ (by omega), h k k0 k1]
        omega) (fun j hj => by
      rw [e2, wI_no _ (by omega), e1]
      by_cases e : j = i
      · rw [e, ← ep, wI_at]
      · rw [wI_no _ (fun z => ?_)]
        · exact h6 j (by omega)
        · have z2 := z.2
          rw [ep] at z2
          by_cases c1 : rk (mv j) < rk (mv i)
          · have := posF_lt (fun i => rk (mv i)) (n := n) (i := j) (j := i) (by omega) (by omega) (Or.inl c1); omega
          · by_cases c2 : rk (mv j) = rk (mv i)
            · have := posF_lt (fun i => rk (mv i)) (n := n) (i := j) (j := i) (by omega) (by omega) (Or.inr ⟨c2, by omega⟩); omega
            · have := posF_lt (fun i => rk (mv i)) (n := n) (i := i) (j := j) (by omega) (by omega) (Or.inl (by show rk (mv i) < rk (mv j); omega)); omega)
    refine ⟨A', EX.trans (by rw [e2, e1]; exact ((EX.refl _ A).wr (Or.inl rfl)).wr (Or.inr rfl)) g1, g2, vc_Sorted_orderByRanks_85 _ _ ?_⟩
    rw [show ((i + 1 : Nat) : Int) = (i : Int) + 1 by omega] at g3
    rw [h1, wn (), show w32 (i : Int) = i from w32_of (by omega), h7 i (by omega), show w32 (mv i : Int) = mv i from w32_of (by omega), h8 (mv i) mi, w32_of (x := rk (mv i)) (by omega), e100, w32_of (x := p) (by omega)]
    refine cNo (by omega) ⟨by omega, by omega, by omega, by omega, by omega, fun S6 q6 => ⟨by omega, by omega, fun S9 q9 => ?_⟩⟩
    rw [q6, ← e1, e1'] at q9
    rw [q9, ← e2]
    exact g3
theorem cl_ord (hM : M ≤ 2500) (hn : n ≤ 2500) (hr : ∀ a : Nat, a < n → 0 ≤ rk a ∧ rk a < M) (hm : Pmu n mv) {A : ms} (h1 : A.1 94 1 = n) (h7 : ∀ j : Nat, j < n → A.1 97 j = mv j) (h8 : ∀ a : Nat, a < n → A.1 98 a = rk a) : ∃ (A' : ms) (od : Nat → Nat), EX (fun a _ => a = 96 ∨ a = 100) A A' ∧ (Pmu n od ∧ ∀ p r : Nat, p < r → r < n → ∃ i j : Nat, (i < n ∧ j < n) ∧ od p = mv i ∧ od r = mv j ∧ (rk (mv i) < rk (mv j) ∨ (rk (mv i) = rk (mv j) ∧ i < j))) ∧ (∀ p : Nat, p < n → A'.1 96 p = od p) ∧ EV q 95 0 [some (.ref 94), some (vI M), none, none] [] A none A' := by
  obtain ⟨od, o1, ⟨o2, o3⟩, o4⟩ := pos_ex (fun i => rk (mv i)) hm
  obtain ⟨A1, a1, a2, a3⟩ := cl_ob1 (q := q) hM (M + 1) 0 A (by omega) (fun k k0 k1 => absurd k1 (by omega))
  obtain ⟨A2, b1, b2, b3⟩ := cl_ob2 (q := q) hM hn hr n 0 A1 (by omega) (by rw [a1.2 94 1 (by decide)]; exact h1) (fun a ha => by rw [a1.2 98 a (by omega)]; exact h8 a ha) (fun k k0 k1 => by rw [a2 k k0 k1]; rfl)
  obtain ⟨A3, c1, c2, c3⟩ := cl_ob3 (q := q) (n := n) hM hr M 1 A2 (by omega) (Nat.le_refl _) (fun k k0 k1 => by
    rw [b2 k k0 k1]
    by_cases e : k < ((1 : Nat) : Int)
    · rw [if_pos e, sm_0 (fun j hj => if_neg (by have := hr j hj; omega)), sm_0 (fun j hj => if_neg (by have := hr j hj; omega))]
    · rw [if_neg e])
  have x3 : EX (fun a _ => a = 100) A A3 := (a1.trans b1).trans c1
  obtain ⟨A4, d1, d2, d3⟩ := cl_ob4 (q := q) hM hn hr hm n 0 A3 (by omega) (by rw [x3.2 94 1 (by decide)]; exact h1) (fun a ha => by rw [x3.2 97 a (by omega)]; exact h7 a ha) (fun a ha => by rw [x3.2 98 a (by omega)]; exact h8 a ha) (fun k k0 k1 => by
    rw [c2 k k0 k1, ← Pmu_sum hm (fun j => if rk j < k then 1 else 0)]
    show _ = _ + 0
    omega) (fun j hj => absurd hj (by omega))
  refine ⟨A4, od, (x3.mono (fun a k y => Or.inr y)).trans d1, ⟨o1, o4⟩, fun p hp => ?_, vc_Sorted_orderByRanks _ (a3 none A4 (b3 none A4 (c3 none A4 d3)))⟩
  obtain ⟨i, i1, i2⟩ := o3 p hp
  have z := posF_0 (fun i => rk (mv i)) i1
  have y := d2 i i1
  rw [← o2 i i1, i2, show posF (fun i => rk (mv i)) n i = (p : Int) by omega] at y
  exact y
/-- less by the rank, then by the rank of the one behind -/
def lt2 (rk : Nat → Int) (be : Nat → Nat) (a b : Nat) : Prop := rk a < rk b ∨ (rk a = rk b ∧ rk (be a) < rk (be b))
def eq2 (rk : Nat → Int) (be : Nat → Nat) (a b : Nat) : Prop := rk a = rk b ∧ rk (be a) = rk (be b)
abbrev eq2d (rk : Nat → Int) (be : Nat → Nat) (a b : Nat) : Bool := rk a == rk b && rk (be a) == rk (be b)
theorem eq2_d {be : Nat → Nat} {a b : Nat} : eq2d rk be a b = true ↔ eq2 rk be a b := by
  unfold eq2d eq2
  rw [Bool.and_eq_true, beq_iff_eq, beq_iff_eq]
/-- the new ranks, by their places -/
def dnF (rk : Nat → Int) (be od : Nat → Nat) : Nat → Nat
  | 0 => 0
  | p + 1 => dnF rk be od p + if eq2d rk be (od (p + 1)) (od p) then 0 else 1
theorem dnF_s (rk : Nat → Int) (be od : Nat → Nat) (p : Nat) : dnF rk be od (p + 1) = dnF rk be od p + if eq2d rk be (od (p + 1)) (od p) then 0 else 1 := rfl
theorem dnF_le (rk : Nat → Int) (be od : Nat → Nat) : ∀ p : Nat, dnF rk be od p ≤ p
  | 0 => Nat.le_refl _
  | p + 1 => by
    have := dnF_le rk be od p
    rw [dnF_s]
    split <;> omega
theorem dn_k {be od : Nat → Nat} (hs : ∀ p : Nat, p + 1 < n → ¬ lt2 rk be (od (p + 1)) (od p)) : ∀ (v p : Nat), p + v < n → (dnF rk be od p = dnF rk be od (p + v) ∧ eq2 rk be (od p) (od (p + v))) ∨ (dnF rk be od p < dnF rk be od (p + v) ∧ lt2 rk be (od p) (od (p + v)))
  | 0, p, _ => Or.inl ⟨rfl, rfl, rfl⟩
  | v + 1, p, h => by
    have ih := dn_k hs v p (by omega)
    have s := hs (p + v) (by omega)
    rw [show p + (v + 1) = p + v + 1 by omega, dnF_s]
    by_cases c : eq2d rk be (od (p + v + 1)) (od (p + v)) = true
    · rw [if_pos c]
      have e := eq2_d.1 c
      unfold eq2 at e
      rcases ih with ⟨i1, i2⟩ | ⟨i1, i2⟩
      · exact Or.inl ⟨by omega, by unfold eq2 at i2 ⊢; omega⟩
      · exact Or.inr ⟨by omega, by unfold lt2 at i2 ⊢; omega⟩
    · rw [if_neg c]
      have e : ¬ eq2 rk be (od (p + v + 1)) (od (p + v)) := fun y => c (eq2_d.2 y)
      refine Or.inr ⟨by rcases ih with y | y <;> omega, ?_⟩
      unfold lt2 at s ⊢
      unfold eq2 at e
      rcases ih with ⟨i1, i2⟩ | ⟨i1, i2⟩
      · unfold eq2 at i2
        omega
      · unfold lt2 at i2
        omega
end PObr
