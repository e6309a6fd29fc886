/-! pack: own codes; the two queues, abstract: what is popped never falls, and heights are bounded by weights -/
section PHuff
def fbF : Nat → Int
  | 0 => 0
  | 1 => 1
  | n + 2 => fbF n + fbF (n + 1)
theorem fbF_s (n : Nat) : fbF (n + 2) = fbF n + fbF (n + 1) := rfl
theorem fbF_0 : ∀ n : Nat, 0 ≤ fbF n ∧ 0 ≤ fbF (n + 1)
  | 0 => by decide
  | n + 1 => by
    have i := fbF_0 n
    exact ⟨i.2, by rw [fbF_s]; omega⟩
theorem fbF_m : ∀ {m n : Nat}, 1 ≤ m → m ≤ n → fbF m ≤ fbF n := by
  intro m n hm h
  induction h with
  | refl => exact Int.le_refl _
  | step _ ih =>
    rename_i k hk
    have hk' : m ≤ k := hk
    obtain ⟨j, ej⟩ : ∃ j, k = j + 1 := ⟨k - 1, by omega⟩
    subst ej
    have := (fbF_0 j).1
    show fbF m ≤ fbF (j + 2)
    rw [fbF_s]
    omega
/-- leaves a .. m - 1 and joined b .. nx - 1 are there; L was popped last -/
def HQ (m a b nx : Nat) (W : Nat → Int) (H : Nat → Nat) (L : Int) : Prop := ((a ≤ m ∧ m ≤ b ∧ b ≤ nx) ∧ (∀ i j : Nat, i ≤ j → j < m → W i ≤ W j) ∧ (∀ i j : Nat, m ≤ i → i ≤ j → j < nx → W i ≤ W j)) ∧ ((∀ i : Nat, (a ≤ i ∧ i < m) ∨ (b ≤ i ∧ i < nx) → L ≤ W i) ∧ 0 ≤ L ∧ (m < nx → W (nx - 1) ≤ 2 * L)) ∧ ∀ i : Nat, i < nx → 1 ≤ W i ∧ fbF (H i + 2) ≤ W i ∧ fbF (H i + 1) ≤ max 1 L
/-- is the least a leaf -/
def hqL (m a b nx : Nat) (W : Nat → Int) : Prop := a < m ∧ (nx ≤ b ∨ W a ≤ W b)
theorem hq_pop {m a b nx : Nat} {W : Nat → Int} {H : Nat → Nat} {L : Int} (h : HQ m a b nx W H L) (hn : a < m ∨ b < nx) : (hqL m a b nx W → a < m ∧ (∀ i : Nat, (a ≤ i ∧ i < m) ∨ (b ≤ i ∧ i < nx) → W a ≤ W i) ∧ L ≤ W a ∧ HQ m (a + 1) b nx W H (W a)) ∧ (¬ hqL m a b nx W → b < nx ∧ (∀ i : Nat, (a ≤ i ∧ i < m) → W b < W i) ∧ (∀ i : Nat, b ≤ i → i < nx → W b ≤ W i) ∧ L ≤ W b ∧ HQ m a (b + 1) nx W H (W b)) := by
  obtain ⟨⟨⟨h1, h2, h3⟩, h4, h5⟩, ⟨h6, h7, h8⟩, h9⟩ := h
  refine ⟨fun y => ?_, fun y => ?_⟩
  · have am := y.1
    have al : ∀ i : Nat, (a ≤ i ∧ i < m) ∨ (b ≤ i ∧ i < nx) → W a ≤ W i := fun i hi => by
      rcases hi with hi | hi
      · exact h4 a i hi.1 hi.2
      · rcases y.2 with z | z
        · omega
        · exact Int.le_trans z (h5 b i h2 hi.1 hi.2)
    have La := h6 a (Or.inl ⟨Nat.le_refl _, am⟩)
    refine ⟨am, al, La, ⟨⟨by omega, by omega, by omega⟩, h4, h5⟩, ⟨fun i hi => al i (by omega), by omega, fun z => by have := h8 z; omega⟩, fun i hi => ?_⟩
    have := h9 i hi
    exact ⟨this.1, this.2.1, by omega⟩
  · have bn : b < nx := by
      by_cases z : b < nx
      · exact z
      · exact absurd ⟨by omega, Or.inl (by omega)⟩ y
    have lt : ∀ i : Nat, (a ≤ i ∧ i < m) → W b < W i := fun i hi => by
      have e1 : ¬ W a ≤ W b := fun z => y ⟨by omega, Or.inr z⟩
      have := h4 a i hi.1 hi.2
      omega
    have lj : ∀ i : Nat, b ≤ i → i < nx → W b ≤ W i := fun i i0 i1 => h5 b i h2 i0 i1
    have Lb := h6 b (Or.inr ⟨Nat.le_refl _, bn⟩)
    refine ⟨bn, lt, lj, Lb, ⟨⟨by omega, by omega, by omega⟩, h4, h5⟩, ⟨fun i hi => ?_, by omega, fun z => by have := h8 z; omega⟩, fun i hi => ?_⟩
    · rcases hi with hi | hi
      · have := lt i hi
        omega
      · exact lj i (by omega) hi.2
    · have := h9 i hi
      exact ⟨this.1, this.2.1, by omega⟩
/-- p and r were popped one after the other: they are joined -/
theorem hq_join {m a b nx : Nat} {W W' : Nat → Int} {H H' : Nat → Nat} {L0 L1 : Int} {p r : Nat} (h0 : m < nx → W (nx - 1) ≤ 2 * L0) (hL0 : 0 ≤ L0) (h9 : ∀ i : Nat, i < nx → fbF (H i + 1) ≤ max 1 L0) (hp : p < nx ∧ r < nx) (hp1 : L0 ≤ W p) (hp2 : W p ≤ W r) (h : HQ m a b nx W H L1) (hL1 : L1 = W r) (eW : ∀ i : Nat, i < nx → W' i = W i) (eN : W' nx = W p + W r) (eH : ∀ i : Nat, i < nx → H' i = H i) (eHN : H' nx = 1 + max (H p) (H r)) : HQ m a b (nx + 1) W' H' L1 := by
  obtain ⟨⟨⟨h1, h2, h3⟩, h4, h5⟩, ⟨h6, h7, h8⟩, hh⟩ := h
  have wp := hh p hp.1
  have wr := hh r hp.2
  refine ⟨⟨⟨h1, h2, by omega⟩, fun i j hij hj => by rw [eW i (by omega), eW j (by omega)]; exact h4 i j hij hj, fun i j hi hij hj => ?_⟩, ⟨fun i hi => ?_, h7, fun _ => ?_⟩, fun i hi => ?_⟩
  · by_cases ej : j = nx
    · by_cases ei : i = nx
      · rw [ei, ej]; exact Int.le_refl _
      · rw [ej, eN, eW i (by omega)]
        have a1 := h5 i (nx - 1) hi (by omega) (by omega)
        have a2 := h0 (by omega)
        omega
    · rw [eW i (by omega), eW j (by omega)]
      exact h5 i j hi hij (by omega)
  · by_cases ei : i = nx
    · rw [ei, eN]
      omega
    · rw [eW i (by omega)]
      exact h6 i (by omega)
  · rw [show nx + 1 - 1 = nx by omega, eN]
    omega
  · by_cases ei : i = nx
    · rw [ei, eN, eHN]
      refine ⟨by omega, ?_, ?_⟩
      · by_cases c : H p ≤ H r
        · rw [show 1 + max (H p) (H r) + 2 = (H r + 1) + 2 by omega, fbF_s]
          have q1 := h9 r hp.2
          have q2 := wr.2.1
          rw [show H r + 1 + 1 = H r + 2 by omega]
          omega
        · rw [show 1 + max (H p) (H r) + 2 = (H p + 1) + 2 by omega, fbF_s]
          have q1 := h9 p hp.1
          have q2 := wp.2.1
          rw [show H p + 1 + 1 = H p + 2 by omega]
          omega
      · by_cases c : H p ≤ H r
        · rw [show 1 + max (H p) (H r) + 1 = H r + 2 by omega]
          have q2 := wr.2.1
          omega
        · rw [show 1 + max (H p) (H r) + 1 = H p + 2 by omega]
          have q2 := wp.2.1
          omega
    · rw [eW i (by omega), eH i (by omega)]
      exact hh i (by omega)
theorem fb_t : fbF 14 = 377 ∧ fbF 8 = 21 := by decide
end PHuff
