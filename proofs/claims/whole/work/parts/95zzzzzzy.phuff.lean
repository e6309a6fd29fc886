/-! pack: own codes; a pop, the reference -/
section PJoinM
variable {q : Nat × (Nat → Int32)} {n m : Nat} {od : Nat → Nat} {c W : Nat → Int}
/-- the leaves in the order of their counts -/
def OLv (n m : Nat) (od : Nat → Nat) (c : Nat → Int) : Prop := (∀ i : Nat, i < m → od i < n ∧ 0 < c (od i)) ∧ (∀ i j : Nat, i < j → j < m → c (od i) < c (od j) ∨ (c (od i) = c (od j) ∧ od i < od j)) ∧ ∀ s : Nat, s < n → 0 < c s → ∃ i : Nat, i < m ∧ od i = s
/-- the reference's number of an item -/
def rI (n m : Nat) (od : Nat → Nat) (i : Nat) : Nat := if i < m then od i else n + (i - m)
theorem rI_l {i : Nat} (h : i < m) : rI n m od i = od i := if_pos h
theorem rI_j {i : Nat} (h : m ≤ i) : rI n m od i = n + (i - m) := if_neg (by omega)
theorem rI_u (hO : OLv n m od c) {i j : Nat} (e : rI n m od i = rI n m od j) : i = j := by
  by_cases c1 : i < m
  · rw [rI_l c1] at e
    have o1 := (hO.1 i c1).1
    by_cases c2 : j < m
    · rw [rI_l c2] at e
      by_cases d : i < j
      · have := hO.2.1 i j d c2
        rw [e] at this
        omega
      · by_cases d2 : j < i
        · have := hO.2.1 j i d2 c1
          rw [e] at this
          omega
        · omega
    · rw [rI_j (by omega)] at e
      omega
  · rw [rI_j (by omega)] at e
    by_cases c2 : j < m
    · rw [rI_l c2] at e
      have o1 := (hO.1 j c2).1
      omega
    · rw [rI_j (by omega)] at e
      omega
def unp (m a b nx i : Nat) : Prop := (a ≤ i ∧ i < m) ∨ (b ≤ i ∧ i < nx)
def RfH (B : ms) (n m a b nx : Nat) (od : Nat → Nat) (c W : Nat → Int) (U : Nat → Nat) : Prop := (∀ s : Nat, s < n → (0 ≤ c s ∧ c s < 100000000) ∧ B.2.1 378 s = c s ∧ (c s = 0 → B.2.1 376 s = 0 ∧ B.1 377 s = -1)) ∧ ∀ i : Nat, i < nx → B.2.1 376 (rI n m od i) = W i ∧ (unp m a b nx i → B.1 377 (rI n m od i) = -1) ∧ (¬ unp m a b nx i → B.1 377 (rI n m od i) = rI n m od (U i) ∧ rI n m od (U i) < 700)
theorem rI_ex (hO : OLv n m od c) {nx k : Nat} (hk : k < n + (nx - m)) (hc : k < n → 0 < c k) (hm : m ≤ nx) : ∃ i : Nat, i < nx ∧ rI n m od i = k := by
  by_cases d : k < n
  · obtain ⟨i, i1, i2⟩ := hO.2.2 k d (hc d)
    exact ⟨i, by omega, by rw [rI_l i1, i2]⟩
  · exact ⟨m + (k - n), by omega, by rw [rI_j (by omega)]; omega⟩
theorem md_pop {B : ms} {a b nx it a' b' : Nat} {H : Nat → Nat} {L : Int} {U : Nat → Nat} (hn : n ≤ 288 ∧ m ≤ 288) (hnx : m ≤ nx ∧ nx < 2 * m) (hO : OLv n m od c) (hWc : ∀ i : Nat, i < m → W i = c (od i)) (h : HQ m a b nx W H L) (hZ : ∀ i : Nat, i < nx → W i < 100000000) (hP : Pop m a b nx W it a' b') (hne : a < m ∨ b < nx) (hB : RfH B n m a b nx od c W U) : EV q 300 0 [some (.ref 367), some (vI ((n + (nx - m) : Nat) : Int)), some (vI n), none, none, none] [] B (some (vI (rI n m od it))) B := by
  have pp := hq_pop h hne
  have hit : unp m a b nx it ∧ (∀ i : Nat, unp m a b nx i → W it ≤ W i) ∧ ∀ i : Nat, unp m a b nx i → rI n m od i < rI n m od it → W it < W i := by
    rcases hP with ⟨p1, e1, -, -⟩ | ⟨p1, e1, -, -⟩
    · obtain ⟨q1, q2, q3, q4⟩ := pp.1 p1
      subst e1
      refine ⟨Or.inl ⟨Nat.le_refl _, q1⟩, fun i hi => q2 i hi, fun i hi hlt => ?_⟩
      rw [rI_l q1] at hlt
      have o1 := (hO.1 it q1).1
      rcases hi with hi | hi
      · rw [rI_l hi.2] at hlt
        by_cases e : i = it
        · rw [e] at hlt; omega
        · have := hO.2.1 it i (by omega) hi.2
          rw [hWc it q1, hWc i hi.2]
          omega
      · rw [rI_j (by have := h.1.1; omega)] at hlt
        omega
    · obtain ⟨q1, q2, q3, q4, q5⟩ := pp.2 p1
      subst e1
      have mb := h.1.1.2.1
      refine ⟨Or.inr ⟨Nat.le_refl _, q1⟩, fun i hi => ?_, fun i hi hlt => ?_⟩
      · rcases hi with hi | hi
        · have := q2 i hi
          omega
        · exact q3 i hi.1 hi.2
      · rcases hi with hi | hi
        · exact q2 i hi
        · rw [rI_j (by omega), rI_j (by omega)] at hlt
          omega
  obtain ⟨t1, t2, t3⟩ := hit
  have itn : it < nx := by unfold unp at t1; omega
  have rit : rI n m od it < n + (nx - m) := by
    by_cases d : it < m
    · rw [rI_l d]; have := (hO.1 it d).1; omega
    · rw [rI_j (by omega)]; omega
  refine md_least (fr := fun k => ∃ i : Nat, unp m a b nx i ∧ rI n m od i = k) (w := fun k => B.2.1 376 k) (by omega) (fun k hk => ?_) ⟨rit, it, t1, rfl⟩ (fun j hj hf => ?_) (fun j hj hf => ?_)
  · show ((0 ≤ B.2.1 376 k ∧ B.2.1 376 k < 4611686018427387904) ∧ B.2.1 376 k = B.2.1 376 k) ∧ _
    by_cases d : k < n ∧ c k = 0
    · obtain ⟨s1, s2, s3⟩ := hB.1 k d.1
      obtain ⟨s4, s5⟩ := s3 d.2
      rw [s4, s5]
      refine ⟨⟨by decide, rfl⟩, by decide, fun _ => by rw [s2]; omega, fun y => ?_, fun y => ?_⟩
      · obtain ⟨i, i1, i2⟩ := y
        have i3 : i < nx := by have := h.1.1; unfold unp at i1; omega
        by_cases e : i < m
        · rw [rI_l e] at i2
          have := (hO.1 i e).2
          rw [i2] at this
          omega
        · rw [rI_j (by omega)] at i2
          omega
      · rw [s2] at y
        omega
    · obtain ⟨i, i1, i2⟩ := rI_ex hO (nx := nx) hk (fun y => by have := (hB.1 k y).1; omega) hnx.1
      obtain ⟨s1, s2, s3⟩ := hB.2 i i1
      have w1 := (h.2.2 i i1).1
      have w2 := hZ i i1
      rw [i2] at s1 s2 s3
      rw [s1]
      have r377 : -1 ≤ B.1 377 k ∧ B.1 377 k < 700 := by
        by_cases u : unp m a b nx i
        · rw [s2 u]; decide
        · rw [(s3 u).1]
          have := (s3 u).2
          omega
      refine ⟨⟨by omega, rfl⟩, r377, fun y => by have := hB.1 k y; omega, fun y => ?_, fun y => ?_⟩
      · obtain ⟨i', j1, j2⟩ := y
        have e : i' = i := rI_u hO (by rw [j2, i2])
        rw [e] at j1
        refine ⟨by rw [s2 j1]; decide, ?_⟩
        by_cases z : n ≤ k
        · exact Or.inl z
        · right
          have := hB.1 k (by omega)
          omega
      · refine ⟨i, ?_, i2⟩
        by_cases u : unp m a b nx i
        · exact u
        · have := (s3 u).1
          omega
  · obtain ⟨i, i1, i2⟩ := hf
    show B.2.1 376 (rI n m od it) ≤ B.2.1 376 j
    rw [← i2, (hB.2 it itn).1, (hB.2 i (by have := h.1.1; unfold unp at i1; omega)).1]
    exact t2 i i1
  · obtain ⟨i, i1, i2⟩ := hf
    show B.2.1 376 (rI n m od it) < B.2.1 376 j
    rw [← i2] at hj ⊢
    rw [(hB.2 it itn).1, (hB.2 i (by have := h.1.1; unfold unp at i1; omega)).1]
    exact t3 i i1 hj
end PJoinM
