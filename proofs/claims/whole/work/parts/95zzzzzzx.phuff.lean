/-! pack: own codes; a pop, and a join, the class -/
section PJoin
variable {q : Nat × (Nat → Int32)}
/-- what is there weighs Z in all -/
def HT (m a b nx : Nat) (W : Nat → Int) (Z : Int) : Prop := (sm W m - sm W a) + (sm W nx - sm W b) = Z
/-- the least is it; then a', b' -/
def Pop (m a b nx : Nat) (W : Nat → Int) (it a' b' : Nat) : Prop := (hqL m a b nx W ∧ it = a ∧ a' = a + 1 ∧ b' = b) ∨ (¬ hqL m a b nx W ∧ it = b ∧ a' = a ∧ b' = b + 1)
theorem sm_1 (u : Nat → Int) (n : Nat) : sm u (n + 1) = sm u n + u n := rfl
theorem HT_le {m a b nx : Nat} {W : Nat → Int} {H : Nat → Nat} {L Z : Int} (h : HQ m a b nx W H L) (hT : HT m a b nx W Z) {i : Nat} (hi : (a ≤ i ∧ i < m) ∨ (b ≤ i ∧ i < nx)) : W i ≤ Z := by
  have ps : ∀ k : Nat, k < nx → 0 ≤ W k := fun k hk => by have := (h.2.2 k hk).1; omega
  have r := h.1.1
  have a1 := sm_mono (u := W) (n := m) (fun k hk => ps k (by omega)) (j := a) r.1
  have b1 := sm_mono (u := W) (n := nx) ps (j := b) r.2.2
  unfold HT at hT
  rcases hi with hi | hi
  · have c1 := sm_mono (u := W) (n := m) (fun k hk => ps k (by omega)) (j := i + 1) (by omega)
    have c2 := sm_mono (u := W) (n := i) (fun k hk => ps k (by omega)) (j := a) hi.1
    rw [sm_1] at c1
    omega
  · have c1 := sm_mono (u := W) (n := nx) ps (j := i + 1) (by omega)
    have c2 := sm_mono (u := W) (n := i) (fun k hk => ps k (by omega)) (j := b) hi.1
    rw [sm_1] at c1
    omega
theorem pop_ex {m a b nx : Nat} {W : Nat → Int} {H : Nat → Nat} {L Z : Int} (h : HQ m a b nx W H L) (hT : HT m a b nx W Z) (hn : a < m ∨ b < nx) : ∃ it a' b' : Nat, Pop m a b nx W it a' b' ∧ (a' + b' = a + b + 1 ∧ it < nx ∧ ((a ≤ it ∧ it < m) ∨ (b ≤ it ∧ it < nx))) ∧ L ≤ W it ∧ HQ m a' b' nx W H (W it) ∧ HT m a' b' nx W (Z - W it) := by
  have p := hq_pop h hn
  have r := h.1.1
  by_cases c : hqL m a b nx W
  · obtain ⟨p1, p2, p3, p4⟩ := p.1 c
    refine ⟨a, a + 1, b, Or.inl ⟨c, rfl, rfl, rfl⟩, ⟨by omega, by omega, Or.inl ⟨Nat.le_refl _, p1⟩⟩, p3, p4, ?_⟩
    unfold HT at hT ⊢
    rw [sm_1]
    omega
  · obtain ⟨p1, p2, p3, p4, p5⟩ := p.2 c
    refine ⟨b, a, b + 1, Or.inr ⟨c, rfl, rfl, rfl⟩, ⟨by omega, p1, Or.inr ⟨Nat.le_refl _, p1⟩⟩, p4, p5, ?_⟩
    unfold HT at hT ⊢
    rw [sm_1]
    omega
/-- the class pops -/
theorem cl_pop {A : ms} {cd m a b nx it a' b' : Nat} {W : Nat → Int} {k y : Int} (hc : isCode cd) (hm : m ≤ 288 ∧ m ≤ nx ∧ nx < 2 * m ∧ a ≤ m ∧ m ≤ b ∧ b ≤ nx) (hk : 0 ≤ k ∧ k < 2) (hW : ∀ i : Nat, i < nx → (0 ≤ W i ∧ W i < 100000000) ∧ A.1 (cd + 9) i = W i) (hy : A.1 (cd + 9) nx = y) (hP : Pop m a b nx W it a' b') (hit : it < nx) : ∀ (R : Option Value) (T : ms), EV q 72 58 [some (.ref cd), some (vI m), some (vI a'), some (vI b'), some (vI nx), some (vI (k + 1)), none, none] [] (wI (wI A (cd + 10) it nx) (cd + 9) nx (y + W it)) R T → EV q 72 58 [some (.ref cd), some (vI m), some (vI a), some (vI b), some (vI nx), some (vI k), none, none] [] A R T := by
  intro R T kk
  have wm : Unit → w32 (m : Int) = m := fun _ => w32_of (by omega)
  have wa : Unit → w32 (a : Int) = a := fun _ => w32_of (by omega)
  have wb : Unit → w32 (b : Int) = b := fun _ => w32_of (by omega)
  have wn : Unit → w32 (nx : Int) = nx := fun _ => w32_of (by omega)
  have wi : Unit → w32 (it : Int) = it := fun _ => w32_of (by omega)
  have k113 : ∀ (x2 x3 x6 : Int), x2 = a' → x3 = b' → EV q 72 113 [some (.ref cd), some (vI m), some (vI x2), some (vI x3), some (vI nx), some (vI k), some (vI x6), none] [vI it] A R T := fun x2 x3 x6 e2 e3 => by
    refine vc_Code_joinAll_113 _ _ _ _ _ _ _ _ hc ?_
    rw [wi (), wn ()]
    refine ⟨by omega, fun S2 q2 => ⟨by omega, by omega, by omega, fun S6 q6 => ?_⟩⟩
    have e9 : S2.1 (cd + 9) nx = y := by rw [q2, wI_no _ (by omega)]; exact hy
    have ei : S2.1 (cd + 9) it = W it := by rw [q2, wI_no _ (by omega)]; exact (hW it hit).2
    rw [e9, ei, q2] at q6
    rw [q6, e2, e3]
    exact kk
  refine vc_Code_joinAll_58 _ _ _ _ _ _ hc ?_
  rw [w32_of (x := k) (by omega), wm (), wa (), wb (), wn ()]
  refine cNo (by omega) ?_
  rcases hP with ⟨⟨p1, p2⟩, e1, e2, e3⟩ | ⟨p1, e1, e2, e3⟩
  · have k90 : EV q 72 90 [some (.ref cd), some (vI m), some (vI a), some (vI b), some (vI nx), some (vI k), none, none] [] A R T := by
      have := k113 ((a : Int) + 1) b 1 (by omega) (by omega)
      rw [e1] at this
      exact vc_Code_joinAll_90 _ _ _ _ _ _ hc (vc_Code_joinAll_95 _ _ _ _ _ _ _ hc (cNo (by decide) this))
    refine cNo (by omega) ?_
    by_cases c : (nx : Int) ≤ b
    · exact cY c k90
    · have wl := hW a (by omega)
      have wj := hW b (by omega)
      rw [wl.2, wj.2, w32_of (x := W a) (by omega), w32_of (x := W b) (by omega)]
      refine cNo c ⟨by omega, by omega, cNo ?_ k90⟩
      rcases p2 with z | z
      · omega
      · omega
  · have k94 : EV q 72 94 [some (.ref cd), some (vI m), some (vI a), some (vI b), some (vI nx), some (vI k), none, none] [] A R T := by
      have := k113 a ((b : Int) + 1) 0 (by omega) (by omega)
      rw [e1] at this
      exact vc_Code_joinAll_94 _ _ _ _ _ _ hc (vc_Code_joinAll_95 _ _ _ _ _ _ _ hc (cY (by decide) this))
    by_cases c0 : (m : Int) ≤ a
    · exact cY c0 k94
    · refine cNo c0 ?_
      have bn : b < nx := by
        by_cases z : b < nx
        · exact z
        · exact absurd ⟨by omega, Or.inl (by omega)⟩ p1
      have wl := hW a (by omega)
      have wj := hW b bn
      rw [wl.2, wj.2, w32_of (x := W a) (by omega), w32_of (x := W b) (by omega)]
      refine cNo (by omega) ⟨by omega, by omega, cY ?_ k94⟩
      by_cases z : W a ≤ W b
      · exact absurd ⟨by omega, Or.inr z⟩ p1
      · omega
end PJoin
