/-! BLOCKS: the two codes of a block are settled, both sides at once -/
section Cod2
variable {q : Nat × (Nat → Int32)} {en : Int}
theorem wI_at (A : ms) (a : Nat) (i v : Int) : (wI A a i v).1 a i = v := if_pos ⟨rfl, rfl⟩
theorem wI_no (A : ms) {a b : Nat} {i k v : Int} (h : ¬ (b = a ∧ k = i)) : (wI A a i v).1 b k = A.1 b k := if_neg h
theorem bc_one {L : Int → Int} {n : Nat} {x3 : Int} (hn : n ≤ 288) : ∀ (m i : Nat) (A : ms), i + m = n → (∀ k : Nat, k < n → A.1 89 k = L k) → (∀ k : Nat, k < i → A.1 54 k = L k) → ∃ A1, EX (fun a _ => a = 54) A A1 ∧ (∀ k : Nat, k < n → A1.1 54 k = L k) ∧ ∀ (r : Option Value) (T : ms), EV q 139 35 [some (.ref 30), some (.ref 9), some (vI n), some (vI x3), some (vI 0)] [] A1 r T → EV q 139 3 [some (.ref 30), some (.ref 9), some (vI n), some (vI x3), some (vI i)] [] A r T := by
  have wn : Unit → w32 ((n : Nat) : Int) = n := fun _ => w32_of (by omega)
  intro m
  induction m with
  | zero =>
    intro i A hi h1 h2
    have e : i = n := by omega
    subst e
    exact ⟨A, EX.refl _ A, h2, fun r T y => vc_Blocks_settleCodes_3 _ _ _ (cY (Int.le_refl _) y)⟩
  | succ m ih =>
    intro i A hi h1 h2
    have wi : Unit → w32 ((i : Nat) : Int) = i := fun _ => w32_of (by omega)
    obtain ⟨A1, g1, g2, g3⟩ := ih (i + 1) (wI A 54 i (L i)) (by omega) (fun k hk => by rw [wI_no _ (by omega)]; exact h1 k hk) (fun k hk => by
      by_cases c : k = i
      · subst c
        exact wI_at _ _ _ _
      · rw [wI_no _ (by omega)]
        exact h2 k (by omega))
    refine ⟨A1, EX.trans (EX.wr (EX.refl _ A) rfl) g1, g2, fun r T y => ?_⟩
    have z := g3 r T y
    rw [show ((i + 1 : Nat) : Int) = (i : Int) + 1 by omega] at z
    refine vc_Blocks_settleCodes_3 _ _ _ ?_
    rw [wn (), wi (), h1 i (by omega)]
    exact cNo (by omega) ⟨by omega, by omega, fun S3 e => by rw [e]; exact z⟩
theorem bc_two {L : Int → Int} {a n : Nat} (ha : a ≤ 286) (hn : n ≤ 30) : ∀ (m i : Nat) (A : ms), i + m = n → (∀ k : Nat, k < a + n → A.1 89 k = L k) → (∀ k : Nat, k < i → A.1 65 k = L (a + k)) → ∃ A1, EX (fun a _ => a = 65) A A1 ∧ (∀ k : Nat, k < n → A1.1 65 k = L (a + k)) ∧ ∀ (r : Option Value) (T : ms), EV q 139 35 [some (.ref 30), some (.ref 9), some (vI a), some (vI n), some (vI n)] [] A1 r T → EV q 139 35 [some (.ref 30), some (.ref 9), some (vI a), some (vI n), some (vI i)] [] A r T := by
  have wn : Unit → w32 ((n : Nat) : Int) = n := fun _ => w32_of (by omega)
  intro m
  induction m with
  | zero =>
    intro i A hi h1 h2
    have e : i = n := by omega
    subst e
    exact ⟨A, EX.refl _ A, h2, fun r T y => y⟩
  | succ m ih =>
    intro i A hi h1 h2
    have wi : Unit → w32 ((i : Nat) : Int) = i := fun _ => w32_of (by omega)
    have wa : Unit → w32 ((a : Int) + i) = (a : Int) + i := fun _ => w32_of (by omega)
    obtain ⟨A1, g1, g2, g3⟩ := ih (i + 1) (wI A 65 i (L (a + i))) (by omega) (fun k hk => by rw [wI_no _ (by omega)]; exact h1 k hk) (fun k hk => by
      by_cases c : k = i
      · subst c
        exact wI_at _ _ _ _
      · rw [wI_no _ (by omega)]
        exact h2 k (by omega))
    refine ⟨A1, EX.trans (EX.wr (EX.refl _ A) rfl) g1, g2, fun r T y => ?_⟩
    have z := g3 r T y
    rw [show ((i + 1 : Nat) : Int) = (i : Int) + 1 by omega] at z
    have e1 : A.1 89 ((a : Int) + i) = L (a + i) := by
      have := h1 (a + i) (by omega)
      rw [show ((a + i : Nat) : Int) = (a : Int) + i by omega] at this
      exact this
    refine vc_Blocks_settleCodes_35 _ _ _ ?_
    rw [wn (), wi (), wa (), e1]
    exact cNo (by omega) ⟨by omega, by omega, fun S3 e => by rw [e]; exact z⟩
theorem mc_one {L : Int → Int} {n : Nat} {x2 x3 x4 : Int} (hn : n ≤ 288) : ∀ (m i : Nat) (A : ms), i + m = n → (∀ k : Nat, k < n → A.1 401 k = L k) → (∀ k : Nat, k < i → A.1 385 k = L k) → ∃ A1, EX (fun a _ => a = 385) A A1 ∧ (∀ k : Nat, k < n → A1.1 385 k = L k) ∧ ∀ (r : Option Value) (T : ms), EV q 346 406 [some (.ref 367), some (vI n), some (vI x2), some (vI x3), some (vI x4), some (vI 0), none, none, none] [] A1 r T → EV q 346 377 [some (.ref 367), some (vI n), some (vI x2), some (vI x3), some (vI x4), some (vI i), none, none, none] [] A r T := by
  have wn : Unit → w32 ((n : Nat) : Int) = n := fun _ => w32_of (by omega)
  intro m
  induction m with
  | zero =>
    intro i A hi h1 h2
    have e : i = n := by omega
    subst e
    exact ⟨A, EX.refl _ A, h2, fun r T y => vc_MD_readOwn_377 _ _ _ _ _ (cY (Int.le_refl _) y)⟩
  | succ m ih =>
    intro i A hi h1 h2
    have wi : Unit → w32 ((i : Nat) : Int) = i := fun _ => w32_of (by omega)
    obtain ⟨A1, g1, g2, g3⟩ := ih (i + 1) (wI A 385 i (L i)) (by omega) (fun k hk => by rw [wI_no _ (by omega)]; exact h1 k hk) (fun k hk => by
      by_cases c : k = i
      · subst c
        exact wI_at _ _ _ _
      · rw [wI_no _ (by omega)]
        exact h2 k (by omega))
    refine ⟨A1, EX.trans (EX.wr (EX.refl _ A) rfl) g1, g2, fun r T y => ?_⟩
    have z := g3 r T y
    rw [show ((i + 1 : Nat) : Int) = (i : Int) + 1 by omega] at z
    refine vc_MD_readOwn_377 _ _ _ _ _ ?_
    rw [wn (), wi (), h1 i (by omega)]
    exact cNo (by omega) ⟨by omega, by omega, fun S3 e => by rw [e]; exact z⟩
theorem mc_two {L : Int → Int} {a n : Nat} {x3 x4 : Int} (ha : a ≤ 286) (hn : n ≤ 30) : ∀ (m i : Nat) (A : ms), i + m = n → (∀ k : Nat, k < a + n → A.1 401 k = L k) → (∀ k : Nat, k < i → A.1 387 k = L (a + k)) → ∃ A1, EX (fun a _ => a = 387) A A1 ∧ (∀ k : Nat, k < n → A1.1 387 k = L (a + k)) ∧ ∀ (r : Option Value) (T : ms), EV q 346 406 [some (.ref 367), some (vI a), some (vI n), some (vI x3), some (vI x4), some (vI n), none, none, none] [] A1 r T → EV q 346 406 [some (.ref 367), some (vI a), some (vI n), some (vI x3), some (vI x4), some (vI i), none, none, none] [] A r T := by
  have wn : Unit → w32 ((n : Nat) : Int) = n := fun _ => w32_of (by omega)
  intro m
  induction m with
  | zero =>
    intro i A hi h1 h2
    have e : i = n := by omega
    subst e
    exact ⟨A, EX.refl _ A, h2, fun r T y => y⟩
  | succ m ih =>
    intro i A hi h1 h2
    have wi : Unit → w32 ((i : Nat) : Int) = i := fun _ => w32_of (by omega)
    have wa : Unit → w32 ((a : Int) + i) = (a : Int) + i := fun _ => w32_of (by omega)
    obtain ⟨A1, g1, g2, g3⟩ := ih (i + 1) (wI A 387 i (L (a + i))) (by omega) (fun k hk => by rw [wI_no _ (by omega)]; exact h1 k hk) (fun k hk => by
      by_cases c : k = i
      · subst c
        exact wI_at _ _ _ _
      · rw [wI_no _ (by omega)]
        exact h2 k (by omega))
    refine ⟨A1, EX.trans (EX.wr (EX.refl _ A) rfl) g1, g2, fun r T y => ?_⟩
    have z := g3 r T y
    rw [show ((i + 1 : Nat) : Int) = (i : Int) + 1 by omega] at z
    have e1 : A.1 401 ((a : Int) + i) = L (a + i) := by
      have := h1 (a + i) (by omega)
      rw [show ((a + i : Nat) : Int) = (a : Int) + i by omega] at this
      exact this
    refine vc_MD_readOwn_406 _ _ _ _ _ ?_
    rw [wn (), wi (), wa (), e1]
    exact cNo (by omega) ⟨by omega, by omega, fun S3 e => by rw [e]; exact z⟩
end Cod2
