/-! BLOCKS: the reference's tables -/
section Tab
variable {q : Nat × (Nat → Int32)} {en : Int}
def xs1 (i : Nat) : Int := if i < 28 then sS 0 (i : Int) else 259
def xs2 (i : Nat) : Int := if i < 30 then sS 4 (i : Int) else 32769
theorem xs1_s {i : Nat} (h : i < 28) : xs1 i = sS 0 (i : Int) ∧ xs1 i + (1 * ((2 : Int) ^ ((sS 1 (i : Int)) % 32).toNat)) = xs1 (i + 1) ∧ (8 ≤ (i : Int) → Int.tdiv (w32 ((i : Int) - 4)) (w32 4) = sS 1 (i : Int)) ∧ (¬ 8 ≤ (i : Int) → 0 = sS 1 (i : Int)) := by
  have k : ∀ i : Fin 28, xs1 i.val = sS 0 (i.val : Int) ∧ xs1 i.val + (1 * ((2 : Int) ^ ((sS 1 (i.val : Int)) % 32).toNat)) = xs1 (i.val + 1) ∧ (8 ≤ (i.val : Int) → Int.tdiv (w32 ((i.val : Int) - 4)) (w32 4) = sS 1 (i.val : Int)) ∧ (¬ 8 ≤ (i.val : Int) → 0 = sS 1 (i.val : Int)) := by decide
  exact k ⟨i, h⟩
theorem xs2_s {i : Nat} (h : i < 30) : xs2 i = sS 4 (i : Int) ∧ xs2 i + (1 * ((2 : Int) ^ ((sS 5 (i : Int)) % 32).toNat)) = xs2 (i + 1) ∧ (4 ≤ (i : Int) → Int.tdiv (w32 ((i : Int) - 2)) (w32 2) = sS 5 (i : Int)) ∧ (¬ 4 ≤ (i : Int) → 0 = sS 5 (i : Int)) := by
  have k : ∀ i : Fin 30, xs2 i.val = sS 4 (i.val : Int) ∧ xs2 i.val + (1 * ((2 : Int) ^ ((sS 5 (i.val : Int)) % 32).toNat)) = xs2 (i.val + 1) ∧ (4 ≤ (i.val : Int) → Int.tdiv (w32 ((i.val : Int) - 2)) (w32 2) = sS 5 (i.val : Int)) ∧ (¬ 4 ≤ (i.val : Int) → 0 = sS 5 (i.val : Int)) := by decide
  exact k ⟨i, h⟩
theorem pr1 : ∀ (m i : Nat) (B : ms), i + m = 28 → (∀ s : Nat, s < i → B.1 391 s = sS 0 s ∧ B.1 392 s = sS 1 s) → B.1 392 28 = 0 → ∃ B1, EX (fun a _ => 391 ≤ a ∧ a ≤ 392) B B1 ∧ (∀ s : Nat, s < 28 → B1.1 391 s = sS 0 s ∧ B1.1 392 s = sS 1 s) ∧ B1.1 392 28 = 0 ∧ ∀ (r : Option Value) (T : ms), EV q 290 17 [some (.ref 367), some (vI (xs1 28)), some (vI 28)] [] B1 r T → EV q 290 17 [some (.ref 367), some (vI (xs1 i)), some (vI i)] [] B r T := by
  intro m
  induction m with
  | zero =>
    intro i B hi h h28
    have e : i = 28 := by omega
    subst e
    exact ⟨B, EX.refl _ B, h, h28, fun r T y => y⟩
  | succ m ih =>
    intro i B hi h h28
    have wi : Unit → w32 ((i : Nat) : Int) = i := fun _ => w32_of (by omega)
    obtain ⟨x1, x2, x3, x4⟩ := xs1_s (i := i) (by omega)
    have q4 : ∀ (a : Nat) (k : Int), (wI (wI B 392 i (sS 1 i)) 391 i (xs1 i)).1 a k = if a = 391 ∧ k = i then xs1 i else if a = 392 ∧ k = i then sS 1 i else B.1 a k := fun _ _ => rfl
    obtain ⟨B1, g1, g2, g3, g4⟩ := ih (i + 1) (wI (wI B 392 i (sS 1 i)) 391 i (xs1 i)) (by omega) (fun s hs => by
      rw [q4, q4]
      by_cases d : s = i
      · subst d
        rw [if_pos ⟨rfl, rfl⟩, if_neg (by omega), if_pos ⟨rfl, rfl⟩]
        exact ⟨x1, rfl⟩
      · rw [if_neg (by omega), if_neg (by omega), if_neg (by omega), if_neg (by omega)]
        exact h s (by omega)) (by rw [q4, if_neg (by omega), if_neg (by omega)]; exact h28)
    refine ⟨B1, EX.trans (EX.wr (EX.wr (EX.refl _ B) (by decide)) (by decide)) g1, g2, g3, fun r T y => ?_⟩
    have zz := g4 r T y
    rw [show ((i + 1 : Nat) : Int) = (i : Int) + 1 by omega, ← x2] at zz
    have k43 : EV q 290 43 [some (.ref 367), some (vI (xs1 i)), some (vI i)] [vI (sS 1 i), vI i, .ref 392] B r T := by
      refine vc_MD_prepare_43 _ _ _ _ ?_
      rw [wi ()]
      refine ⟨by omega, fun S2 e2 => ⟨by omega, fun S4 e4 => ⟨by omega, ?_⟩⟩⟩
      rw [e4, e2, q4, if_neg (by omega), if_pos ⟨rfl, rfl⟩]
      exact zz
    refine vc_MD_prepare_17 _ _ ?_
    rw [wi ()]
    refine cNo (by omega) ⟨fun d => ?_, fun d => ?_⟩
    · rw [x3 d]; exact k43
    · rw [← x4 d] at k43; exact k43
theorem pr2 : ∀ (m i : Nat) (B : ms), i + m = 30 → (∀ s : Nat, s < i → B.1 393 s = sS 4 s ∧ B.1 394 s = sS 5 s) → ∃ B1, EX (fun a _ => 393 ≤ a ∧ a ≤ 394) B B1 ∧ (∀ s : Nat, s < 30 → B1.1 393 s = sS 4 s ∧ B1.1 394 s = sS 5 s) ∧ EV q 290 82 [some (.ref 367), some (vI (xs2 i)), some (vI i)] [] B none B1 := by
  intro m
  induction m with
  | zero =>
    intro i B hi h
    have e : i = 30 := by omega
    subst e
    exact ⟨B, EX.refl _ B, h, vc_MD_prepare_82 _ _ (cY (by decide) ⟨rfl, rfl⟩)⟩
  | succ m ih =>
    intro i B hi h
    have wi : Unit → w32 ((i : Nat) : Int) = i := fun _ => w32_of (by omega)
    obtain ⟨x1, x2, x3, x4⟩ := xs2_s (i := i) (by omega)
    have q4 : ∀ (a : Nat) (k : Int), (wI (wI B 394 i (sS 5 i)) 393 i (xs2 i)).1 a k = if a = 393 ∧ k = i then xs2 i else if a = 394 ∧ k = i then sS 5 i else B.1 a k := fun _ _ => rfl
    obtain ⟨B1, g1, g2, g4⟩ := ih (i + 1) (wI (wI B 394 i (sS 5 i)) 393 i (xs2 i)) (by omega) (fun s hs => by
      rw [q4, q4]
      by_cases d : s = i
      · subst d
        rw [if_pos ⟨rfl, rfl⟩, if_neg (by omega), if_pos ⟨rfl, rfl⟩]
        exact ⟨x1, rfl⟩
      · rw [if_neg (by omega), if_neg (by omega), if_neg (by omega), if_neg (by omega)]
        exact h s (by omega))
    refine ⟨B1, EX.trans (EX.wr (EX.wr (EX.refl _ B) (by decide)) (by decide)) g1, g2, ?_⟩
    rw [show ((i + 1 : Nat) : Int) = (i : Int) + 1 by omega, ← x2] at g4
    have k43 : EV q 290 107 [some (.ref 367), some (vI (xs2 i)), some (vI i)] [vI (sS 5 i), vI i, .ref 394] B none B1 := by
      refine vc_MD_prepare_107 _ _ _ _ ?_
      rw [wi ()]
      refine ⟨by omega, fun S2 e2 => ⟨by omega, fun S4 e4 => ⟨by omega, ?_⟩⟩⟩
      rw [e4, e2, q4, if_neg (by omega), if_pos ⟨rfl, rfl⟩]
      exact g4
    refine vc_MD_prepare_82 _ _ ?_
    rw [wi ()]
    refine cNo (by omega) ⟨fun d => ?_, fun d => ?_⟩
    · rw [x3 d]; exact k43
    · rw [← x4 d] at k43; exact k43
/-- the tables are made once; 'made' is told at 367 45 -/
def TbK (B : ms) : Prop := B.1 392 28 = 0 ∧ (B.1 367 45 = 0 ∨ (B.1 367 45 = 1 ∧ TbM B))
def XTb (a : Nat) (k : Int) : Prop := (391 ≤ a ∧ a ≤ 394) ∨ (a = 367 ∧ k = 45)
theorem md_prep {B : ms} (h : TbK B) : ∃ B1, EX XTb B B1 ∧ EV q 290 0 [some (.ref 367), none, none] [] B none B1 ∧ TbM B1 ∧ TbK B1 := by
  obtain ⟨h28, h45⟩ := h
  rcases h45 with y | ⟨y, hT⟩
  · obtain ⟨B1, a1, a2, a3, a4⟩ := pr1 (q := q) 28 0 (wI B 367 45 1) (by decide) (fun s hs => absurd hs (by omega)) (by rw [wI_no _ (by omega)]; exact h28)
    obtain ⟨B2, b1, b2, b3⟩ := pr2 (q := q) 30 0 (wI B1 391 28 258) (by decide) (fun s hs => absurd hs (by omega))
    have w28 : w32 28 = 28 := by decide
    have k17 : EV q 290 17 [some (.ref 367), some (vI (xs1 28)), some (vI 28)] [] B1 none B2 := by
      refine vc_MD_prepare_17 _ _ (cY (by decide) ⟨by decide, fun S2 e2 => ?_⟩)
      rw [e2, w28]
      exact b3
    have kx := a4 none B2 k17
    have hT : TbM B2 := by
      refine ⟨fun s s0 s1 => ?_, fun s s0 s1 => ?_⟩
      · rw [b1.2 391 s (show ¬ (393 ≤ 391 ∧ 391 ≤ 394) by decide), b1.2 392 s (show ¬ (393 ≤ 392 ∧ 392 ≤ 394) by decide)]
        by_cases d : s = 28
        · subst d
          rw [wI_at, wI_no _ (by omega), a3]
          exact ⟨by decide, by decide⟩
        · rw [wI_no _ (by omega), wI_no _ (by omega)]
          obtain ⟨j, ej⟩ : ∃ j : Nat, s = j := ⟨s.toNat, by omega⟩
          subst ej
          exact a2 j (by omega)
      · obtain ⟨j, ej⟩ : ∃ j : Nat, s = j := ⟨s.toNat, by omega⟩
        subst ej
        exact b2 j (by omega)
    have w45 : w32 (0 : Int) = 0 := by decide
    have ex : EX XTb B B2 := EX.trans (EX.wr (EX.refl _ B) (Or.inr ⟨rfl, rfl⟩)) (EX.trans (EX.mono a1 (fun a k y => by unfold XTb; omega)) (EX.trans (EX.wr (EX.refl _ B1) (Or.inl (by decide))) (EX.mono b1 (fun a k y => by unfold XTb; omega))))
    have e45 : B2.1 367 45 = 1 := by
      rw [b1.2 367 45 (show ¬ (393 ≤ 367 ∧ 367 ≤ 394) by decide), wI_no _ (by omega), a1.2 367 45 (show ¬ (391 ≤ 367 ∧ 367 ≤ 392) by decide)]
      exact wI_at _ _ _ _
    have e28 : B2.1 392 28 = 0 := by
      rw [b1.2 392 28 (show ¬ (393 ≤ 392 ∧ 392 ≤ 394) by decide), wI_no _ (by omega)]
      exact a3
    refine ⟨B2, ex, vc_MD_prepare ?_, hT, e28, Or.inr ⟨e45, hT⟩⟩
    rw [y]
    exact cY (by decide) (fun S1 e1 => by rw [e1]; exact kx)
  · refine ⟨B, EX.refl _ B, vc_MD_prepare ?_, hT, h28, Or.inr ⟨y, hT⟩⟩
    rw [y]
    exact cNo (by decide) ⟨rfl, rfl⟩
end Tab
