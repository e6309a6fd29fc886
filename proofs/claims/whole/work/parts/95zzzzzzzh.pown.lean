/-! pack: own blocks; the tally -/
section PTal
variable {q : Nat × (Nat → Int32)} {x : Int} {t : Int → Int} {T : Int → Int × Int × Int} {K fr to : Nat}
/-- the first symbol of a token -/
def tkS (t : Int → Int) (T : Int × Int × Int) : Int := if T.2.1 = 0 then t T.2.2 else 257 + lsF T.1
def tyC (t : Int → Int) (T : Int → Int × Int × Int) (fr : Nat) : Nat → Int → Int
  | 0, _ => 0
  | v + 1, s => tyC t T fr v s + if s = tkS t (T ((fr + v : Nat) : Int)) then 1 else 0
def tyD (T : Int → Int × Int × Int) (fr : Nat) : Nat → Int → Int
  | 0, _ => 0
  | v + 1, s => tyD T fr v s + if (T ((fr + v : Nat) : Int)).2.1 ≠ 0 ∧ s = dsF (T ((fr + v : Nat) : Int)).2.1 then 1 else 0
theorem tyC_s (t : Int → Int) (T : Int → Int × Int × Int) (fr v : Nat) (s : Int) : tyC t T fr (v + 1) s = tyC t T fr v s + if s = tkS t (T ((fr + v : Nat) : Int)) then 1 else 0 := rfl
theorem tyD_s (T : Int → Int × Int × Int) (fr v : Nat) (s : Int) : tyD T fr (v + 1) s = tyD T fr v s + if (T ((fr + v : Nat) : Int)).2.1 ≠ 0 ∧ s = dsF (T ((fr + v : Nat) : Int)).2.1 then 1 else 0 := rfl
theorem tyC_r (t : Int → Int) (T : Int → Int × Int × Int) (fr : Nat) (s : Int) : ∀ v : Nat, 0 ≤ tyC t T fr v s ∧ tyC t T fr v s ≤ v
  | 0 => ⟨Int.le_refl _, Int.le_refl _⟩
  | v + 1 => by
    have := tyC_r t T fr s v
    rw [tyC_s]
    split <;> omega
theorem tyD_r (T : Int → Int × Int × Int) (fr : Nat) (s : Int) : ∀ v : Nat, 0 ≤ tyD T fr v s ∧ tyD T fr v s ≤ v
  | 0 => ⟨Int.le_refl _, Int.le_refl _⟩
  | v + 1 => by
    have := tyD_r T fr s v
    rw [tyD_s]
    split <;> omega
theorem tkS_r {T : Int × Int × Int} (ht : ∀ k : Int, 0 ≤ k → k < x → 0 ≤ t k ∧ t k < 256) (h : tkV x T) : 0 ≤ tkS t T ∧ tkS t T < 286 ∧ tkS t T ≠ 256 := by
  unfold tkS
  rcases h with ⟨h1, h2, h3⟩ | ⟨h1, h2, h3⟩
  · rw [if_pos h1]
    have := ht T.2.2 h2 h3
    omega
  · rw [if_neg (by omega)]
    have := (lsF_p ⟨h2, h3⟩).1
    omega
theorem tyC_6 (ht : ∀ k : Int, 0 ≤ k → k < x → 0 ≤ t k ∧ t k < 256) (hV : ∀ k : Nat, k < K → tkV x (T k)) : ∀ v : Nat, fr + v ≤ K → tyC t T fr v 256 = 0
  | 0, _ => rfl
  | v + 1, h => by
    rw [tyC_s, tyC_6 ht hV v (by omega), if_neg (fun y => (tkS_r ht (hV (fr + v) (by omega))).2.2 y.symm)]
    rfl
theorem cl_tal {a1 : Nat} (hK : K ≤ 6000 ∧ to ≤ K) (hx : 0 ≤ x ∧ x ≤ 6000) (ht : ∀ k : Int, 0 ≤ k → k < x → 0 ≤ t k ∧ t k < 256) (hV : ∀ k : Nat, k < K → tkV x (T k)) : ∀ (w v : Nat) (A : ms), fr + v + w = to → (∀ s : Int, 0 ≤ s → s < 286 → A.1 86 s = tyC t T fr v s) → (∀ s : Int, 0 ≤ s → s < 30 → A.1 87 s = tyD T fr v s) → TXr A a1 x t → CTk A T K → (∀ k : Int, 3 ≤ k → k ≤ 258 → A.1 92 k = 257 + lsF k) → ∃ A', EX (fun a _ => a = 86 ∨ a = 87) A A' ∧ (∀ s : Int, 0 ≤ s → s < 286 → A'.1 86 s = tyC t T fr (to - fr) s + if s = 256 then 1 else 0) ∧ (∀ s : Int, 0 ≤ s → s < 30 → A'.1 87 s = tyD T fr (to - fr) s) ∧ EV q 69 19 [some (.ref 30), some (.ref a1), some (vI fr), some (vI to), some (vI ((fr + v : Nat) : Int))] [] A none A' := by
  have wt : Unit → w32 (to : Int) = to := fun _ => w32_of (by omega)
  intro w
  induction w with
  | zero =>
    intro v A hv h6 h7 hA hT h92
    have ev : to - fr = v := by omega
    have et : fr + v = to := by omega
    rw [ev, et]
    refine ⟨wI A 86 256 1, (EX.refl _ A).wr (Or.inl rfl), fun s s0 s1 => ?_, fun s s0 s1 => by rw [wI_no _ (by omega)]; exact h7 s s0 s1, vc_Blocks_tallyTokens_19 _ _ _ _ _ hA.1.1 ?_⟩
    · by_cases e : s = 256
      · rw [e, wI_at, if_pos rfl, tyC_6 ht hV v (by omega)]
        rfl
      · rw [wI_no _ (fun z => e z.2), if_neg e, h6 s s0 s1]
        omega
    · rw [show w32 256 = 256 by decide]
      exact cY (Int.le_refl _) ⟨by decide, fun S2 q2 => ⟨rfl, q2.symm⟩⟩
  | succ w ih =>
    intro v A hv h6 h7 hA hT h92
    obtain ⟨k, ek⟩ : ∃ k, k = fr + v := ⟨_, rfl⟩
    have kK : k < K := by omega
    have wk : Unit → w32 (k : Int) = k := fun _ => w32_of (by omega)
    have kb : 0 ≤ (k : Int) ∧ (k : Int) < (6000 : Nat) := by omega
    obtain ⟨t1, t2, t3⟩ := hT.2 k (by omega) (by omega)
    have sr := tkS_r ht (hV k kK)
    have st6 : ∀ A' : ms, A'.1 86 (tkS t (T k)) = A.1 86 (tkS t (T k)) + 1 → (∀ s : Int, s ≠ tkS t (T k) → A'.1 86 s = A.1 86 s) → ∀ s : Int, 0 ≤ s → s < 286 → A'.1 86 s = tyC t T fr (v + 1) s := fun A' y1 y2 s s0 s1 => by
      rw [tyC_s, ← ek]
      by_cases e : s = tkS t (T k)
      · rw [if_pos e, e, y1, h6 _ sr.1 sr.2.1]
      · rw [if_neg e, y2 s e, h6 s s0 s1]
        omega
    rw [← ek]
    rcases hV k kK with ⟨v1, v2, v3⟩ | ⟨⟨v1, v2⟩, v3, v4⟩
    · have tp := ht (T k).2.2 v2 v3
      have es : tkS t (T k) = t (T k).2.2 := by unfold tkS; rw [if_pos v1]
      rw [es] at st6
      obtain ⟨A1, e1⟩ : ∃ A1, A1 = wI A 86 (t (T k).2.2) (A.1 86 (t (T k).2.2) + 1) := ⟨_, rfl⟩
      obtain ⟨A', g1, g2, g3, g4⟩ := ih (v + 1) A1 (by omega) (st6 A1 (by rw [e1, wI_at]) (fun s hs => by rw [e1, wI_no _ (fun z => hs z.2)])) (fun s s0 s1 => by
        rw [e1, wI_no _ (by omega), h7 s s0 s1, tyD_s, ← ek, if_neg (fun z => z.1 v1)]
        omega) ⟨hA.1, by rw [e1, wI_no _ (by have := hA.1.2; omega)]; exact hA.2.1, fun k k0 k1 => by rw [e1, wI_no _ (by have := hA.1.2; omega)]; exact hA.2.2 k k0 k1⟩ (CTk_e hT (fun a k y => by unfold XTc at y; rw [e1, wI_no _ (by omega)])) (fun k k0 k1 => by rw [e1, wI_no _ (by omega)]; exact h92 k k0 k1)
      refine ⟨A', EX.trans (by rw [e1]; exact (EX.refl _ A).wr (Or.inl rfl)) g1, g2, g3, vc_Blocks_tallyTokens_19 _ _ _ _ _ hA.1.1 ?_⟩
      rw [wt (), wk (), t2, v1, t3, w32_of (x := (T k).2.2) (by omega), (hA.2.2 (T k).2.2 v2 v3).2, w32_of (x := t (T k).2.2) (by omega)]
      refine cNo (by omega) ⟨kb, cNo (by decide) ⟨kb, by omega, by omega, by omega, fun S20 q20 => vc_Blocks_tallyTokens_111 _ _ _ _ _ hA.1.1 ?_⟩⟩
      rw [q20, ← e1, show (k : Int) + 1 = ((fr + (v + 1) : Nat) : Int) by omega]
      exact g4
    · have lp := lsF_p ⟨v3, v4⟩
      have dp := dsF_r v1
      have g0 : (T k).2.1 ≠ 0 := by omega
      have es : tkS t (T k) = 257 + lsF (T k).1 := by unfold tkS; rw [if_neg g0]
      rw [es] at st6
      obtain ⟨L, eL⟩ : ∃ L, L = lsF (T k).1 := ⟨_, rfl⟩
      obtain ⟨D, eD⟩ : ∃ D, D = dsF (T k).2.1 := ⟨_, rfl⟩
      have h92' := h92 (T k).1 v3 v4
      rw [← eL] at lp st6 h92'
      rw [← eD] at dp
      obtain ⟨A1, e1⟩ : ∃ A1, A1 = wI A 86 (257 + L) (A.1 86 (257 + L) + 1) := ⟨_, rfl⟩
      obtain ⟨A2, e2⟩ : ∃ A2, A2 = wI A1 87 D (A1.1 87 D + 1) := ⟨_, rfl⟩
      have a17 : ∀ s : Int, A1.1 87 s = A.1 87 s := fun s => by rw [e1, wI_no _ (by omega)]
      obtain ⟨A', g1, g2, g3, g4⟩ := ih (v + 1) A2 (by omega) (st6 A2 (by rw [e2, wI_no _ (by omega), e1, wI_at]) (fun s hs => by rw [e2, wI_no _ (by omega), e1, wI_no _ (fun z => hs z.2)])) (fun s s0 s1 => by
        rw [tyD_s, ← ek, ← eD]
        by_cases e : s = D
        · rw [if_pos ⟨g0, e⟩, e, e2, wI_at, a17, h7 D dp.1.1 dp.1.2]
        · rw [if_neg (fun z => e z.2), e2, wI_no _ (fun z => e z.2), a17, h7 s s0 s1]
          omega) ⟨hA.1, by rw [e2, wI_no _ (by have := hA.1.2; omega), e1, wI_no _ (by have := hA.1.2; omega)]; exact hA.2.1, fun k k0 k1 => by rw [e2, wI_no _ (by have := hA.1.2; omega), e1, wI_no _ (by have := hA.1.2; omega)]; exact hA.2.2 k k0 k1⟩ (CTk_e hT (fun a k y => by unfold XTc at y; rw [e2, wI_no _ (by omega), e1, wI_no _ (by omega)])) (fun k k0 k1 => by rw [e2, wI_no _ (by omega), e1, wI_no _ (by omega)]; exact h92 k k0 k1)
      have kg := cl_gap (q := q) (A := A1) (g := (T k).2.1) (by omega)
      rw [← eD] at kg
      refine ⟨A', EX.trans (by rw [e2, e1]; exact ((EX.refl _ A).wr (Or.inl rfl)).wr (Or.inr rfl)) g1, g2, g3, vc_Blocks_tallyTokens_19 _ _ _ _ _ hA.1.1 ?_⟩
      rw [wt (), wk (), t2, t1, w32_of (x := (T k).2.1) (by omega), w32_of (x := (T k).1) (by omega), h92', w32_of (x := 257 + L) (by omega)]
      refine cNo (by omega) ⟨kb, cY g0 ⟨kb, by omega, by omega, by omega, fun S8 q8 => ?_⟩⟩
      rw [← e1] at q8
      rw [q8]
      refine ⟨kb, D, A1, by rw [e1, wI_no _ (by omega), t2, ← e1]; exact kg, ?_⟩
      rw [w32_of (x := D) (by omega)]
      refine ⟨by omega, by omega, fun S15 q15 => vc_Blocks_tallyTokens_111 _ _ _ _ _ hA.1.1 ?_⟩
      rw [q15, ← e2, show (k : Int) + 1 = ((fr + (v + 1) : Nat) : Int) by omega]
      exact g4
theorem md_tl0 {x1 x2 : Int} : ∀ (v s : Nat) (B : ms), s + v = 288 → (∀ k : Int, 0 ≤ k → k < s → B.1 398 k = if k = 256 then 1 else 0) → ∃ B', EX (fun a _ => a = 398) B B' ∧ (∀ k : Int, 0 ≤ k → k < 288 → B'.1 398 k = if k = 256 then 1 else 0) ∧ ∀ (R : Option Value) (S' : ms), EV q 296 35 [some (.ref 367), some (vI x1), some (vI x2), some (vI 0), none, none, none, none, none, none, none] [] B' R S' → EV q 296 2 [some (.ref 367), some (vI x1), some (vI x2), some (vI s), none, none, none, none, none, none, none] [] B R S' := by
  intro v
  induction v with
  | zero =>
    intro s B hs h
    have e : s = 288 := by omega
    subst e
    exact ⟨B, EX.refl _ B, fun k k0 k1 => h k k0 (by omega), fun R S' k => vc_MD_writeOwn_2 _ _ _ (cY (by decide) k)⟩
  | succ v ih =>
    intro s B hs h
    have ws : Unit → w32 (s : Int) = s := fun _ => w32_of (by omega)
    obtain ⟨B', g1, g2, g3⟩ := ih (s + 1) (wI B 398 s (if (s : Int) = 256 then 1 else 0)) (by omega) (fun k k0 k1 => by
      by_cases e : k = s
      · rw [e, wI_at]
      · rw [wI_no _ (by omega)]
        exact h k k0 (by omega))
    refine ⟨B', ((EX.refl _ B).wr rfl).trans g1, g2, fun R S' k => vc_MD_writeOwn_2 _ _ _ ?_⟩
    have g4 := g3 R S' k
    rw [show ((s + 1 : Nat) : Int) = (s : Int) + 1 by omega] at g4
    rw [ws ()]
    refine cNo (by omega) ?_
    by_cases d : (s : Int) = 256
    · rw [if_pos d] at g4
      refine cNo (fun z => z d) (vc_MD_writeOwn_26 _ _ _ _ _ ?_)
      rw [ws ()]
      exact ⟨by omega, fun S2 q2 => by rw [q2]; exact g4⟩
    · rw [if_neg d] at g4
      refine cY d (vc_MD_writeOwn_26 _ _ _ _ _ ?_)
      rw [ws ()]
      exact ⟨by omega, fun S2 q2 => by rw [q2]; exact g4⟩
theorem md_tl1 {x1 x2 : Int} : ∀ (v s : Nat) (B : ms), s + v = 32 → (∀ k : Int, 0 ≤ k → k < s → B.1 399 k = 0) → ∃ B', EX (fun a _ => a = 399) B B' ∧ (∀ k : Int, 0 ≤ k → k < 32 → B'.1 399 k = 0) ∧ ∀ (R : Option Value) (S' : ms), EV q 296 56 [some (.ref 367), some (vI x1), some (vI x2), some (vI x1), none, none, none, none, none, none, none] [] B' R S' → EV q 296 35 [some (.ref 367), some (vI x1), some (vI x2), some (vI s), none, none, none, none, none, none, none] [] B R S' := by
  intro v
  induction v with
  | zero =>
    intro s B hs h
    have e : s = 32 := by omega
    subst e
    exact ⟨B, EX.refl _ B, fun k k0 k1 => h k k0 (by omega), fun R S' k => vc_MD_writeOwn_35 _ _ _ (cY (by decide) k)⟩
  | succ v ih =>
    intro s B hs h
    have ws : Unit → w32 (s : Int) = s := fun _ => w32_of (by omega)
    obtain ⟨B', g1, g2, g3⟩ := ih (s + 1) (wI B 399 s 0) (by omega) (fun k k0 k1 => by
      by_cases e : k = s
      · rw [e, wI_at]
      · rw [wI_no _ (by omega)]
        exact h k k0 (by omega))
    refine ⟨B', ((EX.refl _ B).wr rfl).trans g1, g2, fun R S' k => vc_MD_writeOwn_35 _ _ _ ?_⟩
    have g4 := g3 R S' k
    rw [show ((s + 1 : Nat) : Int) = (s : Int) + 1 by omega] at g4
    rw [ws ()]
    exact cNo (by omega) ⟨by omega, fun S2 q2 => by rw [q2]; exact g4⟩
theorem md_tal (hK : K ≤ 6000 ∧ to ≤ K) (hx : 0 ≤ x ∧ x ≤ 6000) (ht : ∀ k : Int, 0 ≤ k → k < x → 0 ≤ t k ∧ t k < 256) (hV : ∀ k : Nat, k < K → tkV x (T k)) : ∀ (w v : Nat) (B : ms), fr + v + w = to → (∀ s : Int, 0 ≤ s → s < 288 → B.1 398 s = tyC t T fr v s + if s = 256 then 1 else 0) → (∀ s : Int, 0 ≤ s → s < 32 → B.1 399 s = tyD T fr v s) → TXm B x t → MTk B T K → TbM B → ∃ B', EX (fun a _ => a = 398 ∨ a = 399) B B' ∧ (∀ s : Int, 0 ≤ s → s < 288 → B'.1 398 s = tyC t T fr (to - fr) s + if s = 256 then 1 else 0) ∧ (∀ s : Int, 0 ≤ s → s < 32 → B'.1 399 s = tyD T fr (to - fr) s) ∧ ∀ (R : Option Value) (S' : ms), EV q 296 56 [some (.ref 367), some (vI fr), some (vI to), some (vI to), none, none, none, none, none, none, none] [] B' R S' → EV q 296 56 [some (.ref 367), some (vI fr), some (vI to), some (vI ((fr + v : Nat) : Int)), none, none, none, none, none, none, none] [] B R S' := by
  have wt : Unit → w32 (to : Int) = to := fun _ => w32_of (by omega)
  intro w
  induction w with
  | zero =>
    intro v B hv h6 h7 hB hT hM
    have ev : to - fr = v := by omega
    have et : fr + v = to := by omega
    rw [ev, et]
    exact ⟨B, EX.refl _ B, h6, h7, fun _ _ k => k⟩
  | succ w ih =>
    intro v B hv h6 h7 hB hT hM
    obtain ⟨k, ek⟩ : ∃ k, k = fr + v := ⟨_, rfl⟩
    have kK : k < K := by omega
    have wk : Unit → w32 (k : Int) = k := fun _ => w32_of (by omega)
    have kb : 0 ≤ (k : Int) ∧ (k : Int) < (6000 : Nat) := by omega
    obtain ⟨t1, t2, t3⟩ := hT.2 k (by omega) (by omega)
    have sr := tkS_r ht (hV k kK)
    have st6 : ∀ B' : ms, B'.1 398 (tkS t (T k)) = B.1 398 (tkS t (T k)) + 1 → (∀ s : Int, s ≠ tkS t (T k) → B'.1 398 s = B.1 398 s) → ∀ s : Int, 0 ≤ s → s < 288 → B'.1 398 s = tyC t T fr (v + 1) s + if s = 256 then 1 else 0 := fun B' y1 y2 s s0 s1 => by
      rw [tyC_s, ← ek]
      by_cases e : s = tkS t (T k)
      · rw [if_pos e, e, y1, h6 _ sr.1 (by omega)]
        omega
      · rw [if_neg e, y2 s e, h6 s s0 s1]
        omega
    rw [← ek]
    have ctx : ∀ B1 : ms, EX (fun a _ => a = 398 ∨ a = 399) B B1 → TXm B1 x t ∧ MTk B1 T K ∧ TbM B1 := fun B1 y => ⟨TXm_e hB (fun a k z => y.2 a k (by omega)), MTk_e hT (fun a k z => y.2 a k (by unfold XTm at z; omega)), fun s h0 h1 => by rw [y.2 391 s (by omega), y.2 392 s (by omega)]; exact hM.1 s h0 h1, fun s h0 h1 => by rw [y.2 393 s (by omega), y.2 394 s (by omega)]; exact hM.2 s h0 h1⟩
    rcases hV k kK with ⟨v1, v2, v3⟩ | ⟨⟨v1, v2⟩, v3, v4⟩
    · have tp := ht (T k).2.2 v2 v3
      have es : tkS t (T k) = t (T k).2.2 := by unfold tkS; rw [if_pos v1]
      rw [es] at st6
      obtain ⟨B1, e1⟩ : ∃ B1, B1 = wI B 398 (t (T k).2.2) (B.1 398 (t (T k).2.2) + 1) := ⟨_, rfl⟩
      have y1 : EX (fun a _ => a = 398 ∨ a = 399) B B1 := by rw [e1]; exact (EX.refl _ B).wr (Or.inl rfl)
      obtain ⟨c1, c2, c3⟩ := ctx B1 y1
      obtain ⟨B', g1, g2, g3, g4⟩ := ih (v + 1) B1 (by omega) (st6 B1 (by rw [e1, wI_at]) (fun s hs => by rw [e1, wI_no _ (fun z => hs z.2)])) (fun s s0 s1 => by
        rw [e1, wI_no _ (by omega), h7 s s0 s1, tyD_s, ← ek, if_neg (fun z => z.1 v1)]
        omega) c1 c2 c3
      refine ⟨B', y1.trans g1, g2, g3, fun R S' kk => vc_MD_writeOwn_56 _ _ _ ?_⟩
      have g5 := g4 R S' kk
      rw [wt (), wk (), t2, v1, t3, w32_of (x := (T k).2.2) (by omega), oct_eq tp (hB.2 (T k).2.2 v2 v3).2, w32_of (x := t (T k).2.2) (by omega)]
      refine cNo (by omega) ⟨kb, cNo (by decide) ⟨kb, by omega, by omega, by omega, fun S30 q30 => vc_MD_writeOwn_139 _ _ _ ?_⟩⟩
      rw [q30, ← e1, show (k : Int) + 1 = ((fr + (v + 1) : Nat) : Int) by omega]
      exact g5
    · have lp := lsF_p ⟨v3, v4⟩
      have dp := dsF_r v1
      have g0 : (T k).2.1 ≠ 0 := by omega
      have es : tkS t (T k) = 257 + lsF (T k).1 := by unfold tkS; rw [if_neg g0]
      rw [es] at st6
      have kl := md_len (q := q) (B := B) ⟨v3, v4⟩ hM
      obtain ⟨L, eL⟩ : ∃ L, L = lsF (T k).1 := ⟨_, rfl⟩
      obtain ⟨D, eD⟩ : ∃ D, D = dsF (T k).2.1 := ⟨_, rfl⟩
      rw [← eL] at lp st6 kl
      rw [← eD] at dp
      obtain ⟨B1, e1⟩ : ∃ B1, B1 = wI B 398 (257 + L) (B.1 398 (257 + L) + 1) := ⟨_, rfl⟩
      obtain ⟨B2, e2⟩ : ∃ B2, B2 = wI B1 399 D (B1.1 399 D + 1) := ⟨_, rfl⟩
      have y1 : EX (fun a _ => a = 398 ∨ a = 399) B B1 := by rw [e1]; exact (EX.refl _ B).wr (Or.inl rfl)
      have y2 : EX (fun a _ => a = 398 ∨ a = 399) B B2 := y1.trans (by rw [e2]; exact (EX.refl _ B1).wr (Or.inr rfl))
      obtain ⟨c1, c2, c3⟩ := ctx B2 y2
      obtain ⟨-, -, m3⟩ := ctx B1 y1
      have a17 : ∀ s : Int, B1.1 399 s = B.1 399 s := fun s => by rw [e1, wI_no _ (by omega)]
      obtain ⟨B', g1, g2, g3, g4⟩ := ih (v + 1) B2 (by omega) (st6 B2 (by rw [e2, wI_no _ (by omega), e1, wI_at]) (fun s hs => by rw [e2, wI_no _ (by omega), e1, wI_no _ (fun z => hs z.2)])) (fun s s0 s1 => by
        rw [tyD_s, ← ek, ← eD]
        by_cases e : s = D
        · rw [if_pos ⟨g0, e⟩, e, e2, wI_at, a17, h7 D dp.1.1 (by omega)]
        · rw [if_neg (fun z => e z.2), e2, wI_no _ (fun z => e z.2), a17, h7 s s0 s1]
          omega) c1 c2 c3
      have kg := md_gap (q := q) (B := B1) (g := (T k).2.1) (by omega) m3
      rw [← eD] at kg
      refine ⟨B', y2.trans g1, g2, g3, fun R S' kk => vc_MD_writeOwn_56 _ _ _ ?_⟩
      have g5 := g4 R S' kk
      rw [wt (), wk (), t2, t1, w32_of (x := (T k).2.1) (by omega)]
      refine cNo (by omega) ⟨kb, cY g0 ⟨kb, L, B, kl, ?_⟩⟩
      rw [w32_of (x := 257 + L) (by omega)]
      refine ⟨by omega, by omega, fun S18 q18 => ?_⟩
      rw [← e1] at q18
      rw [q18]
      refine ⟨kb, D, B1, by rw [e1, wI_no _ (by omega), t2, ← e1]; exact kg, ?_⟩
      rw [w32_of (x := D) (by omega)]
      refine ⟨by omega, by omega, fun S25 q25 => vc_MD_writeOwn_139 _ _ _ ?_⟩
      rw [q25, ← e2, show (k : Int) + 1 = ((fr + (v + 1) : Nat) : Int) by omega]
      exact g5
end PTal
