/-! pack: SORTED; the symbols are written -/
section PSyw
variable {q : Nat × (Nat → Int32)} {sy : Rst} {m M : Nat}
theorem cl_ty {a1 na1 : Nat} {x2 : Int} (ha : isRow a1 na1) (hS : sy.1 ≤ 2501) (hv : sOk 258 sy) : ∀ (v i : Nat) (A : ms), i + v = sy.1 → CSy A sy → (∀ k : Int, 0 ≤ k → k < 258 → A.1 104 k = stC sy.2 i k) → ∃ A', EX (fun a _ => a = 104) A A' ∧ (∀ k : Int, 0 ≤ k → k < 258 → A'.1 104 k = stC sy.2 sy.1 k) ∧ ∀ (Q : Option Value) (S' : ms), EV q 106 48 [some (.ref 94), some (.ref a1), some (vI x2), some (vI 0), none, none] [] A' Q S' → EV q 106 17 [some (.ref 94), some (.ref a1), some (vI x2), some (vI i), none, none] [] A Q S' := by
  intro v
  induction v with
  | zero =>
    intro i A hi hC h
    rw [show sy.1 = i by omega]
    refine ⟨A, EX.refl _ A, h, fun Q S' k => vc_Sorted_symbolsOut_17 _ _ _ _ ha ?_⟩
    rw [hC.1, show sy.1 = i by omega]
    exact cY (Int.le_refl _) k
  | succ v ih =>
    intro i A hi hC h
    have vi := hv i (by omega)
    obtain ⟨A', g1, g2, g3⟩ := ih (i + 1) (wI A 104 (sy.2 i) (A.1 104 (sy.2 i) + 1)) (by omega) ⟨by rw [wI_no _ (by omega)]; exact hC.1, fun j hj => by rw [wI_no _ (by omega)]; exact hC.2 j hj⟩ (fun k k0 k1 => by
      rw [stC_s]
      by_cases e : k = sy.2 i
      · rw [if_pos e, e, wI_at, h _ vi.1 vi.2]
      · rw [if_neg e, wI_no _ (fun z => e z.2), h k k0 k1]
        omega)
    refine ⟨A', ((EX.refl _ A).wr rfl).trans g1, g2, fun Q S' k => vc_Sorted_symbolsOut_17 _ _ _ _ ha ?_⟩
    have g4 := g3 Q S' k
    rw [show ((i + 1 : Nat) : Int) = (i : Int) + 1 by omega] at g4
    rw [hC.1, show w32 (sy.1 : Int) = sy.1 from w32_of (by omega), show w32 (i : Int) = i from w32_of (by omega), hC.2 i (by omega), w32_of (x := sy.2 i) (by omega)]
    exact cNo (by omega) ⟨by omega, by omega, by omega, fun S4 q4 => by rw [q4]; exact g4⟩
def c4F (sy : Rst) (s : Nat) : Int := max (stC sy.2 sy.1 s) 1
theorem cl_t1 {a1 na1 : Nat} (ha : isRow a1 na1) (hM : M ≤ 258) (hS : sy.1 ≤ 2501) : ∀ (v i : Nat) (A : ms), i + v = M → (∀ k : Nat, k < M → A.1 104 k = if k < i then c4F sy k else stC sy.2 sy.1 k) → ∃ A', EX (fun a _ => a = 104) A A' ∧ (∀ k : Nat, k < M → A'.1 104 k = c4F sy k) ∧ ∀ (Q : Option Value) (S' : ms), EV q 106 48 [some (.ref 94), some (.ref a1), some (vI M), some (vI M), none, none] [] A' Q S' → EV q 106 48 [some (.ref 94), some (.ref a1), some (vI M), some (vI i), none, none] [] A Q S' := by
  intro v
  induction v with
  | zero =>
    intro i A hi h
    have e : i = M := by omega
    subst e
    exact ⟨A, EX.refl _ A, fun k hk => by rw [h k hk, if_pos hk], fun Q S' k => k⟩
  | succ v ih =>
    intro i A hi h
    have r := stC_r sy.2 (i : Int) sy.1
    have hi' := h i (by omega)
    rw [if_neg (by omega)] at hi'
    obtain ⟨A', g1, g2, g3⟩ := ih (i + 1) (wI A 104 i (c4F sy i)) (by omega) (fun k hk => by
      by_cases e : k = i
      · rw [e, wI_at, if_pos (by omega)]
      · rw [wI_no _ (by omega), h k hk]
        by_cases d : k < i
        · rw [if_pos d, if_pos (by omega)]
        · rw [if_neg d, if_neg (by omega)])
    refine ⟨A', ((EX.refl _ A).wr rfl).trans g1, g2, fun Q S' k => vc_Sorted_symbolsOut_48 _ _ _ _ ha ?_⟩
    have g4 := g3 Q S' k
    rw [show ((i + 1 : Nat) : Int) = (i : Int) + 1 by omega] at g4
    rw [show w32 (M : Int) = M from w32_of (by omega), show w32 (i : Int) = i from w32_of (by omega), hi', w32_of (x := stC sy.2 sy.1 i) (by omega), show w32 1 = 1 by decide]
    exact cNo (by omega) ⟨by omega, by omega, fun S15 q15 => by rw [q15]; exact g4⟩
theorem md_ty0 (hM : M ≤ 258) : ∀ (v i : Nat) (B : ms), i + v = M → (∀ k : Int, 0 ≤ k → k < i → B.1 412 k = 0) → ∃ B', EX (fun a _ => a = 412) B B' ∧ (∀ k : Int, 0 ≤ k → k < M → B'.1 412 k = 0) ∧ ∀ (Q : Option Value) (S' : ms), EV q 325 22 [some (.ref 367), some (vI M), some (vI 0), none, none, none, none] [] B' Q S' → EV q 325 2 [some (.ref 367), some (vI M), some (vI i), none, none, none, none] [] B Q S' := by
  intro v
  induction v with
  | zero =>
    intro i B hi h
    have e : i = M := by omega
    subst e
    exact ⟨B, EX.refl _ B, h, fun Q S' k => vc_MD_writeSymbols_2 _ _ (cY (Int.le_refl _) k)⟩
  | succ v ih =>
    intro i B hi h
    obtain ⟨B', g1, g2, g3⟩ := ih (i + 1) (wI B 412 i 0) (by omega) (fun k k0 k1 => by
      by_cases e : k = i
      · rw [e, wI_at]
      · rw [wI_no _ (by omega)]
        exact h k k0 (by omega))
    refine ⟨B', ((EX.refl _ B).wr rfl).trans g1, g2, fun Q S' k => vc_MD_writeSymbols_2 _ _ ?_⟩
    have g4 := g3 Q S' k
    rw [show ((i + 1 : Nat) : Int) = (i : Int) + 1 by omega] at g4
    rw [show w32 (M : Int) = M from w32_of (by omega), show w32 (i : Int) = i from w32_of (by omega)]
    exact cNo (by omega) ⟨by omega, fun S2 q2 => by rw [q2]; exact g4⟩
theorem md_ty (hM : M ≤ 258) (hS : sy.1 ≤ 2501) (hv : sOk M sy) : ∀ (v i : Nat) (B : ms), i + v = sy.1 → MSy B sy → (∀ k : Int, 0 ≤ k → k < M → B.1 412 k = stC sy.2 i k) → ∃ B', EX (fun a _ => a = 412) B B' ∧ (∀ k : Int, 0 ≤ k → k < M → B'.1 412 k = stC sy.2 sy.1 k) ∧ ∀ (Q : Option Value) (S' : ms), EV q 325 53 [some (.ref 367), some (vI M), some (vI 0), none, none, none, none] [] B' Q S' → EV q 325 22 [some (.ref 367), some (vI M), some (vI i), none, none, none, none] [] B Q S' := by
  intro v
  induction v with
  | zero =>
    intro i B hi hC h
    rw [show sy.1 = i by omega]
    refine ⟨B, EX.refl _ B, h, fun Q S' k => vc_MD_writeSymbols_22 _ _ ?_⟩
    rw [hC.1, show sy.1 = i by omega]
    exact cY (Int.le_refl _) k
  | succ v ih =>
    intro i B hi hC h
    have vi := hv i (by omega)
    obtain ⟨B', g1, g2, g3⟩ := ih (i + 1) (wI B 412 (sy.2 i) (B.1 412 (sy.2 i) + 1)) (by omega) ⟨by rw [wI_no _ (by omega)]; exact hC.1, fun j hj => by rw [wI_no _ (by omega)]; exact hC.2 j hj⟩ (fun k k0 k1 => by
      rw [stC_s]
      by_cases e : k = sy.2 i
      · rw [if_pos e, e, wI_at, h _ vi.1 vi.2]
      · rw [if_neg e, wI_no _ (fun z => e z.2), h k k0 k1]
        omega)
    refine ⟨B', ((EX.refl _ B).wr rfl).trans g1, g2, fun Q S' k => vc_MD_writeSymbols_22 _ _ ?_⟩
    have g4 := g3 Q S' k
    rw [show ((i + 1 : Nat) : Int) = (i : Int) + 1 by omega] at g4
    rw [hC.1, show w32 (sy.1 : Int) = sy.1 from w32_of (by omega), show w32 (i : Int) = i from w32_of (by omega), hC.2 i (by omega), w32_of (x := sy.2 i) (by omega)]
    exact cNo (by omega) ⟨by omega, by omega, by omega, fun S4 q4 => by rw [q4]; exact g4⟩
theorem md_t1 (hM : M ≤ 258) (hS : sy.1 ≤ 2501) : ∀ (v i : Nat) (B : ms), i + v = M → (∀ k : Nat, k < M → B.1 412 k = if k < i then c4F sy k else stC sy.2 sy.1 k) → ∃ B', EX (fun a _ => a = 412) B B' ∧ (∀ k : Nat, k < M → B'.1 412 k = c4F sy k) ∧ ∀ (Q : Option Value) (S' : ms), EV q 325 53 [some (.ref 367), some (vI M), some (vI M), none, none, none, none] [] B' Q S' → EV q 325 53 [some (.ref 367), some (vI M), some (vI i), none, none, none, none] [] B Q S' := by
  intro v
  induction v with
  | zero =>
    intro i B hi h
    have e : i = M := by omega
    subst e
    exact ⟨B, EX.refl _ B, fun k hk => by rw [h k hk, if_pos hk], fun Q S' k => k⟩
  | succ v ih =>
    intro i B hi h
    have r := stC_r sy.2 (i : Int) sy.1
    have hi' := h i (by omega)
    rw [if_neg (by omega)] at hi'
    obtain ⟨B', g1, g2, g3⟩ := ih (i + 1) (wI B 412 i (c4F sy i)) (by omega) (fun k hk => by
      by_cases e : k = i
      · rw [e, wI_at, if_pos (by omega)]
      · rw [wI_no _ (by omega), h k hk]
        by_cases d : k < i
        · rw [if_pos d, if_pos (by omega)]
        · rw [if_neg d, if_neg (by omega)])
    refine ⟨B', ((EX.refl _ B).wr rfl).trans g1, g2, fun Q S' k => vc_MD_writeSymbols_53 _ _ ?_⟩
    have g4 := g3 Q S' k
    rw [show ((i + 1 : Nat) : Int) = (i : Int) + 1 by omega] at g4
    have k82 : EV q 325 82 [some (.ref 367), some (vI M), some (vI i), none, none, none, none] [vI (c4F sy i), vI i, .ref 412] B Q S' := by
      refine vc_MD_writeSymbols_82 _ _ _ _ ?_
      rw [show w32 (i : Int) = i from w32_of (by omega)]
      exact ⟨by omega, fun S2 q2 => by rw [q2]; exact g4⟩
    unfold c4F at k82
    rw [show w32 (M : Int) = M from w32_of (by omega), show w32 (i : Int) = i from w32_of (by omega), hi', w32_of (x := stC sy.2 sy.1 i) (by omega)]
    refine cNo (by omega) ⟨by omega, ?_⟩
    by_cases c : stC sy.2 sy.1 i = 0
    · rw [show max (stC sy.2 sy.1 i) 1 = 1 by omega] at k82
      exact cNN c k82
    · rw [show max (stC sy.2 sy.1 i) 1 = stC sy.2 sy.1 i by omega] at k82
      exact cY c ⟨by omega, k82⟩
theorem cl_ch {o : Nat} {x2 : Int} {tn : Nat} (ho : isRow o 12000) (htn : tn ≤ 100) : ∀ (v i : Nat) (s : Wb) (A : ms), i + v = tn → wbR 1 s → s.1.1 + 2 * v < 900000 → CBt A o 12000 s → ∃ A', EX (XRb o) A A' ∧ CBt A' o 12000 (upB 2 v s) ∧ ∀ (Q : Option Value) (S' : ms), EV q 106 133 [some (.ref 94), some (.ref o), some (vI x2), some (.ref 107), some (vI tn), some (vI tn)] [] A' Q S' → EV q 106 133 [some (.ref 94), some (.ref o), some (vI x2), some (.ref 107), some (vI tn), some (vI i)] [] A Q S' := by
  intro v
  induction v with
  | zero =>
    intro i s A hi hr hs h
    have e : i = tn := by omega
    subst e
    exact ⟨A, EX.refl _ A, h, fun Q S' k => k⟩
  | succ v ih =>
    intro i s A hi hr hs h
    have nn := wbHigh_n 2 2 s
    obtain ⟨A1, a1, a2, a3⟩ := cw_high_bits (q := q) (v := 2) (n := 2) (by decide) (by decide) ho (by decide) hr (by omega) h
    obtain ⟨A', g1, g2, g3⟩ := ih (i + 1) (wbHigh 2 2 s) A1 (by omega) (wbHigh_r _ _ _ hr) (by omega) a3
    refine ⟨A', a2.trans g1, g2, fun Q S' k => vc_Sorted_symbolsOut_133 _ _ _ _ _ ho _ is_107 ?_⟩
    have g4 := g3 Q S' k
    rw [show ((i + 1 : Nat) : Int) = (i : Int) + 1 by omega] at g4
    rw [show w32 (tn : Int) = tn from w32_of (by omega), show w32 (i : Int) = i from w32_of (by omega)]
    exact cNo (by omega) ⟨A1, a1, g4⟩
theorem md_ch {x1 x2 : Int} {tn : Nat} (htn : tn ≤ 100) : ∀ (v i : Nat) (s : Wb) (B : ms), i + v = tn → 1 ≤ i → wbR 1 s → s.1.1 + 2 * v < 900000 → MBt B 1 s → ∃ B', EX XWb B B' ∧ MBt B' 1 (upB 2 v s) ∧ ∀ (Q : Option Value) (S' : ms), EV q 325 179 [some (.ref 367), some (vI x1), some (vI x2), some (vI tn), some (vI 0), none, none] [] B' Q S' → EV q 325 149 [some (.ref 367), some (vI x1), some (vI x2), some (vI tn), some (vI i), none, none] [] B Q S' := by
  intro v
  induction v with
  | zero =>
    intro i s B hi h1 hr hs h
    have e : i = tn := by omega
    subst e
    exact ⟨B, EX.refl _ B, h, fun Q S' k => vc_MD_writeSymbols_149 _ _ _ _ (cY (Int.le_refl _) k)⟩
  | succ v ih =>
    intro i s B hi h1 hr hs h
    have nn := wbHigh_n 1 1 s
    have n2 := wbHigh_n 2 2 s
    obtain ⟨B1, a1, a2, a3⟩ := mw_b1 (q := q) (b := 1) (Or.inr rfl) hr (by omega) h
    obtain ⟨B2, b1, b2, b3⟩ := mw_b1 (q := q) (b := 0) (Or.inl rfl) (wbHigh_r _ _ _ hr) (by omega) a3
    rw [← wh2] at b3
    obtain ⟨B', g1, g2, g3⟩ := ih (i + 1) (wbHigh 2 2 s) B2 (by omega) (by omega) (wbHigh_r _ _ _ hr) (by omega) b3
    refine ⟨B', (a2.trans b2).trans g1, g2, fun Q S' k => vc_MD_writeSymbols_149 _ _ _ _ ?_⟩
    have g4 := g3 Q S' k
    rw [show ((i + 1 : Nat) : Int) = (i : Int) + 1 by omega] at g4
    rw [show w32 (tn : Int) = tn from w32_of (by omega), show w32 (i : Int) = i from w32_of (by omega)]
    exact cNo (by omega) (cNo (by omega) ⟨B1, a1, vc_MD_writeSymbols_165 _ _ _ _ ⟨B2, b1, g4⟩⟩)
/-- a code in high order, the reference -/
theorem mw_codeH {v x2 : Int} (hv : 0 ≤ v ∧ v < 2147483648) : ∀ (n : Nat) (B : ms) (s : Wb), n ≤ 29 → wbR 1 s → s.1.1 + n < 800000000 → MBt B 1 s → ∃ B', EV q 304 4 [some (.ref 367), some (vI v), some (vI x2), some (vI ((n : Int) - 1))] [] B none B' ∧ EX XWb B B' ∧ MBt B' 1 (wbHigh n v s) := by
  intro n
  induction n with
  | zero =>
    intro B s _ hr hs h
    exact ⟨B, vc_MD_codeOf_4 _ _ _ (cY (by decide) ⟨rfl, rfl⟩), EX.refl _ B, h⟩
  | succ n ih =>
    intro B s hn hr hs h
    obtain ⟨b, eb⟩ : ∃ b, b = v / (2 : Int) ^ n % 2 := ⟨_, rfl⟩
    have nn := wbHigh_n 1 b s
    obtain ⟨B1, k1, k2, k3⟩ := mw_b1 (q := q) (b := b) (by omega) hr (by omega) h
    obtain ⟨B', g1, g2, g3⟩ := ih B1 (wbHigh 1 b s) (by omega) (wbHigh_r _ _ _ hr) (by omega) k3
    refine ⟨B', vc_MD_codeOf_4 _ _ _ ?_, k2.trans g2, by rw [wbHigh_b, ← eb]; exact g3⟩
    rw [show ((n + 1 : Nat) : Int) - 1 = n by omega, w32_of (x := v) (by omega), show ((n : Int) % 32).toNat = n by omega, ← eb, w32_of (x := (n : Int)) (by omega)]
    exact cNo (by omega) ⟨B1, k1, g1⟩
/-- the symbols by their code -/
def csB (l : Int → Int) (M : Nat) (f : Nat → Int) : Nat → Nat → Wb → Wb
  | _, 0, s => s
  | j, v + 1, s => csB l M f (j + 1) v (wbHigh (l (f j)).toNat (cdOf l M (f j).toNat) s)
theorem csB_s (l : Int → Int) (M : Nat) (f : Nat → Int) (j v : Nat) (s : Wb) : csB l M f j (v + 1) s = csB l M f (j + 1) v (wbHigh (l (f j)).toNat (cdOf l M (f j).toNat) s) := rfl
theorem jcs {l : Int → Int} (hM : 1 ≤ M ∧ M ≤ 258) (hl : ∀ s : Nat, s < M → 1 ≤ l s ∧ l s ≤ 17) (hS : sy.1 ≤ 2501) (hv : sOk M sy) : ∀ (v j : Nat) (s : Wb), j + v = sy.1 → wbR 1 s → s.1.1 + 17 * v < 900000 → (wbR 1 (csB l M sy.2 j v s) ∧ s.1.1 ≤ (csB l M sy.2 j v s).1.1 ∧ (csB l M sy.2 j v s).1.1 ≤ s.1.1 + 17 * v) ∧ (∀ (A : ms) (o : Nat) (x2 x4 : Int), isRow o 12000 → 342 < o → CSy A sy → (∀ k : Nat, k < M → A.1 108 k = l k ∧ A.1 109 k = cdOf l M k) → CBt A o 12000 s → ∃ A', EX (XRb o) A A' ∧ CBt A' o 12000 (csB l M sy.2 j v s) ∧ EV q 106 169 [some (.ref 94), some (.ref o), some (vI x2), some (.ref 107), some (vI x4), some (vI j)] [] A none A') ∧ ∀ (B : ms) (x1 x2 x3 : Int), MSy B sy → (∀ k : Nat, k < M → B.1 413 k = l k ∧ B.1 414 k = cdOf l M k) → MBt B 1 s → ∃ B', EX XWb B B' ∧ MBt B' 1 (csB l M sy.2 j v s) ∧ EV q 325 282 [some (.ref 367), some (vI x1), some (vI x2), some (vI x3), some (vI j), none, none] [] B none B' := by
  intro v
  induction v with
  | zero =>
    intro j s hj hr hs
    refine ⟨⟨hr, Int.le_refl _, by show s.1.1 ≤ s.1.1 + 17 * ((0 : Nat) : Int); omega⟩, fun A o x2 x4 ho o3 hC hk h => ⟨A, EX.refl _ A, h, vc_Sorted_symbolsOut_169 _ _ _ _ _ ho _ is_107 ?_⟩, fun B x1 x2 x3 hC hk h => ⟨B, EX.refl _ B, h, vc_MD_writeSymbols_282 _ _ _ _ ?_⟩⟩
    · rw [hC.1, show sy.1 = j by omega]
      exact cY (Int.le_refl _) ⟨rfl, rfl⟩
    · rw [hC.1, show sy.1 = j by omega]
      exact cY (Int.le_refl _) ⟨rfl, rfl⟩
  | succ v ih =>
    intro j s hj hr hs
    have vj := hv j (by omega)
    obtain ⟨y, ey⟩ : ∃ y : Nat, sy.2 j = y := ⟨(sy.2 j).toNat, by omega⟩
    rw [csB_s, ey, show ((y : Int)).toNat = y by omega]
    rw [ey] at vj
    have ly := hl y (by omega)
    have cr := cd_rg (l := l) (n := M) (s := y) (by omega) (by omega) (by omega)
    have nn := wbHigh_n (l y).toNat (cdOf l M y) s
    obtain ⟨sa, esa⟩ : ∃ sa, sa = wbHigh (l y).toNat (cdOf l M y) s := ⟨_, rfl⟩
    have ra : wbR 1 sa := by rw [esa]; exact wbHigh_r _ _ _ hr
    rw [← esa] at nn ⊢
    obtain ⟨⟨i1, i2, i3⟩, ic, im⟩ := ih (j + 1) sa (by omega) ra (by omega)
    refine ⟨⟨i1, by omega, by omega⟩, fun A o x2 x4 ho o3 hC hk h => ?_, fun B x1 x2 x3 hC hk h => ?_⟩
    · obtain ⟨A1, a1, a2, a3⟩ := cw_high_bits (q := q) (v := cdOf l M y) (n := (l y).toNat) (by omega) (by omega) ho (by decide) hr (by omega) h
      rw [← esa] at a3
      have at1 : ∀ (a : Nat) (k : Int), a < 343 → A1.1 a k = A.1 a k := fun a k w => a2.2 a k (by unfold XRb; omega)
      obtain ⟨A', g1, g2, g3⟩ := ic A1 o x2 x4 ho o3 ⟨by rw [at1 _ _ (by omega)]; exact hC.1, fun i hi => by rw [at1 _ _ (by omega)]; exact hC.2 i hi⟩ (fun k hk' => by rw [at1 _ _ (by omega), at1 _ _ (by omega)]; exact hk k hk') a3
      refine ⟨A', a2.trans g1, g2, vc_Sorted_symbolsOut_169 _ _ _ _ _ ho _ is_107 ?_⟩
      rw [show ((j + 1 : Nat) : Int) = (j : Int) + 1 by omega] at g3
      have hky := hk y (by omega)
      rw [hC.1, show w32 (sy.1 : Int) = sy.1 from w32_of (by omega), show w32 (j : Int) = j from w32_of (by omega), hC.2 j (by omega), ey, show w32 (y : Int) = y from w32_of (by omega)]
      refine cNo (by omega) ⟨by omega, by omega, by omega, by omega, A1, ?_, g3⟩
      show EV q 98 0 [some (.ref o), some (vL (w32 (A.1 109 y))), none, some (vI (A.1 108 y)), none, none, none, none] [] A none A1
      rw [hky.1, hky.2, w32_of (x := cdOf l M y) (by omega)]
      rw [show (((l y).toNat : Nat) : Int) = l y by omega] at a1
      exact a1
    · obtain ⟨B1, a1, a2, a3⟩ := mw_codeH (q := q) (v := cdOf l M y) (x2 := l y) cr (l y).toNat B s (by omega) hr (by omega) h
      rw [← esa] at a3
      obtain ⟨B', g1, g2, g3⟩ := im B1 x1 x2 x3 ⟨by rw [a2.2 _ _ (by unfold XWb; omega)]; exact hC.1, fun i hi => by rw [a2.2 _ _ (by unfold XWb; omega)]; exact hC.2 i hi⟩ (fun k hk' => by rw [a2.2 _ _ (by unfold XWb; omega), a2.2 _ _ (by unfold XWb; omega)]; exact hk k hk') a3
      refine ⟨B', a2.trans g1, g2, vc_MD_writeSymbols_282 _ _ _ _ ?_⟩
      rw [show ((j + 1 : Nat) : Int) = (j : Int) + 1 by omega] at g3
      have hky := hk y (by omega)
      rw [hC.1, show w32 (sy.1 : Int) = sy.1 from w32_of (by omega), show w32 (j : Int) = j from w32_of (by omega), hC.2 j (by omega), ey, show w32 (y : Int) = y from w32_of (by omega), hky.1, hky.2]
      rw [show (((l y).toNat : Nat) : Int) - 1 = l y - 1 by omega] at a1
      exact cNo (by omega) ⟨by omega, by omega, by omega, by omega, B1, vc_MD_codeOf _ _ a1, g3⟩
end PSyw
