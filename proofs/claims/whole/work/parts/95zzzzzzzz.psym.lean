/-! pack: SORTED; the symbols' code -/
section PSyo
variable {q : Nat × (Nat → Int32)}
theorem wh2 (s : Wb) : wbHigh 2 2 s = wbHigh 1 0 (wbHigh 1 1 s) := by
  rw [wbHigh_b, show (2 : Int) / (2 : Int) ^ 1 % 2 = 1 by decide, wbHigh_s, wbHigh_0, wbHigh_s, wbHigh_0]
  rw [show (2 : Int) / (2 : Int) ^ 0 % 2 = 0 by decide, wbHigh_1 (Or.inl rfl)]
def upB (v : Int) : Nat → Wb → Wb
  | 0, s => s
  | k + 1, s => upB v k (wbHigh 2 v s)
theorem upB_s (v : Int) (k : Nat) (s : Wb) : upB v (k + 1) s = upB v k (wbHigh 2 v s) := rfl
theorem upB_r (v : Int) : ∀ (k : Nat) (s : Wb), wbR 1 s → wbR 1 (upB v k s) ∧ s.1.1 ≤ (upB v k s).1.1 ∧ (upB v k s).1.1 ≤ s.1.1 + 2 * k
  | 0, s, h => ⟨h, Int.le_refl _, by show s.1.1 ≤ s.1.1 + 2 * ((0 : Nat) : Int); omega⟩
  | k + 1, s, h => by
    rw [upB_s]
    have a := wbHigh_n 2 v s
    have b := upB_r v k (wbHigh 2 v s) (wbHigh_r _ _ _ h)
    exact ⟨b.1, by omega, by omega⟩
def loB (l : Int → Int) : Nat → Nat → Int → Wb → Wb
  | _, 0, _, s => s
  | j, v + 1, t, s => loB l (j + 1) v (l j) (wbHigh 1 0 (upB 3 (t - l j).toNat (upB 2 (l j - t).toNat s)))
theorem loB_s (l : Int → Int) (j v : Nat) (t : Int) (s : Wb) : loB l j (v + 1) t s = loB l (j + 1) v (l j) (wbHigh 1 0 (upB 3 (t - l j).toNat (upB 2 (l j - t).toNat s))) := rfl
theorem loB_r {l : Int → Int} {M : Nat} (hl : ∀ j : Nat, j < M → 0 ≤ l j ∧ l j ≤ 20) : ∀ (v j : Nat) (t : Int) (s : Wb), j + v = M → (0 ≤ t ∧ t ≤ 20) → wbR 1 s → wbR 1 (loB l j v t s) ∧ s.1.1 ≤ (loB l j v t s).1.1 ∧ (loB l j v t s).1.1 ≤ s.1.1 + 81 * v
  | 0, j, t, s, _, _, h => ⟨h, Int.le_refl _, by show s.1.1 ≤ s.1.1 + 81 * ((0 : Nat) : Int); omega⟩
  | v + 1, j, t, s, hj, ht, h => by
    rw [loB_s]
    have lj := hl j (by omega)
    have a := upB_r 2 (l j - t).toNat s h
    have b := upB_r 3 (t - l j).toNat _ a.1
    have c := wbHigh_n 1 0 (upB 3 (t - l j).toNat (upB 2 (l j - t).toNat s))
    have d := loB_r hl v (j + 1) (l j) (wbHigh 1 0 (upB 3 (t - l j).toNat (upB 2 (l j - t).toNat s))) (by omega) lj (wbHigh_r _ _ _ b.1)
    exact ⟨d.1, by omega, by omega⟩
theorem cl_lup {o : Nat} {l : Int → Int} {j M : Nat} (ho : isRow o 12000) (o3 : 342 < o) (hj : j < 288) (hl : 0 ≤ l j ∧ l j ≤ 20) : ∀ (k : Nat) (t : Int) (s : Wb) (A : ms), A.1 108 j = l j → k = (l j - t).toNat → (0 ≤ t ∧ t ≤ 20) → wbR 1 s → s.1.1 + 2 * k < 900000 → CBt A o 12000 s → ∃ A', EX (XRb o) A A' ∧ CBt A' o 12000 (upB 2 k s) ∧ ∀ (Q : Option Value) (S' : ms), EV q 107 48 [some (.ref 107), some (vI M), some (.ref o), some (vI (max t (l j))), some (vI j)] [] A' Q S' → EV q 107 23 [some (.ref 107), some (vI M), some (.ref o), some (vI t), some (vI j)] [] A Q S' := by
  intro k
  induction k with
  | zero =>
    intro t s A h8 hk ht hr hs h
    refine ⟨A, EX.refl _ A, h, fun Q S' kk => vc_Sorted_lengthsOut_23 _ _ _ _ is_107 _ _ ho ?_⟩
    rw [show w32 (j : Int) = j from w32_of (by omega), h8, w32_of (x := l j) (by omega), w32_of (x := t) (by omega)]
    rw [show max t (l j) = t by omega] at kk
    exact ⟨by omega, cY (by omega) kk⟩
  | succ k ih =>
    intro t s A h8 hk ht hr hs h
    have nn := wbHigh_n 2 2 s
    obtain ⟨A1, a1, a2, a3⟩ := cw_high_bits (q := q) (v := 2) (n := 2) (by decide) (by decide) ho (by decide) hr (by omega) h
    obtain ⟨A', g1, g2, g3⟩ := ih (t + 1) (wbHigh 2 2 s) A1 (by rw [a2.2 108 j (by unfold XRb; omega)]; exact h8) (by omega) (by omega) (wbHigh_r _ _ _ hr) (by omega) a3
    refine ⟨A', a2.trans g1, g2, fun Q S' kk => vc_Sorted_lengthsOut_23 _ _ _ _ is_107 _ _ ho ?_⟩
    rw [show w32 (j : Int) = j from w32_of (by omega), h8, w32_of (x := l j) (by omega), w32_of (x := t) (by omega)]
    rw [show max t (l j) = max (t + 1) (l j) by omega] at kk
    exact ⟨by omega, cNo (by omega) ⟨A1, a1, g3 Q S' kk⟩⟩
theorem cl_ldn {o : Nat} {l : Int → Int} {j M : Nat} (ho : isRow o 12000) (o3 : 342 < o) (hj : j < 288) (hl : 0 ≤ l j ∧ l j ≤ 20) : ∀ (k : Nat) (t : Int) (s : Wb) (A : ms), A.1 108 j = l j → k = (t - l j).toNat → (l j ≤ t ∧ t ≤ 20) → wbR 1 s → s.1.1 + 2 * k < 900000 → CBt A o 12000 s → ∃ A', EX (XRb o) A A' ∧ CBt A' o 12000 (wbHigh 1 0 (upB 3 k s)) ∧ ∀ (Q : Option Value) (S' : ms), EV q 107 17 [some (.ref 107), some (vI M), some (.ref o), some (vI (l j)), some (vI ((j : Int) + 1))] [] A' Q S' → EV q 107 48 [some (.ref 107), some (vI M), some (.ref o), some (vI t), some (vI j)] [] A Q S' := by
  intro k
  induction k with
  | zero =>
    intro t s A h8 hk ht hr hs h
    obtain ⟨A1, a1, a2, a3⟩ := cw_high_bits (q := q) (v := 0) (n := 1) (by decide) (by decide) ho (by decide) hr (by omega) h
    refine ⟨A1, a2, a3, fun Q S' kk => vc_Sorted_lengthsOut_48 _ _ _ _ is_107 _ _ ho ?_⟩
    rw [show w32 (j : Int) = j from w32_of (by omega), h8, w32_of (x := l j) (by omega), w32_of (x := t) (by omega)]
    rw [show l j = t by omega] at kk
    exact ⟨by omega, cY (by omega) ⟨A1, a1, kk⟩⟩
  | succ k ih =>
    intro t s A h8 hk ht hr hs h
    have nn := wbHigh_n 2 3 s
    obtain ⟨A1, a1, a2, a3⟩ := cw_high_bits (q := q) (v := 3) (n := 2) (by decide) (by decide) ho (by decide) hr (by omega) h
    obtain ⟨A', g1, g2, g3⟩ := ih (t - 1) (wbHigh 2 3 s) A1 (by rw [a2.2 108 j (by unfold XRb; omega)]; exact h8) (by omega) (by omega) (wbHigh_r _ _ _ hr) (by omega) a3
    refine ⟨A', a2.trans g1, g2, fun Q S' kk => vc_Sorted_lengthsOut_48 _ _ _ _ is_107 _ _ ho ?_⟩
    rw [show w32 (j : Int) = j from w32_of (by omega), h8, w32_of (x := l j) (by omega), w32_of (x := t) (by omega)]
    exact ⟨by omega, cNo (by omega) ⟨A1, a1, g3 Q S' kk⟩⟩
theorem cl_lo {o : Nat} {l : Int → Int} {M : Nat} (ho : isRow o 12000) (o3 : 342 < o) (hM : M ≤ 288) (hl : ∀ j : Nat, j < M → 0 ≤ l j ∧ l j ≤ 20) : ∀ (v j : Nat) (t : Int) (s : Wb) (A : ms), j + v = M → (0 ≤ t ∧ t ≤ 20) → (∀ j : Nat, j < M → A.1 108 j = l j) → wbR 1 s → s.1.1 + 81 * v < 900000 → CBt A o 12000 s → ∃ A', EX (XRb o) A A' ∧ CBt A' o 12000 (loB l j v t s) ∧ EV q 107 17 [some (.ref 107), some (vI M), some (.ref o), some (vI t), some (vI j)] [] A none A' := by
  intro v
  induction v with
  | zero =>
    intro j t s A hj ht h8 hr hs h
    have e : j = M := by omega
    subst e
    exact ⟨A, EX.refl _ A, h, vc_Sorted_lengthsOut_17 _ _ _ _ is_107 _ _ ho (cY (Int.le_refl _) ⟨rfl, rfl⟩)⟩
  | succ v ih =>
    intro j t s A hj ht h8 hr hs h
    have lj := hl j (by omega)
    have a := upB_r 2 (l j - t).toNat s hr
    have b := upB_r 3 (t - l j).toNat _ a.1
    have c := wbHigh_n 1 0 (upB 3 (t - l j).toNat (upB 2 (l j - t).toNat s))
    obtain ⟨A1, a1, a2, a3⟩ := cl_lup (q := q) (M := M) ho o3 (by omega) lj (l j - t).toNat t s A (h8 j (by omega)) rfl ht hr (by omega) h
    obtain ⟨A2, b1, b2, b3⟩ := cl_ldn (q := q) (M := M) ho o3 (by omega) lj (t - l j).toNat (max t (l j)) _ A1 (by rw [a1.2 108 j (by unfold XRb; omega)]; exact h8 j (by omega)) (by omega) (by omega) a.1 (by omega) a2
    have x2 := a1.trans b1
    obtain ⟨A', g1, g2, g3⟩ := ih (j + 1) (l j) _ A2 (by omega) lj (fun j hj => by rw [x2.2 108 j (by unfold XRb; omega)]; exact h8 j hj) (wbHigh_r _ _ _ b.1) (by omega) b2
    refine ⟨A', x2.trans g1, by rw [loB_s]; exact g2, vc_Sorted_lengthsOut_17 _ _ _ _ is_107 _ _ ho ?_⟩
    rw [show ((j + 1 : Nat) : Int) = (j : Int) + 1 by omega] at g3
    rw [show w32 (M : Int) = M from w32_of (by omega), show w32 (j : Int) = j from w32_of (by omega)]
    exact cNo (by omega) (a3 _ _ (b3 _ _ g3))
theorem cl_lo0 {o : Nat} {l : Int → Int} {M : Nat} {s : Wb} {A : ms} (ho : isRow o 12000) (o3 : 342 < o) (hM : 1 ≤ M ∧ M ≤ 288) (hl : ∀ j : Nat, j < M → 0 ≤ l j ∧ l j ≤ 20) (h8 : ∀ j : Nat, j < M → A.1 108 j = l j) (hr : wbR 1 s) (hs : s.1.1 < 800000) (h : CBt A o 12000 s) : ∃ A', EX (XRb o) A A' ∧ CBt A' o 12000 (loB l 0 M (l 0) (wbHigh 5 (l 0) s)) ∧ EV q 107 0 [some (.ref 107), some (vI M), some (.ref o), none, none] [] A none A' := by
  have l0 := hl 0 (by omega)
  have l0' : 0 ≤ l 0 ∧ l 0 ≤ 20 := l0
  have nn := wbHigh_n 5 (l 0) s
  have e8 : A.1 108 0 = l 0 := h8 0 (by omega)
  obtain ⟨A1, a1, a2, a3⟩ := cw_high_bits (q := q) (v := l 0) (n := 5) (by omega) (by decide) ho (by decide) hr (by omega) h
  obtain ⟨A', g1, g2, g3⟩ := cl_lo (q := q) ho o3 hM.2 hl M 0 (l 0) _ A1 (by omega) l0' (fun j hj => by rw [a2.2 108 j (by unfold XRb; omega)]; exact h8 j hj) (wbHigh_r _ _ _ hr) (by omega) a3
  refine ⟨A', a2.trans g1, g2, vc_Sorted_lengthsOut _ _ is_107 _ _ ho ?_⟩
  show (0 ≤ w32 0 ∧ w32 0 < ((288 : Nat) : Int)) ∧ _
  rw [show w32 0 = 0 by decide]
  refine ⟨by decide, A1, ?_, ?_⟩
  · show EV q 98 0 [some (.ref o), some (vL (w32 (A.1 108 0))), none, some (vI 5), none, none, none, none] [] A none A1
    rw [e8, w32_of (x := l 0) (by omega)]
    exact a1
  · show EV q 107 17 [some (.ref 107), some (vI M), some (.ref o), some (vI (A.1 108 0)), some (vI 0)] [] A1 none A'
    rw [e8]
    exact g3
theorem md_lup {x2 x3 x4 : Int} {l : Int → Int} {j M : Nat} (hj : j < 288) (hl : 0 ≤ l j ∧ l j ≤ 20) : ∀ (k : Nat) (t : Int) (s : Wb) (B : ms), B.1 413 j = l j → k = (l j - t).toNat → (0 ≤ t ∧ t ≤ 20) → wbR 1 s → s.1.1 + 2 * k < 900000 → MBt B 1 s → ∃ B', EX XWb B B' ∧ MBt B' 1 (upB 2 k s) ∧ ∀ (Q : Option Value) (S' : ms), EV q 325 236 [some (.ref 367), some (vI M), some (vI x2), some (vI x3), some (vI x4), some (vI (max t (l j))), some (vI j)] [] B' Q S' → EV q 325 210 [some (.ref 367), some (vI M), some (vI x2), some (vI x3), some (vI x4), some (vI t), some (vI j)] [] B Q S' := by
  intro k
  induction k with
  | zero =>
    intro t s B h8 hk ht hr hs h
    refine ⟨B, EX.refl _ B, h, fun Q S' kk => vc_MD_writeSymbols_210 _ _ _ _ _ _ ?_⟩
    rw [show w32 (j : Int) = j from w32_of (by omega), h8, w32_of (x := l j) (by omega), w32_of (x := t) (by omega)]
    rw [show max t (l j) = t by omega] at kk
    exact ⟨by omega, cY (by omega) kk⟩
  | succ k ih =>
    intro t s B h8 hk ht hr hs h
    have nn := wbHigh_n 2 2 s
    obtain ⟨B1, a1, a2, a3, -⟩ := mw_high_bits (q := q) (v := 2) (n := 2) (by decide) (by decide) hr (by omega) h
    obtain ⟨B', g1, g2, g3⟩ := ih (t + 1) (wbHigh 2 2 s) B1 (by rw [a2.2 413 j (by unfold XWb; omega)]; exact h8) (by omega) (by omega) (wbHigh_r _ _ _ hr) (by omega) a3
    refine ⟨B', a2.trans g1, g2, fun Q S' kk => vc_MD_writeSymbols_210 _ _ _ _ _ _ ?_⟩
    rw [show w32 (j : Int) = j from w32_of (by omega), h8, w32_of (x := l j) (by omega), w32_of (x := t) (by omega)]
    rw [show max t (l j) = max (t + 1) (l j) by omega] at kk
    exact ⟨by omega, cNo (by omega) ⟨B1, a1, g3 Q S' kk⟩⟩
theorem md_ldn {x2 x3 x4 : Int} {l : Int → Int} {j M : Nat} (hj : j < 288) (hl : 0 ≤ l j ∧ l j ≤ 20) : ∀ (k : Nat) (t : Int) (s : Wb) (B : ms), B.1 413 j = l j → k = (t - l j).toNat → (l j ≤ t ∧ t ≤ 20) → wbR 1 s → s.1.1 + 2 * k < 900000 → MBt B 1 s → ∃ B', EX XWb B B' ∧ MBt B' 1 (wbHigh 1 0 (upB 3 k s)) ∧ ∀ (Q : Option Value) (S' : ms), EV q 325 204 [some (.ref 367), some (vI M), some (vI x2), some (vI x3), some (vI x4), some (vI (l j)), some (vI ((j : Int) + 1))] [] B' Q S' → EV q 325 236 [some (.ref 367), some (vI M), some (vI x2), some (vI x3), some (vI x4), some (vI t), some (vI j)] [] B Q S' := by
  intro k
  induction k with
  | zero =>
    intro t s B h8 hk ht hr hs h
    obtain ⟨B1, a1, a2, a3⟩ := mw_b1 (q := q) (b := 0) (Or.inl rfl) hr (by omega) h
    refine ⟨B1, a2, a3, fun Q S' kk => vc_MD_writeSymbols_236 _ _ _ _ _ _ ?_⟩
    rw [show w32 (j : Int) = j from w32_of (by omega), h8, w32_of (x := l j) (by omega), w32_of (x := t) (by omega)]
    rw [show l j = t by omega] at kk
    exact ⟨by omega, cY (by omega) ⟨B1, a1, kk⟩⟩
  | succ k ih =>
    intro t s B h8 hk ht hr hs h
    have nn := wbHigh_n 2 3 s
    obtain ⟨B1, a1, a2, a3, -⟩ := mw_high_bits (q := q) (v := 3) (n := 2) (by decide) (by decide) hr (by omega) h
    obtain ⟨B', g1, g2, g3⟩ := ih (t - 1) (wbHigh 2 3 s) B1 (by rw [a2.2 413 j (by unfold XWb; omega)]; exact h8) (by omega) (by omega) (wbHigh_r _ _ _ hr) (by omega) a3
    refine ⟨B', a2.trans g1, g2, fun Q S' kk => vc_MD_writeSymbols_236 _ _ _ _ _ _ ?_⟩
    rw [show w32 (j : Int) = j from w32_of (by omega), h8, w32_of (x := l j) (by omega), w32_of (x := t) (by omega)]
    exact ⟨by omega, cNo (by omega) ⟨B1, a1, g3 Q S' kk⟩⟩
theorem md_lo {x2 x3 x4 : Int} {l : Int → Int} {M : Nat} (hM : M ≤ 288) (hl : ∀ j : Nat, j < M → 0 ≤ l j ∧ l j ≤ 20) : ∀ (v j : Nat) (t : Int) (s : Wb) (B : ms), j + v = M → (0 ≤ t ∧ t ≤ 20) → (∀ j : Nat, j < M → B.1 413 j = l j) → wbR 1 s → s.1.1 + 81 * v < 900000 → MBt B 1 s → ∃ B', EX XWb B B' ∧ MBt B' 1 (loB l j v t s) ∧ ∀ (Q : Option Value) (S' : ms), EV q 325 179 [some (.ref 367), some (vI M), some (vI x2), some (vI x3), some (vI (x4 + 1)), none, none] [] B' Q S' → EV q 325 204 [some (.ref 367), some (vI M), some (vI x2), some (vI x3), some (vI x4), some (vI t), some (vI j)] [] B Q S' := by
  intro v
  induction v with
  | zero =>
    intro j t s B hj ht h8 hr hs h
    have e : j = M := by omega
    subst e
    exact ⟨B, EX.refl _ B, h, fun Q S' k => vc_MD_writeSymbols_204 _ _ _ _ _ _ (cY (Int.le_refl _) k)⟩
  | succ v ih =>
    intro j t s B hj ht h8 hr hs h
    have lj := hl j (by omega)
    have a := upB_r 2 (l j - t).toNat s hr
    have b := upB_r 3 (t - l j).toNat _ a.1
    have c := wbHigh_n 1 0 (upB 3 (t - l j).toNat (upB 2 (l j - t).toNat s))
    obtain ⟨B1, a1, a2, a3⟩ := md_lup (q := q) (M := M) (x2 := x2) (x3 := x3) (x4 := x4) (by omega) lj (l j - t).toNat t s B (h8 j (by omega)) rfl ht hr (by omega) h
    obtain ⟨B2, b1, b2, b3⟩ := md_ldn (q := q) (M := M) (x2 := x2) (x3 := x3) (x4 := x4) (by omega) lj (t - l j).toNat (max t (l j)) _ B1 (by rw [a1.2 413 j (by unfold XWb; omega)]; exact h8 j (by omega)) (by omega) (by omega) a.1 (by omega) a2
    have y2 := a1.trans b1
    obtain ⟨B', g1, g2, g3⟩ := ih (j + 1) (l j) _ B2 (by omega) lj (fun j hj => by rw [y2.2 413 j (by unfold XWb; omega)]; exact h8 j hj) (wbHigh_r _ _ _ b.1) (by omega) b2
    refine ⟨B', y2.trans g1, by rw [loB_s]; exact g2, fun Q S' k => vc_MD_writeSymbols_204 _ _ _ _ _ _ ?_⟩
    have g4 := g3 Q S' k
    rw [show ((j + 1 : Nat) : Int) = (j : Int) + 1 by omega] at g4
    rw [show w32 (M : Int) = M from w32_of (by omega), show w32 (j : Int) = j from w32_of (by omega)]
    exact cNo (by omega) (a3 _ _ (b3 _ _ g4))
theorem md_lo0 {x2 x3 x4 : Int} {l : Int → Int} {M : Nat} {s : Wb} {B : ms} (hM : 1 ≤ M ∧ M ≤ 288) (h4 : 0 ≤ x4 ∧ x4 < 2) (hl : ∀ j : Nat, j < M → 0 ≤ l j ∧ l j ≤ 20) (h8 : ∀ j : Nat, j < M → B.1 413 j = l j) (hr : wbR 1 s) (hs : s.1.1 < 800000) (h : MBt B 1 s) : ∃ B', EX XWb B B' ∧ MBt B' 1 (loB l 0 M (l 0) (wbHigh 5 (l 0) s)) ∧ ∀ (Q : Option Value) (S' : ms), EV q 325 179 [some (.ref 367), some (vI M), some (vI x2), some (vI x3), some (vI (x4 + 1)), none, none] [] B' Q S' → EV q 325 179 [some (.ref 367), some (vI M), some (vI x2), some (vI x3), some (vI x4), none, none] [] B Q S' := by
  have l0 : 0 ≤ l 0 ∧ l 0 ≤ 20 := hl 0 (by omega)
  have nn := wbHigh_n 5 (l 0) s
  have e8 : B.1 413 0 = l 0 := h8 0 (by omega)
  obtain ⟨B1, a1, a2, a3, -⟩ := mw_high_bits (q := q) (v := l 0) (n := 5) (by omega) (by decide) hr (by omega) h
  obtain ⟨B', g1, g2, g3⟩ := md_lo (q := q) (x2 := x2) (x3 := x3) (x4 := x4) hM.2 hl M 0 (l 0) _ B1 (by omega) l0 (fun j hj => by rw [a2.2 413 j (by unfold XWb; omega)]; exact h8 j hj) (wbHigh_r _ _ _ hr) (by omega) a3
  refine ⟨B', a2.trans g1, g2, fun Q S' k => vc_MD_writeSymbols_179 _ _ _ _ ?_⟩
  rw [w32_of (x := x4) (by omega), show w32 0 = 0 by decide, e8, w32_of (x := l 0) (by omega)]
  exact cNo (by omega) ⟨by decide, B1, a1, g3 Q S' k⟩
end PSyo
