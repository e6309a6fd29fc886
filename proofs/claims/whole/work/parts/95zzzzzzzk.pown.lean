/-! pack: own blocks; the head -/
section POwH
variable {q : Nat × (Nat → Int32)}
theorem ord_t : ∀ k : Fin 19, sS 6 (k.val : Int) = sS 9 (k.val : Int) ∧ 0 ≤ sS 6 (k.val : Int) ∧ sS 6 (k.val : Int) < 19 := by decide +kernel
theorem ord_6 {k : Nat} (h : k < 19) : sS 9 (k : Int) = sS 6 (k : Int) ∧ 0 ≤ sS 6 (k : Int) ∧ sS 6 (k : Int) < 19 := by
  have y := ord_t ⟨k, h⟩
  exact ⟨y.1.symm, y.2⟩
/-- lengths of the third code, in their order -/
def orT (l : Int → Int) (k : Int) : Int := l (sS 6 k)
theorem orT_r {l : Int → Int} (hl : ∀ i : Nat, i < 19 → 0 ≤ l i ∧ l i ≤ 7) {k : Nat} (hk : k < 19) : 0 ≤ orT l k ∧ orT l k ≤ 7 := by
  have o := ord_6 hk
  have y := hl (sS 6 (k : Int)).toNat (by omega)
  rw [show (((sS 6 (k : Int)).toNat : Nat) : Int) = sS 6 (k : Int) by omega] at y
  exact y
theorem cl_trt {A : ms} {l : Int → Int} {x2 x3 x4 x6 x7 : Int} {a1 na1 a5 na5 : Nat} (ha1 : isRow a1 na1) (ha5 : isRow a5 na5) (hl : ∀ i : Nat, i < 19 → 0 ≤ l i ∧ l i ≤ 7) (h76 : ∀ i : Nat, i < 19 → A.1 76 i = l i) {R : Option Value} {S' : ms} : ∀ n : Nat, n ≤ 19 → EV q 68 193 [some (.ref 30), some (.ref a1), some (vI x2), some (vI x3), some (vI x4), some (.ref a5), some (vI x6), some (vI x7), some (vI (trF (orT l) 4 n)), none] [] A R S' → EV q 68 162 [some (.ref 30), some (.ref a1), some (vI x2), some (vI x3), some (vI x4), some (.ref a5), some (vI x6), some (vI x7), some (vI n), none] [] A R S' := by
  intro n
  induction n with
  | zero => exact fun _ k => vc_Blocks_ownBlock_162 _ _ _ _ _ _ _ _ ha1 _ _ ha5 (cY (by decide) k)
  | succ n ih =>
    intro hn k
    have o := ord_6 (k := n) (by omega)
    have r := orT_r hl (k := n) (by omega)
    have e : A.1 76 (sS 6 (n : Int)) = orT l n := by
      have := h76 (sS 6 (n : Int)).toNat (by omega)
      rw [show (((sS 6 (n : Int)).toNat : Nat) : Int) = sS 6 (n : Int) by omega] at this
      exact this
    rw [trF_s] at k
    refine vc_Blocks_ownBlock_162 _ _ _ _ _ _ _ _ ha1 _ _ ha5 ?_
    rw [w32_of (x := ((n + 1 : Nat) : Int)) (by omega), show ((n + 1 : Nat) : Int) - 1 = n by omega, show w32 (n : Int) = n from w32_of (by omega), w32_of (x := sS 6 (n : Int)) (by omega), e, w32_of (x := orT l n) (by omega)]
    by_cases d : n + 1 ≤ 4
    · rw [if_pos d] at k
      exact cY (by omega) k
    · rw [if_neg d] at k
      refine cNo (by omega) ⟨by omega, by omega, ?_⟩
      by_cases z : orT l n = 0
      · rw [if_pos z] at k
        exact cNN z (ih (by omega) k)
      · rw [if_neg z] at k
        exact cY z k
theorem md_trt {B : ms} {l : Int → Int} {x1 x2 x3 x4 x5 x6 x7 : Int} (hl : ∀ i : Nat, i < 19 → 0 ≤ l i ∧ l i ≤ 7) (h76 : ∀ i : Nat, i < 19 → B.1 389 i = l i) {R : Option Value} {S' : ms} : ∀ n : Nat, n ≤ 19 → EV q 296 398 [some (.ref 367), some (vI x1), some (vI x2), some (vI x3), some (vI x4), some (vI x5), some (vI x6), some (vI x7), some (vI (trF (orT l) 4 n)), none, none] [] B R S' → EV q 296 370 [some (.ref 367), some (vI x1), some (vI x2), some (vI x3), some (vI x4), some (vI x5), some (vI x6), some (vI x7), some (vI n), none, none] [] B R S' := by
  intro n
  induction n with
  | zero => exact fun _ k => vc_MD_writeOwn_370 _ _ _ _ _ _ _ _ (cY (by decide) k)
  | succ n ih =>
    intro hn k
    have o := ord_6 (k := n) (by omega)
    have r := orT_r hl (k := n) (by omega)
    have e : B.1 389 (sS 6 (n : Int)) = orT l n := by
      have := h76 (sS 6 (n : Int)).toNat (by omega)
      rw [show (((sS 6 (n : Int)).toNat : Nat) : Int) = sS 6 (n : Int) by omega] at this
      exact this
    rw [trF_s] at k
    refine vc_MD_writeOwn_370 _ _ _ _ _ _ _ _ ?_
    rw [w32_of (x := ((n + 1 : Nat) : Int)) (by omega), show ((n + 1 : Nat) : Int) - 1 = n by omega, show w32 (n : Int) = n from w32_of (by omega), o.1, w32_of (x := sS 6 (n : Int)) (by omega), e, w32_of (x := orT l n) (by omega)]
    by_cases d : n + 1 ≤ 4
    · rw [if_pos d] at k
      exact cY (by omega) k
    · rw [if_neg d] at k
      refine cNo (by omega) ⟨by omega, by omega, ?_⟩
      by_cases z : orT l n = 0
      · rw [if_pos z] at k
        exact cNN z (ih (by omega) k)
      · rw [if_neg z] at k
        exact cY z k
def orB (l : Int → Int) : Nat → Nat → Wb → Wb
  | _, 0, s => s
  | k, v + 1, s => orB l (k + 1) v (wbLow 3 (orT l k) s)
theorem orB_s (l : Int → Int) (k v : Nat) (s : Wb) : orB l k (v + 1) s = orB l (k + 1) v (wbLow 3 (orT l k) s) := rfl
theorem jor {l : Int → Int} {C : Nat} (hC : C ≤ 19) (hl : ∀ i : Nat, i < 19 → 0 ≤ l i ∧ l i ≤ 7) : ∀ (v j : Nat) (s : Wb), j + v = C → wbR 0 s → s.1.1 + 3 * v < 1000000 → (wbR 0 (orB l j v s) ∧ s.1.1 ≤ (orB l j v s).1.1 ∧ (orB l j v s).1.1 ≤ s.1.1 + 3 * v) ∧ (∀ (A : ms) (o a1 na1 : Nat) (x2 x3 x4 x6 x7 : Int), isRow a1 na1 → isRow o 12000 → (342 < o ∨ o = 7) → (∀ i : Nat, i < 19 → A.1 76 i = l i) → CBt A o 12000 s → ∃ A', EX (XRb o) A A' ∧ CBt A' o 12000 (orB l j v s) ∧ ∀ (R : Option Value) (S' : ms), EV q 68 251 [some (.ref 30), some (.ref a1), some (vI x2), some (vI x3), some (vI x4), some (.ref o), some (vI x6), some (vI x7), some (vI C), some (vI C)] [] A' R S' → EV q 68 251 [some (.ref 30), some (.ref a1), some (vI x2), some (vI x3), some (vI x4), some (.ref o), some (vI x6), some (vI x7), some (vI C), some (vI j)] [] A R S') ∧ ∀ (B : ms) (x1 x2 x3 x4 x5 x6 x7 : Int), (∀ i : Nat, i < 19 → B.1 389 i = l i) → MBt B 0 s → ∃ B', EX XWb B B' ∧ MBt B' 0 (orB l j v s) ∧ B'.1 367 12 = B.1 367 12 + (wbB (orB l j v s) - wbB s) ∧ ∀ (R : Option Value) (S' : ms), EV q 296 466 [some (.ref 367), some (vI x1), some (vI x2), some (vI x3), some (vI x4), some (vI x5), some (vI x6), some (vI x7), some (vI C), some (vI 0), none] [] B' R S' → EV q 296 433 [some (.ref 367), some (vI x1), some (vI x2), some (vI x3), some (vI x4), some (vI x5), some (vI x6), some (vI x7), some (vI C), some (vI j), none] [] B R S' := by
  intro v
  induction v with
  | zero =>
    intro j s hj hr hs
    have ej : j = C := by omega
    subst ej
    have e : orB l j 0 s = s := rfl
    rw [e]
    exact ⟨⟨hr, by omega, by omega⟩, fun A o a1 na1 x2 x3 x4 x6 x7 ha ho o3 h76 h => ⟨A, EX.refl _ A, h, fun R S' k => k⟩, fun B x1 x2 x3 x4 x5 x6 x7 h89 h => ⟨B, EX.refl _ B, h, by omega, fun R S' k => vc_MD_writeOwn_433 _ _ _ _ _ _ _ _ _ (cY (Int.le_refl _) k)⟩⟩
  | succ v ih =>
    intro j s hj hr hs
    have wj : Unit → w32 (j : Int) = j := fun _ => w32_of (by omega)
    have wC' : Unit → w32 (C : Int) = C := fun _ => w32_of (by omega)
    have o := ord_6 (k := j) (by omega)
    have r := orT_r hl (k := j) (by omega)
    rw [orB_s]
    obtain ⟨y, ey⟩ : ∃ y, y = orT l j := ⟨_, rfl⟩
    obtain ⟨d, ed⟩ : ∃ d, d = sS 6 (j : Int) := ⟨_, rfl⟩
    have ly : l d = y := by rw [ey, ed]; rfl
    rw [← ey] at r ⊢
    rw [← ed] at o
    obtain ⟨sa, esa⟩ : ∃ sa, sa = wbLow 3 y s := ⟨_, rfl⟩
    have ra : wbR 0 sa := by rw [esa]; exact wbLow_r _ _ _ hr
    have na := wbLow_n 3 y s
    rw [← esa] at na ⊢
    obtain ⟨⟨i1, i2, i3⟩, ic, im⟩ := ih (j + 1) sa (by omega) ra (by omega)
    refine ⟨⟨i1, by omega, by omega⟩, fun A o' a1 na1 x2 x3 x4 x6 x7 ha ho o3 h76 h => ?_, fun B x1 x2 x3 x4 x5 x6 x7 h89 h => ?_⟩
    · obtain ⟨A1, k1, k2, k3⟩ := cw_low_bits (q := q) (v := y) (n := 3) (by omega) (by decide) ho (by decide) hr (by omega) h
      rw [← esa] at k3
      obtain ⟨A', m1, m2, m3⟩ := ic A1 o' a1 na1 x2 x3 x4 x6 x7 ha ho o3 (fun i hi => by rw [k2.2 76 i (by unfold XRb; omega)]; exact h76 i hi) k3
      refine ⟨A', k2.trans m1, m2, fun R S' k => vc_Blocks_ownBlock_251 _ _ _ _ _ _ _ _ _ ha _ _ ho ?_⟩
      have m4 := m3 R S' k
      rw [show ((j + 1 : Nat) : Int) = (j : Int) + 1 by omega] at m4
      have e76 : A.1 76 d = y := by
        have := h76 d.toNat (by omega)
        rw [show ((d.toNat : Nat) : Int) = d by omega] at this
        rw [this, ly]
      rw [wC' (), wj (), ← ed, w32_of (x := d) (by omega), e76]
      exact cNo (by omega) ⟨by omega, by omega, A1, k1, m4⟩
    · obtain ⟨B1, k1, k2, k3, k4⟩ := mw_low_bits (q := q) (v := y) (n := 3) (by omega) (by decide) hr (by omega) h
      rw [← esa] at k3
      obtain ⟨B', m1, m2, m3, m4⟩ := im B1 x1 x2 x3 x4 x5 x6 x7 (fun i hi => by rw [k2.2 389 i (by unfold XWb; omega)]; exact h89 i hi) k3
      have b1 : wbB sa = wbB s + ((3 : Nat) : Int) := by rw [esa]; exact wbB_low _ _ _ hr.2.1
      refine ⟨B', k2.trans m1, m2, by omega, fun R S' k => vc_MD_writeOwn_433 _ _ _ _ _ _ _ _ _ ?_⟩
      have m5 := m4 R S' k
      rw [show ((j + 1 : Nat) : Int) = (j : Int) + 1 by omega] at m5
      have e89 : B.1 389 d = y := by
        have := h89 d.toNat (by omega)
        rw [show ((d.toNat : Nat) : Int) = d by omega] at this
        rw [this, ly]
      rw [wC' (), wj (), o.1, w32_of (x := d) (by omega), e89, w32_of (x := y) (by omega)]
      exact cNo (by omega) ⟨by omega, by omega, B1, k1, m5⟩
/-- the lengths told, in a row -/
def alG (l dl : Int → Int) (h : Nat) (k : Int) : Int := if k < h then l k else dl (k - h)
theorem cl_al1 {l dl : Int → Int} {x2 x3 x4 x7 : Int} {a1 na1 a5 na5 h : Nat} (ha1 : isRow a1 na1) (ha5 : isRow a5 na5) (hh : h ≤ 286) : ∀ (v i : Nat) (A : ms), i + v = h → (∀ s : Nat, s < 286 → A.1 54 s = l s) → (∀ k : Int, 0 ≤ k → k < i → A.1 89 k = alG l dl h k) → ∃ A', EX (fun a _ => a = 89) A A' ∧ (∀ k : Int, 0 ≤ k → k < h → A'.1 89 k = alG l dl h k) ∧ ∀ (R : Option Value) (S' : ms), EV q 68 101 [some (.ref 30), some (.ref a1), some (vI x2), some (vI x3), some (vI x4), some (.ref a5), some (vI h), some (vI x7), some (vI 0), none] [] A' R S' → EV q 68 68 [some (.ref 30), some (.ref a1), some (vI x2), some (vI x3), some (vI x4), some (.ref a5), some (vI h), some (vI x7), some (vI i), none] [] A R S' := by
  intro v
  induction v with
  | zero =>
    intro i A hi h54 h89
    have e : i = h := by omega
    subst e
    exact ⟨A, EX.refl _ A, h89, fun R S' k => vc_Blocks_ownBlock_68 _ _ _ _ _ _ _ _ ha1 _ _ ha5 (cY (Int.le_refl _) k)⟩
  | succ v ih =>
    intro i A hi h54 h89
    obtain ⟨A', g1, g2, g3⟩ := ih (i + 1) (wI A 89 i (l i)) (by omega) (fun s hs => by rw [wI_no _ (by omega)]; exact h54 s hs) (fun k k0 k1 => by
      by_cases e : k = i
      · rw [e, wI_at]
        unfold alG
        rw [if_pos (by omega)]
      · rw [wI_no _ (by omega)]
        exact h89 k k0 (by omega))
    refine ⟨A', ((EX.refl _ A).wr rfl).trans g1, g2, fun R S' k => vc_Blocks_ownBlock_68 _ _ _ _ _ _ _ _ ha1 _ _ ha5 ?_⟩
    have g4 := g3 R S' k
    rw [show ((i + 1 : Nat) : Int) = (i : Int) + 1 by omega] at g4
    rw [show w32 (h : Int) = h from w32_of (by omega), show w32 (i : Int) = i from w32_of (by omega), h54 i (by omega)]
    exact cNo (by omega) ⟨by omega, by omega, fun S3 q3 => by rw [q3]; exact g4⟩
theorem cl_al2 {l dl : Int → Int} {x2 x3 x4 : Int} {a1 na1 a5 na5 h d : Nat} (ha1 : isRow a1 na1) (ha5 : isRow a5 na5) (hh : h ≤ 286 ∧ d ≤ 30) : ∀ (v i : Nat) (A : ms), i + v = d → (∀ s : Nat, s < 30 → A.1 65 s = dl s) → (∀ k : Int, 0 ≤ k → k < h + i → A.1 89 k = alG l dl h k) → ∃ A', EX (fun a _ => a = 89) A A' ∧ (∀ k : Int, 0 ≤ k → k < h + d → A'.1 89 k = alG l dl h k) ∧ ∀ (R : Option Value) (S' : ms), EV q 68 101 [some (.ref 30), some (.ref a1), some (vI x2), some (vI x3), some (vI x4), some (.ref a5), some (vI h), some (vI d), some (vI d), none] [] A' R S' → EV q 68 101 [some (.ref 30), some (.ref a1), some (vI x2), some (vI x3), some (vI x4), some (.ref a5), some (vI h), some (vI d), some (vI i), none] [] A R S' := by
  intro v
  induction v with
  | zero =>
    intro i A hi h54 h89
    have e : i = d := by omega
    subst e
    exact ⟨A, EX.refl _ A, h89, fun R S' k => k⟩
  | succ v ih =>
    intro i A hi h54 h89
    obtain ⟨A', g1, g2, g3⟩ := ih (i + 1) (wI A 89 ((h : Int) + i) (dl i)) (by omega) (fun s hs => by rw [wI_no _ (by omega)]; exact h54 s hs) (fun k k0 k1 => by
      by_cases e : k = (h : Int) + i
      · rw [e, wI_at]
        unfold alG
        rw [if_neg (by omega), show (h : Int) + i - h = i by omega]
      · rw [wI_no _ (by omega)]
        exact h89 k k0 (by omega))
    refine ⟨A', ((EX.refl _ A).wr rfl).trans g1, g2, fun R S' k => vc_Blocks_ownBlock_101 _ _ _ _ _ _ _ _ ha1 _ _ ha5 ?_⟩
    have g4 := g3 R S' k
    rw [show ((i + 1 : Nat) : Int) = (i : Int) + 1 by omega] at g4
    rw [show w32 (d : Int) = d from w32_of (by omega), show w32 (i : Int) = i from w32_of (by omega), w32_of (x := (h : Int) + i) (by omega), h54 i (by omega)]
    exact cNo (by omega) ⟨by omega, by omega, fun S3 q3 => by rw [q3]; exact g4⟩
theorem md_al1 {l dl : Int → Int} {x1 x2 x3 x4 : Int} {h d : Nat} (hh : h ≤ 286 ∧ d ≤ 30) : ∀ (v i : Nat) (B : ms), i + v = h + d → (∀ s : Nat, s < 286 → B.1 385 s = l s) → (∀ s : Nat, s < 30 → B.1 387 s = dl s) → (∀ k : Int, 0 ≤ k → k < i → B.1 401 k = alG l dl h k) → ∃ B', EX (fun a _ => a = 401) B B' ∧ (∀ k : Int, 0 ≤ k → k < h + d → B'.1 401 k = alG l dl h k) ∧ ∀ (R : Option Value) (S' : ms), EV q 296 274 [some (.ref 367), some (vI x1), some (vI x2), some (vI x3), some (vI x4), some (vI h), some (vI d), some (vI ((h : Int) + d)), none, none, none] [] B' R S' → EV q 296 274 [some (.ref 367), some (vI x1), some (vI x2), some (vI x3), some (vI x4), some (vI h), some (vI d), some (vI i), none, none, none] [] B R S' := by
  intro v
  induction v with
  | zero =>
    intro i B hi h5 h7 h1
    have e : (i : Int) = (h : Int) + d := by omega
    rw [e]
    exact ⟨B, EX.refl _ B, fun k k0 k1 => h1 k k0 (by omega), fun R S' k => k⟩
  | succ v ih =>
    intro i B hi h5 h7 h1
    obtain ⟨B', g1, g2, g3⟩ := ih (i + 1) (wI B 401 i (alG l dl h i)) (by omega) (fun s hs => by rw [wI_no _ (by omega)]; exact h5 s hs) (fun s hs => by rw [wI_no _ (by omega)]; exact h7 s hs) (fun k k0 k1 => by
      by_cases e : k = i
      · rw [e, wI_at]
      · rw [wI_no _ (by omega)]
        exact h1 k k0 (by omega))
    refine ⟨B', ((EX.refl _ B).wr rfl).trans g1, g2, fun R S' k => vc_MD_writeOwn_274 _ _ _ _ _ _ _ ?_⟩
    have g4 := g3 R S' k
    rw [show ((i + 1 : Nat) : Int) = (i : Int) + 1 by omega] at g4
    have wi : Unit → w32 (i : Int) = i := fun _ => w32_of (by omega)
    have k317 : EV q 296 317 [some (.ref 367), some (vI x1), some (vI x2), some (vI x3), some (vI x4), some (vI h), some (vI d), some (vI i), none, none, none] [vI (alG l dl h i), vI i, .ref 401] B R S' := vc_MD_writeOwn_317 _ _ _ _ _ _ _ _ _ (by
      rw [wi ()]
      exact ⟨by omega, fun S2 q2 => by rw [q2]; exact g4⟩)
    rw [w32_of (x := (h : Int) + d) (by omega), show w32 (h : Int) = h from w32_of (by omega), wi ()]
    refine cNo (by omega) ?_
    unfold alG at k317
    by_cases c : i < h
    · rw [if_pos (by omega)] at k317
      rw [h5 i (by omega)]
      exact cNo (by omega) ⟨by omega, k317⟩
    · rw [if_neg (by omega)] at k317
      have e7 := h7 (i - h) (by omega)
      rw [show ((i - h : Nat) : Int) = (i : Int) - h by omega] at e7
      rw [w32_of (x := (i : Int) - h) (by omega), e7]
      exact cY (by omega) ⟨by omega, k317⟩
theorem CodW_k {A A' : ms} {b n : Nat} {l : Int → Int} (h : CodW A b n l) (e : ∀ (a : Nat) (k : Int), b ≤ a → a ≤ b + 10 → A'.1 a k = A.1 a k) : CodW A' b n l := ⟨h.1, h.2.1, fun s hs => by rw [e _ _ (by omega) (by omega)]; exact h.2.2.1 s hs, fun s hs y => by rw [e _ _ (by omega) (by omega)]; exact h.2.2.2 s hs y⟩
theorem CodN_k {B B' : ms} {a1 a2 n : Nat} {l : Int → Int} (h : CodN B a1 a2 n l) (e : ∀ (a : Nat) (k : Int), a = a1 ∨ a = a2 → B'.1 a k = B.1 a k) : CodN B' a1 a2 n l := ⟨fun s hs => by rw [e _ _ (Or.inl rfl)]; exact h.1 s hs, fun s hs y => by rw [e _ _ (Or.inr rfl)]; exact h.2 s hs y⟩
end POwH
