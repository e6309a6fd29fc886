/-! pack: the longest match; the reference tries every distance -/
section PLong
variable {q : Nat × (Nat → Int32)} {x : Int} {t : Int → Int}
/-- l octets at i are those d before them -/
def Mt (t : Int → Int) (i d l : Int) : Prop := ∀ j : Int, 0 ≤ j → j < l → t (i + j) = t (i + j - d)
theorem Mt_le {i d l m : Int} (h : Mt t i d m) (hl : l ≤ m) : Mt t i d l := fun j j0 j1 => h j j0 (by omega)
theorem Mt_s {i d l : Int} (h : Mt t i d l) (hl : 0 ≤ l) (e : t (i + l) = t (i + l - d)) : Mt t i d (l + 1) := fun j j0 j1 => by
  by_cases c : j = l
  · rw [c]; exact e
  · exact h j j0 (by omega)
/-- n is the longest match at i, top at most, and d the least distance that has it -/
def LM (t : Int → Int) (i top n d : Int) : Prop := (0 ≤ n ∧ n ≤ top) ∧ (n < top → ∀ d', 1 ≤ d' → d' ≤ i → ¬ Mt t i d' (n + 1)) ∧ (0 < n → (1 ≤ d ∧ d ≤ i) ∧ Mt t i d n ∧ ∀ d', 1 ≤ d' → d' < d → ¬ Mt t i d' n) ∧ (n = 0 → d = 0)
theorem LM_u {i top n d n' d' : Int} (h : LM t i top n d) (h1 : 0 ≤ n' ∧ n' ≤ top) (h2 : n' < top → ∀ e, 1 ≤ e → e ≤ i → ¬ Mt t i e (n' + 1)) (h3 : 0 < n' → (1 ≤ d' ∧ d' ≤ i) ∧ Mt t i d' n' ∧ ∀ e, 1 ≤ e → e < d' → ¬ Mt t i e n') (h4 : n' = 0 → d' = 0) : n' = n ∧ d' = d := by
  obtain ⟨a1, a2, a3, a4⟩ := h
  have en : n' = n := by
    by_cases c : n' < n
    · have := a3 (by omega)
      exact absurd (Mt_le this.2.1 (by omega)) (h2 (by omega) d this.1.1 this.1.2)
    · by_cases c2 : n < n'
      · have := h3 (by omega)
        exact absurd (Mt_le this.2.1 (by omega)) (a2 (by omega) d' this.1.1 this.1.2)
      · omega
  subst en
  refine ⟨rfl, ?_⟩
  by_cases c : n' = 0
  · rw [h4 c, a4 c]
  · have b1 := a3 (by omega)
    have b2 := h3 (by omega)
    by_cases c1 : d' < d
    · exact absurd b2.2.1 (b1.2.2 d' b2.1.1 c1)
    · by_cases c2 : d < d'
      · exact absurd b1.2.1 (b2.2.2 d b1.1.1 c2)
      · omega
/-- for each shorter length the least distance -/
def LF (t : Int → Int) (i n : Int) (F : Int → Int) : Prop := ∀ k : Int, 1 ≤ k → k ≤ n → k < 260 → (1 ≤ F k ∧ F k ≤ i) ∧ Mt t i (F k) k ∧ ∀ d', 1 ≤ d' → d' < F k → ¬ Mt t i d' k
def XLo (a : Nat) (k : Int) : Prop := (a = 367 ∧ (k = 26 ∨ k = 27)) ∨ a = 379
theorem md_longest {i most reach : Int} (hx : 0 ≤ x ∧ x ≤ 6000) (ht : ∀ k : Int, 0 ≤ k → k < x → 0 ≤ t k ∧ t k < 256) (hi : 0 ≤ i ∧ i < x) (hm : 1 ≤ most ∧ most ≤ 6000) (hre : 6000 ≤ reach ∧ reach < 100000) : ∃ n d : Int, LM t i (min most (x - i)) n d ∧ ∀ B : ms, TXm B x t → ∃ B', EX XLo B B' ∧ B'.1 367 26 = n ∧ B'.1 367 27 = d ∧ LF t i n (B'.1 379) ∧ EV q 293 0 [some (.ref 367), some (.ref 368), some (vI x), some (vI i), some (vI most), some (vI reach), none, none, none, none, none] [] B none B' := by
  obtain ⟨top, etop⟩ : ∃ top, top = min most (x - i) := ⟨_, rfl⟩
  rw [← etop]
  have wtop : w32 top = top := w32_of (by omega)
  have wi : w32 i = i := w32_of (by omega)
  have wre : w32 reach = reach := w32_of (by omega)
  have wm : w32 most = most := w32_of (by omega)
  have eB : ∀ B : ms, TXm B x t → ∀ a b : Int, 0 ≤ a → a < x → 0 ≤ b → b < x → (w32 (B.1 368 a) = w32 (B.1 368 b) ↔ t a = t b) := fun B hB a b a0 a1 b0 b1 => by
    rw [(hB.2 a a0 a1).2, (hB.2 b b0 b1).2, w32_of (x := b8 (t a)) (by have := b8_rg (t a); omega), w32_of (x := b8 (t b)) (by have := b8_rg (t b); omega)]
    exact b8_eq (ht a a0 a1) (ht b b0 b1)
  have keep : ∀ B B' : ms, EX XLo B B' → TXm B x t → TXm B' x t := fun B B' e h => TXm_e h (fun a k y => e.2 a k (by unfold XLo; omega))
  -- the length at one distance
  have lq : ∀ (best d : Int), 1 ≤ d → d ≤ i → ∀ (v : Nat) (l : Int), l + v = top → 0 ≤ l → Mt t i d l → ∃ L : Int, (l ≤ L ∧ L ≤ top) ∧ Mt t i d L ∧ (L < top → ¬ Mt t i d (L + 1)) ∧ ∀ (B : ms) (R : Option Value) (T : ms), TXm B x t → EV q 293 104 [some (.ref 367), some (.ref 368), some (vI x), some (vI i), some (vI most), some (vI reach), some (vI best), some (vI top), some (vI d), some (vI L), none] [] B R T → EV q 293 73 [some (.ref 367), some (.ref 368), some (vI x), some (vI i), some (vI most), some (vI reach), some (vI best), some (vI top), some (vI d), some (vI l), none] [] B R T := by
    intro best d d1 d2 v
    induction v with
    | zero =>
      intro l hl l0 hM
      have e : l = top := by omega
      subst e
      exact ⟨l, ⟨Int.le_refl _, Int.le_refl _⟩, hM, fun y => absurd y (by omega), fun B R T hB k => vc_MD_longest_73 _ _ _ _ _ _ _ _ 368 6000 rfl (cY (Int.le_refl _) k)⟩
    | succ v ih =>
      intro l hl l0 hM
      have wl : w32 l = l := w32_of (by omega)
      have w1 : w32 (i + l) = i + l := w32_of (by omega)
      have w2 : w32 (i + l - d) = i + l - d := w32_of (by omega)
      by_cases c : t (i + l) = t (i + l - d)
      · obtain ⟨L, i1, i2, i3, i4⟩ := ih (l + 1) (by omega) (by omega) (Mt_s hM l0 c)
        refine ⟨L, by omega, i2, i3, fun B R T hB k => vc_MD_longest_73 _ _ _ _ _ _ _ _ 368 6000 rfl ?_⟩
        rw [wtop, wl, w1, w2]
        exact cNo (by omega) ⟨by omega, by omega, cNN ((eB B hB (i + l) (i + l - d) (by omega) (by omega) (by omega) (by omega)).2 c) (i4 B R T hB k)⟩
      · refine ⟨l, by omega, hM, fun _ y => c (y l l0 (by omega)), fun B R T hB k => vc_MD_longest_73 _ _ _ _ _ _ _ _ 368 6000 rfl ?_⟩
        rw [wtop, wl, w1, w2]
        exact cNo (by omega) ⟨by omega, by omega, cY (fun y => c ((eB B hB (i + l) (i + l - d) (by omega) (by omega) (by omega) (by omega)).1 y)) k⟩
  -- leastFor is written
  have wq : ∀ (best d L : Int), 0 ≤ best → 1 ≤ d → best < L → L ≤ 6000 → ∀ (v : Nat) (k0 : Int) (B : ms), k0 + v = L + 1 → best < k0 → ∃ B', EX (fun a _ => a = 379) B B' ∧ (∀ k : Int, B'.1 379 k = if k0 ≤ k ∧ k ≤ L ∧ k < 260 then d else B.1 379 k) ∧ ∃ x10 : Int, ∀ (R : Option Value) (T : ms), EV q 293 147 [some (.ref 367), some (.ref 368), some (vI x), some (vI i), some (vI most), some (vI reach), some (vI best), some (vI top), some (vI d), some (vI L), some (vI x10)] [] B' R T → EV q 293 117 [some (.ref 367), some (.ref 368), some (vI x), some (vI i), some (vI most), some (vI reach), some (vI best), some (vI top), some (vI d), some (vI L), some (vI k0)] [] B R T := by
    intro best d L b0 d1 hbL hL6 v
    induction v with
    | zero =>
      intro k0 B hk hb
      refine ⟨B, EX.refl _ B, fun k => by rw [if_neg (by omega)], k0, fun R T k => vc_MD_longest_117 _ _ _ _ _ _ _ _ _ 368 6000 rfl ?_⟩
      rw [w32_of (x := L) (by omega), w32_of (x := k0) (by omega)]
      exact cY (by omega) k
    | succ v ih =>
      intro k0 B hk hb
      by_cases c : 260 ≤ k0
      · refine ⟨B, EX.refl _ B, fun k => by rw [if_neg (by omega)], k0, fun R T k => vc_MD_longest_117 _ _ _ _ _ _ _ _ _ 368 6000 rfl ?_⟩
        rw [w32_of (x := L) (by omega), w32_of (x := k0) (by omega)]
        exact cNo (by omega) (cY c k)
      · obtain ⟨B', i1, i2, x10, i3⟩ := ih (k0 + 1) (wI B 379 k0 d) (by omega) (by omega)
        refine ⟨B', ((EX.refl _ B).wr rfl).trans i1, fun k => ?_, x10, fun R T k => vc_MD_longest_117 _ _ _ _ _ _ _ _ _ 368 6000 rfl ?_⟩
        · rw [i2, rI_I]
          by_cases e : k = k0
          · rw [if_neg (by omega), if_pos ⟨rfl, e⟩, if_pos (by omega)]
          · have ek : ¬ ((379 : Nat) = 379 ∧ k = k0) := fun y => e y.2
            by_cases e2 : k0 + 1 ≤ k ∧ k ≤ L ∧ k < 260
            · rw [if_pos e2, if_pos (by omega)]
            · rw [if_neg e2, if_neg ek, if_neg (by omega)]
        · rw [w32_of (x := L) (by omega), w32_of (x := k0) (by omega)]
          exact cNo (by omega) (cNo c ⟨by omega, fun S2 f2 => by rw [f2]; exact i3 R T k⟩)
  -- all distances
  have lp : ∀ (v : Nat) (d best fd : Int), d + v = i + 1 → 1 ≤ d → (0 ≤ best ∧ best ≤ top) → (best < top → ∀ d', 1 ≤ d' → d' < d → ¬ Mt t i d' (best + 1)) → (0 < best → (1 ≤ fd ∧ fd < d) ∧ Mt t i fd best ∧ ∀ d', 1 ≤ d' → d' < fd → ¬ Mt t i d' best) → (best = 0 → fd = 0) → ∃ n dd : Int, LM t i top n dd ∧ ∀ B : ms, TXm B x t → B.1 367 27 = fd → LF t i best (B.1 379) → ∃ B', EX XLo B B' ∧ B'.1 367 26 = n ∧ B'.1 367 27 = dd ∧ LF t i n (B'.1 379) ∧ EV q 293 29 [some (.ref 367), some (.ref 368), some (vI x), some (vI i), some (vI most), some (vI reach), some (vI best), some (vI top), some (vI d), none, none] [] B none B' := by
    intro v
    induction v with
    | zero =>
      intro d best fd hd d1 hb h1 h2 h3
      refine ⟨best, fd, ⟨hb, fun c d' e1 e2 => h1 c d' e1 (by omega), fun c => ⟨⟨(h2 c).1.1, by have := (h2 c).1; omega⟩, (h2 c).2⟩, h3⟩, fun B hB e27 hF => ⟨wI B 367 26 best, (EX.refl _ B).wr (by unfold XLo; omega), by rw [wI_at], by rw [wI_no _ (by omega)]; exact e27, fun k k1 k2 k3 => by rw [wI_no _ (by omega)]; exact hF k k1 k2 k3, vc_MD_longest_29 _ _ _ _ _ _ _ 368 6000 rfl ?_⟩⟩
      rw [wi, w32_of (x := d) (by omega)]
      exact cY (by omega) (vc_MD_longest_163 _ _ _ _ _ _ _ 368 6000 rfl (fun S1 f1 => ⟨rfl, f1.symm⟩))
    | succ v ih =>
      intro d best fd hd d1 hb h1 h2 h3
      have wd : w32 d = d := w32_of (by omega)
      have wb : w32 best = best := w32_of (by omega)
      by_cases cb : best = top
      · refine ⟨best, fd, ⟨hb, fun c => absurd c (by omega), fun c => ⟨⟨(h2 c).1.1, by have := (h2 c).1; omega⟩, (h2 c).2⟩, h3⟩, fun B hB e27 hF => ⟨wI B 367 26 best, (EX.refl _ B).wr (by unfold XLo; omega), by rw [wI_at], by rw [wI_no _ (by omega)]; exact e27, fun k k1 k2 k3 => by rw [wI_no _ (by omega)]; exact hF k k1 k2 k3, vc_MD_longest_29 _ _ _ _ _ _ _ 368 6000 rfl ?_⟩⟩
        rw [wi, wd, wre, wtop, wb]
        exact cNo (by omega) (cNo (by omega) (cY (by omega) (vc_MD_longest_163 _ _ _ _ _ _ _ 368 6000 rfl (fun S1 f1 => ⟨rfl, f1.symm⟩))))
      have w1 : w32 (i + best) = i + best := w32_of (by omega)
      have w2 : w32 (i + best - d) = i + best - d := w32_of (by omega)
      have nxt : ¬ Mt t i d (best + 1) → ∃ n dd : Int, LM t i top n dd ∧ ∀ B : ms, TXm B x t → B.1 367 27 = fd → LF t i best (B.1 379) → ∃ B', EX XLo B B' ∧ B'.1 367 26 = n ∧ B'.1 367 27 = dd ∧ LF t i n (B'.1 379) ∧ EV q 293 29 [some (.ref 367), some (.ref 368), some (vI x), some (vI i), some (vI most), some (vI reach), some (vI best), some (vI top), some (vI (d + 1)), none, none] [] B none B' := fun hn => ih (d + 1) best fd (by omega) (by omega) hb (fun c d' e1 e2 => by
        by_cases e : d' = d
        · rw [e]; exact hn
        · exact h1 c d' e1 (by omega)) (fun c => ⟨⟨(h2 c).1.1, by have := (h2 c).1; omega⟩, (h2 c).2⟩) h3
      by_cases ct : t (i + best) = t (i + best - d)
      case neg =>
        obtain ⟨n, dd, g1, g2⟩ := nxt (fun y => ct (y best hb.1 (by omega)))
        refine ⟨n, dd, g1, fun B hB e27 hF => ?_⟩
        obtain ⟨B', k1, k2, k3, k4, k5⟩ := g2 B hB e27 hF
        refine ⟨B', k1, k2, k3, k4, vc_MD_longest_29 _ _ _ _ _ _ _ 368 6000 rfl ?_⟩
        rw [wi, wd, wre, wtop, wb, w1, w2]
        exact cNo (by omega) (cNo (by omega) (cNo (by omega) ⟨by omega, by omega, cNo (fun y => ct ((eB B hB (i + best) (i + best - d) (by omega) (by omega) (by omega) (by omega)).1 y)) (vc_MD_longest_157 _ _ _ _ _ _ _ 368 6000 rfl k5)⟩))
      obtain ⟨L, j1, j2, j3, j4⟩ := lq best d d1 (by omega) top.toNat 0 (by omega) (by omega) (fun j j0 j1 => absurd j1 (by omega))
      have wL : w32 L = L := w32_of (by omega)
      by_cases cL : L ≤ best
      · obtain ⟨n, dd, g1, g2⟩ := nxt (fun y => by
          by_cases e : L < top
          · exact j3 e (Mt_le y (by omega))
          · omega)
        refine ⟨n, dd, g1, fun B hB e27 hF => ?_⟩
        obtain ⟨B', k1, k2, k3, k4, k5⟩ := g2 B hB e27 hF
        refine ⟨B', k1, k2, k3, k4, vc_MD_longest_29 _ _ _ _ _ _ _ 368 6000 rfl ?_⟩
        rw [wi, wd, wre, wtop, wb, w1, w2]
        refine cNo (by omega) (cNo (by omega) (cNo (by omega) ⟨by omega, by omega, cY ((eB B hB (i + best) (i + best - d) (by omega) (by omega) (by omega) (by omega)).2 ct) (j4 B _ _ hB (vc_MD_longest_104 _ _ _ _ _ _ _ _ 368 6000 rfl ?_))⟩))
        rw [wL, wb]
        exact cY cL (vc_MD_longest_157 _ _ _ _ _ _ _ 368 6000 rfl k5)
      · -- it is longer
        have no : ∀ k, best < k → ∀ d', 1 ≤ d' → d' < d → ¬ Mt t i d' k := fun k hk d' e1 e2 y => h1 (by omega) d' e1 e2 (Mt_le y (by omega))
        obtain ⟨n, dd, g1, g2⟩ := ih (d + 1) L d (by omega) (by omega) ⟨by omega, j1.2⟩ (fun c d' e1 e2 => by
          by_cases e : d' = d
          · rw [e]; exact j3 c
          · exact no _ (by omega) d' e1 (by omega)) (fun _ => ⟨⟨d1, by omega⟩, j2, fun d' e1 e2 => no L (by omega) d' e1 e2⟩) (fun y => absurd y (by omega))
        refine ⟨n, dd, g1, fun B hB e27 hF => ?_⟩
        obtain ⟨B1, u1, u2, x10, u3⟩ := wq best d L hb.1 d1 (by omega) (by omega) (L - best).toNat (best + 1) B (by omega) (by omega)
        have x0 : EX XLo B B1 := EX.mono u1 (fun a k y => Or.inr y)
        have x1 : EX XLo B (wI B1 367 27 d) := x0.wr (by unfold XLo; omega)
        obtain ⟨B', k1, k2, k3, k4, k5⟩ := g2 (wI B1 367 27 d) (keep _ _ x1 hB) (by rw [wI_at]) (fun k k1 k2 k3 => by
          rw [wI_no _ (by omega), u2]
          by_cases e : best + 1 ≤ k
          · rw [if_pos (by omega)]
            exact ⟨⟨d1, by omega⟩, Mt_le j2 (by omega), fun d' e1 e2 => no k (by omega) d' e1 e2⟩
          · rw [if_neg (by omega)]
            exact hF k k1 (by omega) k3)
        refine ⟨B', x1.trans k1, k2, k3, k4, vc_MD_longest_29 _ _ _ _ _ _ _ 368 6000 rfl ?_⟩
        rw [wi, wd, wre, wtop, wb, w1, w2]
        refine cNo (by omega) (cNo (by omega) (cNo (by omega) ⟨by omega, by omega, cY ((eB B hB (i + best) (i + best - d) (by omega) (by omega) (by omega) (by omega)).2 ct) (j4 B _ _ hB (vc_MD_longest_104 _ _ _ _ _ _ _ _ 368 6000 rfl ?_))⟩))
        rw [wL, wb]
        exact cNo cL (u3 _ _ (vc_MD_longest_147 _ _ _ _ _ _ _ _ _ 368 6000 rfl (fun S1 f1 => by rw [f1]; exact vc_MD_longest_157 _ _ _ _ _ _ _ 368 6000 rfl k5)))
  obtain ⟨n, d, g1, g2⟩ := lp i.toNat 1 0 0 (by omega) (by omega) ⟨by omega, by omega⟩ (fun _ d' e1 e2 => absurd e2 (by omega)) (fun y => absurd y (by omega)) (fun _ => rfl)
  refine ⟨n, d, g1, fun B hB => ?_⟩
  have x0 : EX XLo B (wI B 367 27 0) := (EX.refl _ B).wr (by unfold XLo; omega)
  obtain ⟨B', k1, k2, k3, k4, k5⟩ := g2 (wI B 367 27 0) (keep _ _ x0 hB) (by rw [wI_at]) (fun k k1 k2 k3 => absurd k2 (by omega))
  refine ⟨B', x0.trans k1, k2, k3, k4, vc_MD_longest _ _ _ _ 368 6000 rfl ?_⟩
  rw [wm, w32_of (x := x - i) (by omega)]
  by_cases c : most ≤ x - i
  · have e : top = most := by omega
    rw [← e]
    exact cY (by omega) (vc_MD_longest_19 _ _ _ _ _ _ 368 6000 rfl (fun S1 f1 => by rw [f1]; rw [← e] at k5; exact k5))
  · have e : x - i = top := by omega
    rw [e]
    exact cNo (by omega) (vc_MD_longest_19 _ _ _ _ _ _ 368 6000 rfl (fun S1 f1 => by rw [f1]; exact k5))
end PLong
