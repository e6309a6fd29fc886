/-! delta: the class looks for the longest like piece along its chains -/
section Delta2
variable {q : Nat × (Nat → Int32)}
/-- the best piece before lo -/
def J8 (F G : Int → Int) (n m i lo b pos : Int) : Prop := (b = 7 ∧ ∀ p l, 0 ≤ p → p < lo → lk F G n m i p l → l ≤ 7) ∨ (8 ≤ b ∧ (0 ≤ pos ∧ pos < n ∧ pos < lo) ∧ lk F G n m i pos b ∧ (∀ p l, 0 ≤ p → p < pos → lk F G n m i p l → l < b) ∧ ∀ p l, 0 ≤ p → p < lo → lk F G n m i p l → l ≤ b)
theorem J8_all {F G : Int → Int} {n m i lo b pos : Int} (h : J8 F G n m i lo b pos) : 7 ≤ b ∧ ∀ p l, 0 ≤ p → p < lo → lk F G n m i p l → l ≤ b := by
  rcases h with ⟨h1, h2⟩ | ⟨h1, h2, h3, h4, h5⟩
  · exact ⟨by omega, fun p l a1 a2 a3 => by have := h2 p l a1 a2 a3; omega⟩
  · exact ⟨by omega, h5⟩
theorem J8_up {F G : Int → Int} {n m i lo lo' b pos : Int} (h : J8 F G n m i lo b pos) (hl : lo ≤ lo') (hp : ∀ p l, lo ≤ p → p < lo' → lk F G n m i p l → l ≤ b) : J8 F G n m i lo' b pos := by
  rcases h with ⟨h1, h2⟩ | ⟨h1, h2, h3, h4, h5⟩
  · refine Or.inl ⟨h1, fun p l a1 a2 a3 => ?_⟩
    by_cases c : p < lo
    · exact h2 p l a1 c a3
    · have := hp p l (by omega) a2 a3
      omega
  · refine Or.inr ⟨h1, ⟨h2.1, h2.2.1, by omega⟩, h3, h4, fun p l a1 a2 a3 => ?_⟩
    by_cases c : p < lo
    · exact h5 p l a1 c a3
    · exact hp p l (by omega) a2 a3
theorem J8_D {F G : Int → Int} {n m i lo b pos : Int} (h : J8 F G n m i lo b pos) (hp : ∀ p l, lo ≤ p → p < n → lk F G n m i p l → l ≤ b) : D8 F G n m i (if 8 ≤ b then b else 0) pos := by
  rcases h with ⟨h1, h2⟩ | ⟨h1, h2, h3, h4, h5⟩
  · rw [if_neg (by omega)]
    refine Or.inl ⟨rfl, fun p l a1 a2 a3 => ?_⟩
    by_cases c : p < lo
    · exact h2 p l a1 c a3
    · have := hp p l (by omega) a2 a3
      omega
  · rw [if_pos h1]
    refine Or.inr ⟨h1, ⟨h2.1, h2.2.1⟩, h3, h4, fun p l a1 a2 a3 => ?_⟩
    by_cases c : p < lo
    · exact h5 p l a1 c a3
    · exact hp p l (by omega) a2 a3
def X4 (a : Nat) (k : Int) : Prop := a = 10 ∧ k = 4
theorem cf_long {A : ms} {a1 c n1 : Nat} {F G : Int → Int} {n m i : Int} (ha : isRow a1 12000) (hc : SH c = (0, n1, [])) (hn1 : n ≤ n1) (ha3 : 300 < a1) (hc3 : 300 < c) (hn : 0 ≤ n ∧ n ≤ 12000) (hm : 0 ≤ m ∧ m ≤ 12000) (hi : 0 ≤ i ∧ i < m) (ec : A.2.2 10 2 = c) (e3 : A.1 10 3 = n) (em : A.1 a1 1 = m) (hF : ∀ k : Int, 0 ≤ k → k < n → (0 ≤ F k ∧ F k < 256) ∧ A.1 c k = F k) (hG : ∀ k : Int, 0 ≤ k → k < m → (0 ≤ G k ∧ G k < 256) ∧ A.1 (a1 + 1) k = G k) (hH : HC A (eh F) 0 (n - 8)) : ∃ (z pos : Int) (A' : ms), D8 F G n m i z pos ∧ EV q 218 0 [some (.ref 10), some (.ref a1), some (vI i), none, none, none, none, none, none] [] A (some (vI z)) A' ∧ EX X4 A A' ∧ (8 ≤ z → A'.1 10 4 = pos) := by
  have wr : w32 (m - i) = m - i := w32_of (by omega)
  by_cases c8 : 8 ≤ m - i
  case neg =>
    refine ⟨0, 0, A, Or.inl ⟨rfl, fun p l a1 a2 a3 => by have := a3.1; omega⟩, vc_Finder_longestInFirst _ _ _ ha ?_, EX.refl _ _, fun y => absurd y (by decide)⟩
    rw [em, wr]
    exact cNo c8 ⟨rfl, rfl⟩
  have x4 : X4 10 4 := ⟨rfl, rfl⟩
  have eU : ∀ {U : ms}, EX X4 A U → ∀ (a : Nat) (k : Int), a ≠ 10 → U.1 a k = A.1 a k := fun hU a k y => hU.2 a k (fun z => y z.1)
  have eU3 : ∀ {U : ms}, EX X4 A U → U.1 10 3 = n := fun hU => by rw [hU.2 10 3 (by unfold X4; omega), e3]
  have eUc : ∀ {U : ms}, EX X4 A U → U.2.2 10 2 = c := fun hU => by rw [hU.1, ec]
  -- how long it is alike at v
  have inner : ∀ (U : ms) (v b cnt : Int), EX X4 A U → 0 ≤ v → v < n → ∀ (t : Nat) (l0 : Int), min (m - i) (n - v) - l0 ≤ t → (0 ≤ l0 ∧ l0 ≤ min (m - i) (n - v)) → (∀ j : Int, 0 ≤ j → j < l0 → F (v + j) = G (i + j)) → ∃ l, lk F G n m i v l ∧ ∀ (rr : Option Value) (A' : ms), EV q 218 137 [some (.ref 10), some (.ref a1), some (vI i), some (vI (m - i)), some (vI b), some (vI v), some (vI cnt), some (vI (min (m - i) (n - v))), some (vI l)] [] U rr A' → EV q 218 102 [some (.ref 10), some (.ref a1), some (vI i), some (vI (m - i)), some (vI b), some (vI v), some (vI cnt), some (vI (min (m - i) (n - v))), some (vI l0)] [] U rr A' := by
    intro U v b cnt hU v0 v1 t
    obtain ⟨lim, elim⟩ : ∃ lim, lim = min (m - i) (n - v) := ⟨_, rfl⟩
    rw [← elim]
    have wl : w32 lim = lim := w32_of (by omega)
    induction t with
    | zero =>
      intro l0 hv hl he
      have w0 : w32 l0 = l0 := w32_of (by omega)
      refine ⟨l0, ⟨by omega, he, fun y z => absurd y (by omega)⟩, fun rr A' k => vc_Finder_longestInFirst_102 _ _ _ _ _ _ _ _ _ ha ?_⟩
      rw [wl, w0]
      exact cY (by omega) k
    | succ t ih =>
      intro l0 hv hl he
      have w0 : w32 l0 = l0 := w32_of (by omega)
      by_cases c1 : lim ≤ l0
      · refine ⟨l0, ⟨by omega, he, fun y z => absurd y (by omega)⟩, fun rr A' k => vc_Finder_longestInFirst_102 _ _ _ _ _ _ _ _ _ ha ?_⟩
        rw [wl, w0]
        exact cY c1 k
      have w1 : w32 (v + l0) = v + l0 := w32_of (by omega)
      have w2 : w32 (i + l0) = i + l0 := w32_of (by omega)
      have f1 := hF (v + l0) (by omega) (by omega)
      have g1 := hG (i + l0) (by omega) (by omega)
      have eF : U.1 c (v + l0) = F (v + l0) := by rw [eU hU _ _ (by omega)]; exact f1.2
      have eG : U.1 (a1 + 1) (i + l0) = G (i + l0) := by rw [eU hU _ _ (by omega)]; exact g1.2
      have wF : w32 (F (v + l0)) = F (v + l0) := w32_of (by omega)
      have wG : w32 (G (i + l0)) = G (i + l0) := w32_of (by omega)
      by_cases c3 : F (v + l0) = G (i + l0)
      · obtain ⟨l, h1, h2⟩ := ih (l0 + 1) (by omega) (by omega) (fun j j0 j1 => by
          by_cases e : j = l0
          · rw [e]
            exact c3
          · exact he j j0 (by omega))
        refine ⟨l, h1, fun rr A' k => vc_Finder_longestInFirst_102 _ _ _ _ _ _ _ _ _ ha ?_⟩
        rw [wl, w0]
        refine cNo c1 ⟨c, n1, eUc hU, hc, ?_⟩
        rw [w1, w2, eF, eG, wF, wG]
        exact ⟨by omega, by omega, cNN c3 (h2 rr A' k)⟩
      · refine ⟨l0, ⟨by omega, he, fun _ _ => c3⟩, fun rr A' k => vc_Finder_longestInFirst_102 _ _ _ _ _ _ _ _ _ ha ?_⟩
        rw [wl, w0]
        refine cNo c1 ⟨c, n1, eUc hU, hc, ?_⟩
        rw [w1, w2, eF, eG, wF, wG]
        exact ⟨by omega, by omega, cY c3 k⟩
  -- places of another head are no longer than 7
  have other : ∀ p l, p ≤ n - 8 → eh F p ≠ eh G i → lk F G n m i p l → l ≤ 7 := by
    intro p l hp ne h
    apply Classical.byContradiction
    intro y
    exact ne (eh_cg (fun j j0 j1 => h.2.1 j j0 (by omega)))
  have outer : ∀ (t : Nat) (lo b pos v cnt : Int) (U : ms), n - lo ≤ t → (0 ≤ lo ∧ lo ≤ n) → b ≤ m - i → EX X4 A U → (8 ≤ b → U.1 10 4 = pos) → J8 F G n m i lo b pos → nxt (eh F) lo (n - 8) (eh G i) v → (0 ≤ cnt ∧ cnt ≤ lo) → ∃ (z pos : Int) (A' : ms), D8 F G n m i z pos ∧ EV q 218 37 [some (.ref 10), some (.ref a1), some (vI i), some (vI (m - i)), some (vI b), some (vI v), some (vI cnt), none, none] [] U (some (vI z)) A' ∧ EX X4 A A' ∧ (8 ≤ z → A'.1 10 4 = pos) := by
    intro t
    induction t with
    | zero =>
      intro lo b pos v cnt U ht hlo hb hU h4 hJ hN hcnt
      obtain ⟨b7, ball⟩ := J8_all hJ
      have wb : w32 b = b := w32_of (by omega)
      have v1 : v = -1 := by
        rcases hN with ⟨g1, _⟩ | ⟨g1, _⟩
        · exact g1
        · omega
      subst v1
      have wc : w32 cnt = cnt := w32_of (by omega)
      have wn : w32 n = n := w32_of (by omega)
      have k169 : EV q 218 169 [some (.ref 10), some (.ref a1), some (vI i), some (vI (m - i)), some (vI b), some (vI (-1)), some (vI cnt), none, none] [] U (some (vI (if 8 ≤ b then b else 0))) U := by
        refine vc_Finder_longestInFirst_169 _ _ _ _ _ _ _ ha ?_
        rw [wb]
        by_cases c : 8 ≤ b
        · rw [if_pos c]
          exact cY c ⟨rfl, rfl⟩
        · rw [if_neg c]
          exact cNo c ⟨rfl, rfl⟩
      refine ⟨_, pos, U, J8_D hJ (fun p l a1 a2 _ => absurd a2 (by omega)), vc_Finder_longestInFirst_37 _ _ _ _ _ _ _ ha ⟨fun _ => k169, fun _ => cY (by decide) k169⟩, hU, fun y => h4 ?_⟩
      apply Classical.byContradiction
      intro c
      rw [if_neg c] at y
      exact absurd y (by decide)
    | succ t ih =>
      intro lo b pos v cnt U ht hlo hb hU h4 hJ hN hcnt
      obtain ⟨b7, ball⟩ := J8_all hJ
      have wb : w32 b = b := w32_of (by omega)
      have wc : w32 cnt = cnt := w32_of (by omega)
      have wn : w32 n = n := w32_of (by omega)
      have k169 : EV q 218 169 [some (.ref 10), some (.ref a1), some (vI i), some (vI (m - i)), some (vI b), some (vI v), some (vI cnt), none, none] [] U (some (vI (if 8 ≤ b then b else 0))) U := by
        refine vc_Finder_longestInFirst_169 _ _ _ _ _ _ _ ha ?_
        rw [wb]
        by_cases c : 8 ≤ b
        · rw [if_pos c]
          exact cY c ⟨rfl, rfl⟩
        · rw [if_neg c]
          exact cNo c ⟨rfl, rfl⟩
      have h4' : 8 ≤ (if 8 ≤ b then b else 0) → U.1 10 4 = pos := fun y => h4 (by
        apply Classical.byContradiction
        intro c
        rw [if_neg c] at y
        exact absurd y (by decide))
      rcases hN with ⟨g1, g2⟩ | ⟨g1, g2, g3⟩
      · subst g1
        refine ⟨_, pos, U, J8_D hJ (fun p l a1 a2 a3 => ?_), vc_Finder_longestInFirst_37 _ _ _ _ _ _ _ ha ⟨fun _ => k169, fun _ => cY (by decide) k169⟩, hU, h4'⟩
        by_cases c : p ≤ n - 8
        · have := other p l c (g2 p a1 c) a3
          omega
        · have := a3.1
          omega
      have wv : w32 v = v := w32_of (by omega)
      have i1 : ¬ n ≤ cnt := by omega
      by_cases cr : m - i ≤ b
      · refine ⟨_, pos, U, J8_D hJ (fun p l a1 a2 a3 => by have := a3.1; omega), vc_Finder_longestInFirst_37 _ _ _ _ _ _ _ ha ?_, hU, h4'⟩
        rw [eU3 hU, wn, wc, wv, wr, wb]
        exact cNo i1 (cNo (by omega) (cY cr k169))
      have wlim : w32 (min (m - i) (n - v)) = min (m - i) (n - v) := w32_of (by omega)
      have wnv : w32 (n - v) = n - v := w32_of (by omega)
      -- the next place of the chain
      have nextv : ∀ (b' pos' : Int) (U' : ms), b' ≤ m - i → EX X4 A U' → (8 ≤ b' → U'.1 10 4 = pos') → J8 F G n m i (v + 1) b' pos' → ∃ (z pos : Int) (A' : ms), D8 F G n m i z pos ∧ EV q 218 154 [some (.ref 10), some (.ref a1), some (vI i), some (vI (m - i)), some (vI b'), some (vI v), some (vI cnt), some (vI (min (m - i) (n - v))), none] [] U' (some (vI z)) A' ∧ EX X4 A A' ∧ (8 ≤ z → A'.1 10 4 = pos) := by
        intro b' pos' U' hb' hU' h4'' hJ'
        have hch := hH.2 v (by omega) g1.2
        rw [g2] at hch
        obtain ⟨z, ps, A', r1, r2, r3⟩ := ih (v + 1) b' pos' (A.1 12 v) (cnt + 1) U' (by omega) (by omega) hb' hU' h4'' hJ' hch (by omega)
        refine ⟨z, ps, A', r1, vc_Finder_longestInFirst_154 _ _ _ _ _ _ _ _ ha ?_, r3⟩
        rw [wv, eU hU' 12 v (by decide)]
        exact ⟨by omega, r2⟩
      -- before v nothing is longer
      have before : ∀ p l, lo ≤ p → p < v → lk F G n m i p l → l ≤ b := fun p l a1 a2 a3 => by
        have := other p l (by omega) (g3 p a1 a2) a3
        omega
      have stay : (∀ l, lk F G n m i v l → l ≤ b) → J8 F G n m i (v + 1) b pos := fun hv => J8_up hJ (by omega) (fun p l a1 a2 a3 => by
        by_cases c : p = v
        · rw [c] at a3
          exact hv l a3
        · exact before p l a1 (by omega) a3)
      by_cases cl : min (m - i) (n - v) ≤ b
      · obtain ⟨z, ps, A', r1, r2, r3⟩ := nextv b pos U hb hU h4 (stay (fun l h => by have := h.1; omega))
        refine ⟨z, ps, A', r1, vc_Finder_longestInFirst_37 _ _ _ _ _ _ _ ha ?_, r3⟩
        rw [eU3 hU, wn, wc, wv, wr, wb, wnv, wlim]
        exact cNo i1 (cNo (by omega) (cNo cr (cY cl r2)))
      have w1 : w32 (v + b) = v + b := w32_of (by omega)
      have w2 : w32 (i + b) = i + b := w32_of (by omega)
      have f1 := hF (v + b) (by omega) (by omega)
      have gg1 := hG (i + b) (by omega) (by omega)
      have eF : U.1 c (v + b) = F (v + b) := by rw [eU hU _ _ (by omega)]; exact f1.2
      have eG : U.1 (a1 + 1) (i + b) = G (i + b) := by rw [eU hU _ _ (by omega)]; exact gg1.2
      have wF : w32 (F (v + b)) = F (v + b) := w32_of (by omega)
      have wG : w32 (G (i + b)) = G (i + b) := w32_of (by omega)
      by_cases c3 : F (v + b) = G (i + b)
      · obtain ⟨l, h1, h2⟩ := inner U v b cnt hU (by omega) (by omega) n.toNat 0 (by omega) (by omega) (fun j j0 j1 => absurd j1 (by omega))
        have wl : w32 l = l := w32_of (by have := h1.1; omega)
        by_cases c4 : l ≤ b
        · obtain ⟨z, ps, A', r1, r2, r3⟩ := nextv b pos U hb hU h4 (stay (fun l' h' => by rw [lk_un h' h1]; exact c4))
          refine ⟨z, ps, A', r1, vc_Finder_longestInFirst_37 _ _ _ _ _ _ _ ha ?_, r3⟩
          rw [eU3 hU, wn, wc, wv, wr, wb, wnv, wlim]
          refine cNo i1 (cNo (by omega) (cNo cr (cNo cl ⟨c, n1, eUc hU, hc, ?_⟩)))
          rw [w1, w2, eF, eG, wF, wG]
          refine ⟨by omega, by omega, cNN c3 (h2 _ _ (vc_Finder_longestInFirst_137 _ _ _ _ _ _ _ _ _ ha ?_))⟩
          rw [wl, wb]
          exact cY c4 r2
        · obtain ⟨z, ps, A', r1, r2, r3⟩ := nextv l v (wI U 10 4 v) (by have := h1.1; omega) (hU.wr x4) (fun _ => by rw [rI_I, if_pos ⟨rfl, rfl⟩]) (Or.inr ⟨by omega, ⟨by omega, by omega, by omega⟩, h1, fun p' l' a1 a2 a3 => by
            by_cases c : p' < lo
            · have := ball p' l' a1 c a3
              omega
            · have := before p' l' (by omega) a2 a3
              omega, fun p' l' a1 a2 a3 => by
            by_cases cv : p' = v
            · rw [cv] at a3
              rw [lk_un a3 h1]
              omega
            · by_cases c : p' < lo
              · have := ball p' l' a1 c a3
                omega
              · have := before p' l' (by omega) (by omega) a3
                omega⟩)
          refine ⟨z, ps, A', r1, vc_Finder_longestInFirst_37 _ _ _ _ _ _ _ ha ?_, r3⟩
          rw [eU3 hU, wn, wc, wv, wr, wb, wnv, wlim]
          refine cNo i1 (cNo (by omega) (cNo cr (cNo cl ⟨c, n1, eUc hU, hc, ?_⟩)))
          rw [w1, w2, eF, eG, wF, wG]
          refine ⟨by omega, by omega, cNN c3 (h2 _ _ (vc_Finder_longestInFirst_137 _ _ _ _ _ _ _ _ _ ha ?_))⟩
          rw [wl, wb]
          exact cNo c4 (fun S1 f1 => by subst f1; exact r2)
      · obtain ⟨z, ps, A', r1, r2, r3⟩ := nextv b pos U hb hU h4 (stay (fun l' h' => by
          apply Classical.byContradiction
          intro y
          exact c3 (h'.2.1 b (by omega) (by omega))))
        refine ⟨z, ps, A', r1, vc_Finder_longestInFirst_37 _ _ _ _ _ _ _ ha ?_, r3⟩
        rw [eU3 hU, wn, wc, wv, wr, wb, wnv, wlim]
        refine cNo i1 (cNo (by omega) (cNo cr (cNo cl ⟨c, n1, eUc hU, hc, ?_⟩)))
        rw [w1, w2, eF, eG, wF, wG]
        exact ⟨by omega, by omega, cY c3 r2⟩
  have er := eh_rg G i
  have we : w32 (eh G i) = eh G i := w32_of (by omega)
  have kh := cf_head (q := q) (A := A) (c := a1 + 1) (n1 := 12000) (F := G) (p := i) ha.2 (by decide) (by omega) (fun k k0 k1 => (hG k (by omega) (by omega)).2)
  obtain ⟨z, ps, A', r1, r2, r3⟩ := outer n.toNat 0 7 0 (A.1 11 (eh G i)) 0 A (by omega) (by omega) (by omega) (EX.refl _ _) (fun y => absurd y (by decide)) (Or.inl ⟨rfl, fun p l a1 a2 _ => absurd a2 (by omega)⟩) (hH.1 _ er.1 er.2) (by omega)
  refine ⟨z, ps, A', r1, vc_Finder_longestInFirst _ _ _ ha ?_, r3⟩
  rw [em, wr]
  refine cY c8 ⟨eh G i, A, kh, ?_⟩
  rw [we]
  exact ⟨by omega, r2⟩
end Delta2
