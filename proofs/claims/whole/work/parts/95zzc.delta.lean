/-! delta: the longest like piece of the standing text, on both sides -/
section Delta1
variable {q : Nat × (Nat → Int32)}
/-- l octets from p on in F are those from i on in G, and no more -/
def lk (F G : Int → Int) (n m i p l : Int) : Prop := (0 ≤ l ∧ p + l ≤ n ∧ i + l ≤ m) ∧ (∀ j : Int, 0 ≤ j → j < l → F (p + j) = G (i + j)) ∧ (p + l < n → i + l < m → F (p + l) ≠ G (i + l))
theorem lk_un {F G : Int → Int} {n m i p l l' : Int} (h : lk F G n m i p l) (g : lk F G n m i p l') : l = l' := by
  apply Classical.byContradiction
  intro ne
  have h1 := h.1
  have g1 := g.1
  by_cases c : l < l'
  · exact h.2.2 (by omega) (by omega) (g.2.1 l (by omega) c)
  · exact g.2.2 (by omega) (by omega) (h.2.1 l' (by omega) (by omega))
/-- the longest, and the first of these -/
def BM (F G : Int → Int) (n m i len pos : Int) : Prop := (len = 0 ∧ ∀ p l, 0 ≤ p → p < n → lk F G n m i p l → l ≤ 0) ∨ (0 < len ∧ (0 ≤ pos ∧ pos < n) ∧ lk F G n m i pos len ∧ (∀ p l, 0 ≤ p → p < pos → lk F G n m i p l → l < len) ∧ ∀ p l, 0 ≤ p → p < n → lk F G n m i p l → l ≤ len)
/-- the same, but 8 at least -/
def D8 (F G : Int → Int) (n m i len pos : Int) : Prop := (len = 0 ∧ ∀ p l, 0 ≤ p → p < n → lk F G n m i p l → l ≤ 7) ∨ (8 ≤ len ∧ (0 ≤ pos ∧ pos < n) ∧ lk F G n m i pos len ∧ (∀ p l, 0 ≤ p → p < pos → lk F G n m i p l → l < len) ∧ ∀ p l, 0 ≤ p → p < n → lk F G n m i p l → l ≤ len)
theorem D8_BM {F G : Int → Int} {n m i z pos len pos' : Int} (h : D8 F G n m i z pos) (g : BM F G n m i len pos') : (len < 8 ∧ z = 0) ∨ (8 ≤ len ∧ z = len ∧ pos = pos' ∧ (0 ≤ pos ∧ pos < n) ∧ i + len ≤ m) := by
  rcases h with ⟨h1, h2⟩ | ⟨h1, h2, h3, h4, h5⟩
  · rcases g with ⟨g1, g2⟩ | ⟨g1, g2, g3, g4, g5⟩
    · exact Or.inl ⟨by omega, h1⟩
    · have := h2 pos' len g2.1 g2.2 g3
      exact Or.inl ⟨by omega, h1⟩
  · rcases g with ⟨g1, g2⟩ | ⟨g1, g2, g3, g4, g5⟩
    · have := g2 pos z h2.1 h2.2 h3
      omega
    · have a1 := g5 pos z h2.1 h2.2 h3
      have a2 := h5 pos' len g2.1 g2.2 g3
      have e : z = len := by omega
      have ep : pos = pos' := by
        apply Classical.byContradiction
        intro ne
        by_cases c : pos < pos'
        · have := g4 pos z h2.1 c h3
          omega
        · have := h4 pos' len g2.1 (by omega) g3
          omega
      exact Or.inr ⟨by omega, e, ep, h2, g3.1.2.2⟩
theorem b8_in {x y : Int} (hx : 0 ≤ x ∧ x < 256) (hy : 0 ≤ y ∧ y < 256) : b8 x = b8 y ↔ x = y := by
  unfold b8
  omega
/-- likeIn -/
theorem md_like {B : ms} {F G : Int → Int} {n m i s t : Int} (hs : 1 ≤ s ∧ s ≤ 12) (ht : 1 ≤ t ∧ t ≤ 12) (hn : 0 ≤ n ∧ n ≤ 12000) (hm : 0 ≤ m ∧ m ≤ 12000) (hi : 0 ≤ i ∧ i < m) (hF : ∀ k : Int, 0 ≤ k → k < n → (0 ≤ F k ∧ F k < 256) ∧ B.1 369 (12000 * s + k) = b8 (F k)) (hG : ∀ k : Int, 0 ≤ k → k < m → (0 ≤ G k ∧ G k < 256) ∧ B.1 369 (12000 * t + k) = b8 (G k)) : ∃ (len pos : Int) (B' : ms), BM F G n m i len pos ∧ EV q 404 0 [some (.ref 367), some (vI s), some (vI n), some (vI t), some (vI i), some (vI m), none, none, none, none] [] B none B' ∧ EX (fun a k => a = 367 ∧ (k = 26 ∨ k = 27)) B B' ∧ B'.1 367 26 = len ∧ B'.1 367 27 = pos := by
  have x6 : (fun (a : Nat) (k : Int) => a = 367 ∧ (k = 26 ∨ k = 27)) 367 26 := ⟨rfl, Or.inl rfl⟩
  have x7 : (fun (a : Nat) (k : Int) => a = 367 ∧ (k = 26 ∨ k = 27)) 367 27 := ⟨rfl, Or.inr rfl⟩
  -- how long it is alike at p
  have inner : ∀ (U : ms) (p : Int), EX (fun a k => a = 367 ∧ (k = 26 ∨ k = 27)) B U → 0 ≤ p → p < n → ∀ (v : Nat) (l0 : Int), n - p - l0 ≤ v → (0 ≤ l0 ∧ p + l0 ≤ n ∧ i + l0 ≤ m) → (∀ j : Int, 0 ≤ j → j < l0 → F (p + j) = G (i + j)) → ∃ l, lk F G n m i p l ∧ ∀ (rr : Option Value) (B' : ms), EV q 404 140 [some (.ref 367), some (vI s), some (vI n), some (vI t), some (vI i), some (vI m), some (vI (12000 * s)), some (vI ((12000 * t) + i)), some (vI p), some (vI l)] [] U rr B' → EV q 404 89 [some (.ref 367), some (vI s), some (vI n), some (vI t), some (vI i), some (vI m), some (vI (12000 * s)), some (vI ((12000 * t) + i)), some (vI p), some (vI l0)] [] U rr B' := by
    intro U p hU p0 p1 v
    have wn : w32 n = n := w32_of (by omega)
    have wm : w32 m = m := w32_of (by omega)
    induction v with
    | zero =>
      intro l0 hv hl he
      have w1 : w32 (p + l0) = p + l0 := w32_of (by omega)
      refine ⟨l0, ⟨hl, he, fun y => absurd y (by omega)⟩, fun rr B' k => vc_MD_likeIn_89 _ _ _ _ _ _ _ _ _ ?_⟩
      rw [wn, w1]
      exact cY (by omega) k
    | succ v ih =>
      intro l0 hv hl he
      have w1 : w32 (p + l0) = p + l0 := w32_of (by omega)
      have w2 : w32 (i + l0) = i + l0 := w32_of (by omega)
      by_cases c1 : n ≤ p + l0
      · refine ⟨l0, ⟨hl, he, fun y => absurd y (by omega)⟩, fun rr B' k => vc_MD_likeIn_89 _ _ _ _ _ _ _ _ _ ?_⟩
        rw [wn, w1]
        exact cY c1 k
      by_cases c2 : m ≤ i + l0
      · refine ⟨l0, ⟨hl, he, fun _ y => absurd y (by omega)⟩, fun rr B' k => vc_MD_likeIn_89 _ _ _ _ _ _ _ _ _ ?_⟩
        rw [wn, w1, wm, w2]
        exact cNo c1 (cY c2 k)
      have w3 : w32 (12000 * s + p + l0) = 12000 * s + p + l0 := w32_of (by omega)
      have w4 : w32 (12000 * t + i + l0) = 12000 * t + i + l0 := w32_of (by omega)
      have eF : U.1 369 (12000 * s + p + l0) = b8 (F (p + l0)) := by
        rw [hU.2 _ _ (by omega), Int.add_assoc]
        exact (hF (p + l0) (by omega) (by omega)).2
      have eG : U.1 369 (12000 * t + i + l0) = b8 (G (i + l0)) := by
        rw [hU.2 _ _ (by omega), Int.add_assoc]
        exact (hG (i + l0) (by omega) (by omega)).2
      have wF : w32 (b8 (F (p + l0))) = b8 (F (p + l0)) := w32_of (by have := b8_rg (F (p + l0)); omega)
      have wG : w32 (b8 (G (i + l0))) = b8 (G (i + l0)) := w32_of (by have := b8_rg (G (i + l0)); omega)
      have iff := b8_in (hF (p + l0) (by omega) (by omega)).1 (hG (i + l0) (by omega) (by omega)).1
      by_cases c3 : F (p + l0) = G (i + l0)
      · obtain ⟨l, h1, h2⟩ := ih (l0 + 1) (by omega) (by omega) (fun j j0 j1 => by
          by_cases e : j = l0
          · rw [e]
            exact c3
          · exact he j j0 (by omega))
        refine ⟨l, h1, fun rr B' k => vc_MD_likeIn_89 _ _ _ _ _ _ _ _ _ ?_⟩
        rw [wn, w1, wm, w2, w3, w4, eF, eG, wF, wG]
        exact cNo c1 (cNo c2 ⟨by omega, by omega, cNN (iff.2 c3) (h2 rr B' k)⟩)
      · refine ⟨l0, ⟨hl, he, fun _ _ => c3⟩, fun rr B' k => vc_MD_likeIn_89 _ _ _ _ _ _ _ _ _ ?_⟩
        rw [wn, w1, wm, w2, w3, w4, eF, eG, wF, wG]
        exact cNo c1 (cNo c2 ⟨by omega, by omega, cY (fun y => c3 (iff.1 y)) k⟩)
  -- the places
  have outer : ∀ (v : Nat) (p len pos : Int) (U : ms), n - p ≤ v → (0 ≤ p ∧ p ≤ n) → (0 ≤ len ∧ i + len ≤ m) → EX (fun a k => a = 367 ∧ (k = 26 ∨ k = 27)) B U → U.1 367 26 = len → U.1 367 27 = pos → ((len = 0 ∧ ∀ p' l, 0 ≤ p' → p' < p → lk F G n m i p' l → l ≤ 0) ∨ (0 < len ∧ (0 ≤ pos ∧ pos < n ∧ pos < p) ∧ lk F G n m i pos len ∧ (∀ p' l, 0 ≤ p' → p' < pos → lk F G n m i p' l → l < len) ∧ ∀ p' l, 0 ≤ p' → p' < p → lk F G n m i p' l → l ≤ len)) → ∃ (len pos : Int) (B' : ms), BM F G n m i len pos ∧ EV q 404 30 [some (.ref 367), some (vI s), some (vI n), some (vI t), some (vI i), some (vI m), some (vI (12000 * s)), some (vI ((12000 * t) + i)), some (vI p), none] [] U none B' ∧ EX (fun a k => a = 367 ∧ (k = 26 ∨ k = 27)) B B' ∧ B'.1 367 26 = len ∧ B'.1 367 27 = pos := by
    intro v
    have wn : w32 n = n := w32_of (by omega)
    have wm : w32 m = m := w32_of (by omega)
    -- when no later place can be longer
    have stop : ∀ (p len pos : Int), (∀ p' l, p ≤ p' → p' < n → lk F G n m i p' l → l ≤ len) → ((len = 0 ∧ ∀ p' l, 0 ≤ p' → p' < p → lk F G n m i p' l → l ≤ 0) ∨ (0 < len ∧ (0 ≤ pos ∧ pos < n ∧ pos < p) ∧ lk F G n m i pos len ∧ (∀ p' l, 0 ≤ p' → p' < pos → lk F G n m i p' l → l < len) ∧ ∀ p' l, 0 ≤ p' → p' < p → lk F G n m i p' l → l ≤ len)) → BM F G n m i len pos := by
      intro p len pos hl h
      rcases h with ⟨h1, h2⟩ | ⟨h1, h2, h3, h4, h5⟩
      · refine Or.inl ⟨h1, fun p' l a1 a2 a3 => ?_⟩
        by_cases c : p' < p
        · exact h2 p' l a1 c a3
        · have := hl p' l (by omega) a2 a3
          omega
      · refine Or.inr ⟨h1, ⟨h2.1, h2.2.1⟩, h3, h4, fun p' l a1 a2 a3 => ?_⟩
        by_cases c : p' < p
        · exact h5 p' l a1 c a3
        · exact hl p' l (by omega) a2 a3
    induction v with
    | zero =>
      intro p len pos U hv p0 hl hU e6 e7 hI
      have w1 : w32 (p + len) = p + len := w32_of (by omega)
      refine ⟨len, pos, U, stop p len pos (fun p' l a1 a2 _ => absurd a2 (by omega)) hI, vc_MD_likeIn_30 _ _ _ _ _ _ _ _ ?_, hU, e6, e7⟩
      rw [e6, wn, w1]
      exact cY (by omega) ⟨rfl, rfl⟩
    | succ v ih =>
      intro p len pos U hv p0 hl hU e6 e7 hI
      have w1 : w32 (p + len) = p + len := w32_of (by omega)
      have w2 : w32 (i + len) = i + len := w32_of (by omega)
      by_cases c1 : n ≤ p + len
      · refine ⟨len, pos, U, stop p len pos (fun p' l a1 a2 a3 => by have := a3.1; omega) hI, vc_MD_likeIn_30 _ _ _ _ _ _ _ _ ?_, hU, e6, e7⟩
        rw [e6, wn, w1]
        exact cY c1 ⟨rfl, rfl⟩
      by_cases c2 : m ≤ i + len
      · refine ⟨len, pos, U, stop p len pos (fun p' l a1 a2 a3 => by have := a3.1; omega) hI, vc_MD_likeIn_30 _ _ _ _ _ _ _ _ ?_, hU, e6, e7⟩
        rw [e6, wn, w1, wm, w2]
        exact cNo c1 (cY c2 ⟨rfl, rfl⟩)
      have w3 : w32 (12000 * s + p + len) = 12000 * s + p + len := w32_of (by omega)
      have w4 : w32 (12000 * t + i + len) = 12000 * t + i + len := w32_of (by omega)
      have eF : U.1 369 (12000 * s + p + len) = b8 (F (p + len)) := by
        rw [hU.2 _ _ (by omega), Int.add_assoc]
        exact (hF (p + len) (by omega) (by omega)).2
      have eG : U.1 369 (12000 * t + i + len) = b8 (G (i + len)) := by
        rw [hU.2 _ _ (by omega), Int.add_assoc]
        exact (hG (i + len) (by omega) (by omega)).2
      have wF : w32 (b8 (F (p + len))) = b8 (F (p + len)) := w32_of (by have := b8_rg (F (p + len)); omega)
      have wG : w32 (b8 (G (i + len))) = b8 (G (i + len)) := w32_of (by have := b8_rg (G (i + len)); omega)
      have iff := b8_in (hF (p + len) (by omega) (by omega)).1 (hG (i + len) (by omega) (by omega)).1
      -- no longer piece at p
      have same : (∀ l, lk F G n m i p l → l ≤ len) → ∃ (len pos : Int) (B' : ms), BM F G n m i len pos ∧ EV q 404 161 [some (.ref 367), some (vI s), some (vI n), some (vI t), some (vI i), some (vI m), some (vI (12000 * s)), some (vI ((12000 * t) + i)), some (vI p), none] [] U none B' ∧ EX (fun a k => a = 367 ∧ (k = 26 ∨ k = 27)) B B' ∧ B'.1 367 26 = len ∧ B'.1 367 27 = pos := by
        intro hp
        obtain ⟨len', pos', B', r1, r2, r3⟩ := ih (p + 1) len pos U (by omega) (by omega) hl hU e6 e7 (by
          rcases hI with ⟨h1, h2⟩ | ⟨h1, h2, h3, h4, h5⟩
          · refine Or.inl ⟨h1, fun p' l a1 a2 a3 => ?_⟩
            by_cases c : p' = p
            · rw [c] at a3
              have := hp l a3
              omega
            · exact h2 p' l a1 (by omega) a3
          · refine Or.inr ⟨h1, ⟨h2.1, h2.2.1, by omega⟩, h3, h4, fun p' l a1 a2 a3 => ?_⟩
            by_cases c : p' = p
            · rw [c] at a3
              exact hp l a3
            · exact h5 p' l a1 (by omega) a3)
        exact ⟨len', pos', B', r1, vc_MD_likeIn_161 _ _ _ _ _ _ _ _ r2, r3⟩
      by_cases c3 : F (p + len) = G (i + len)
      · obtain ⟨l, h1, h2⟩ := inner U p hU p0.1 (by omega) n.toNat 0 (by omega) (by omega) (fun j j0 j1 => absurd j1 (by omega))
        have wl : w32 l = l := w32_of (by have := h1.1; omega)
        have wle : w32 len = len := w32_of (by omega)
        by_cases c4 : l ≤ len
        · obtain ⟨len', pos', B', r1, r2, r3⟩ := same (fun l' h' => by rw [lk_un h' h1]; exact c4)
          refine ⟨len', pos', B', r1, vc_MD_likeIn_30 _ _ _ _ _ _ _ _ ?_, r3⟩
          rw [e6, wn, w1, wm, w2, w3, w4, eF, eG, wF, wG]
          refine cNo c1 (cNo c2 ⟨by omega, by omega, cY (iff.2 c3) (h2 _ _ (vc_MD_likeIn_140 _ _ _ _ _ _ _ _ _ ?_))⟩)
          rw [e6, wl, wle]
          exact cY c4 r2
        · obtain ⟨len', pos', B', r1, r2, r3⟩ := ih (p + 1) l p (wI (wI U 367 26 l) 367 27 p) (by omega) (by omega) ⟨h1.1.1, h1.1.2.2⟩ ((hU.wr x6).wr x7) (by rw [rI_I, if_neg (by decide), rI_I, if_pos ⟨rfl, rfl⟩]) (by rw [rI_I, if_pos ⟨rfl, rfl⟩]) (by
            have all : ∀ p' l', 0 ≤ p' → p' < p → lk F G n m i p' l' → l' ≤ len := by
              rcases hI with ⟨g1, g2⟩ | ⟨g1, g2, g3, g4, g5⟩
              · intro p' l' a1 a2 a3
                have := g2 p' l' a1 a2 a3
                omega
              · exact g5
            refine Or.inr ⟨by omega, ⟨p0.1, by omega, by omega⟩, h1, fun p' l' a1 a2 a3 => ?_, fun p' l' a1 a2 a3 => ?_⟩
            · have := all p' l' a1 a2 a3
              omega
            · by_cases c : p' = p
              · rw [c] at a3
                rw [lk_un a3 h1]
                omega
              · have := all p' l' a1 (by omega) a3
                omega)
          refine ⟨len', pos', B', r1, vc_MD_likeIn_30 _ _ _ _ _ _ _ _ ?_, r3⟩
          rw [e6, wn, w1, wm, w2, w3, w4, eF, eG, wF, wG]
          refine cNo c1 (cNo c2 ⟨by omega, by omega, cY (iff.2 c3) (h2 _ _ (vc_MD_likeIn_140 _ _ _ _ _ _ _ _ _ ?_))⟩)
          rw [e6, wl, wle]
          exact cNo c4 (fun S1 f1 S2 f2 => by subst f1 f2; exact vc_MD_likeIn_161 _ _ _ _ _ _ _ _ r2)
      · obtain ⟨len', pos', B', r1, r2, r3⟩ := same (fun l' h' => by
          apply Classical.byContradiction
          intro y
          exact c3 (h'.2.1 len hl.1 (by omega)))
        refine ⟨len', pos', B', r1, vc_MD_likeIn_30 _ _ _ _ _ _ _ _ ?_, r3⟩
        rw [e6, wn, w1, wm, w2, w3, w4, eF, eG, wF, wG]
        exact cNo c1 (cNo c2 ⟨by omega, by omega, cNo (fun y => c3 (iff.1 y)) r2⟩)
  obtain ⟨len, pos, B', r1, r2, r3⟩ := outer n.toNat 0 0 0 (wI (wI B 367 26 0) 367 27 0) (by omega) (by omega) (by omega) (((EX.refl _ _).wr x6).wr x7) (by rw [rI_I, if_neg (by decide), rI_I, if_pos ⟨rfl, rfl⟩]) (by rw [rI_I, if_pos ⟨rfl, rfl⟩]) (Or.inl ⟨rfl, fun p' l a1 a2 _ => absurd a2 (by omega)⟩)
  exact ⟨len, pos, B', r1, vc_MD_likeIn _ _ _ _ _ (fun S1 f1 S2 f2 => by subst f1 f2; exact r2), r3⟩
/-- the eight octets from p on, made into one of 8192 -/
def eH (F : Int → Int) (p : Int) : Nat → Int
  | 0 => 0
  | k + 1 => eH F p k * 31 + F (p + k)
theorem eH_s (F : Int → Int) (p : Int) (k : Nat) : eH F p (k + 1) = eH F p k * 31 + F (p + k) := rfl
def eh (F : Int → Int) (p : Int) : Int := bX (eH F p 8) (eH F p 8 % 4294967296 / 8192) % 8192
theorem eh_rg (F : Int → Int) (p : Int) : 0 ≤ eh F p ∧ eh F p < 8192 := by
  unfold eh
  generalize bX (eH F p 8) (eH F p 8 % 4294967296 / 8192) = x
  omega
theorem eH_cg {F G : Int → Int} {p i : Int} : ∀ k : Nat, (∀ j : Int, 0 ≤ j → j < k → F (p + j) = G (i + j)) → eH F p k = eH G i k
  | 0, _ => rfl
  | k + 1, h => by
    rw [eH_s, eH_s, eH_cg k (fun j j0 j1 => h j j0 (by omega)), h k (by omega) (by omega)]
theorem eh_cg {F G : Int → Int} {p i : Int} (h : ∀ j : Int, 0 ≤ j → j < 8 → F (p + j) = G (i + j)) : eh F p = eh G i := by
  unfold eh
  rw [eH_cg 8 (fun j j0 j1 => h j j0 (by omega))]
theorem cf_head {A : ms} {c n1 : Nat} {F : Int → Int} {p : Int} (hc : SH c = (0, n1, [])) (hn1 : n1 < 1000000) (hp : 0 ≤ p ∧ p + 8 ≤ n1) (hF : ∀ k : Int, p ≤ k → k < p + 8 → A.1 c k = F k) : EV q 217 0 [some (.ref c), some (vI p), none, none] [] A (some (vI (eh F p))) A := by
  have lp : ∀ (m k : Nat), k + m = 8 → EV q 217 4 [some (.ref c), some (vI p), some (vI (eH F p k)), some (vI k)] [] A (some (vI (eh F p))) A := by
    intro m
    induction m with
    | zero =>
      intro k hk
      have e : k = 8 := by omega
      subst e
      exact vc_Finder_eightsHead_4 _ _ _ _ _ hc (cY (by decide) ⟨rfl, rfl⟩)
    | succ m ih =>
      intro k hk
      have g := ih (k + 1) (by omega)
      rw [eH_s, show ((k + 1 : Nat) : Int) = (k : Int) + 1 by omega] at g
      have wk : Unit → w32 ((k : Nat) : Int) = k := fun _ => w32_of (by omega)
      have wp : Unit → w32 (p + (k : Int)) = p + k := fun _ => w32_of (by omega)
      have k8 : ¬ 8 ≤ (k : Int) := by omega
      refine vc_Finder_eightsHead_4 _ _ _ _ _ hc ?_
      rw [wk (), wp (), hF (p + k) (by omega) (by omega)]
      exact cNo k8 ⟨by omega, g⟩
  exact vc_Finder_eightsHead _ _ _ hc (lp 8 0 (by omega))
/-- v is the first place from lo to hi that H makes into h, or -1 -/
def nxt (H : Int → Int) (lo hi h v : Int) : Prop := (v = -1 ∧ ∀ p, lo ≤ p → p ≤ hi → H p ≠ h) ∨ ((lo ≤ v ∧ v ≤ hi) ∧ H v = h ∧ ∀ p, lo ≤ p → p < v → H p ≠ h)
/-- heads and chain stand for the places from lo on -/
def HC (A : ms) (H : Int → Int) (lo hi : Int) : Prop := (∀ h, 0 ≤ h → h < 8192 → nxt H lo hi h (A.1 11 h)) ∧ ∀ p, lo ≤ p → p ≤ hi → nxt H (p + 1) hi (H p) (A.1 12 p)
def XF (a : Nat) (k : Int) : Prop := (a = 10 ∧ (k = 3 ∨ k = 4)) ∨ a = 11 ∨ a = 12
/-- chainFirst(first) -/
theorem cf_chain {A : ms} {a1 : Nat} {F : Int → Int} {n : Int} (ha : isRow a1 12000) (ha3 : 300 < a1) (hn : 0 ≤ n ∧ n ≤ 12000) (e1 : A.1 a1 1 = n) (hF : ∀ k : Int, 0 ≤ k → k < n → A.1 (a1 + 1) k = F k) : ∃ A', EV q 216 0 [some (.ref 10), some (.ref a1), none, none] [] A none A' ∧ EX XF (wR A 10 2 (a1 + 1)) A' ∧ A'.1 10 3 = n ∧ HC A' (eh F) 0 (n - 8) := by
  obtain ⟨A1, eA1⟩ : ∃ A1, A1 = wC (wI (wR A 10 2 (a1 + 1)) 10 3 n) 11 0 (8192 : Nat) (fun _ => -1) := ⟨_, rfl⟩
  have x3 : XF 10 3 := Or.inl ⟨rfl, Or.inl rfl⟩
  have ex1 : EX XF (wR A 10 2 (a1 + 1)) A1 := by
    rw [eA1]
    refine ⟨rfl, fun a k y => ?_⟩
    unfold XF at y
    rw [wC_ne _ _ _ _ (by omega), rI_I, if_neg (by omega)]
  have e13 : A1.1 10 3 = n := by
    rw [eA1, wC_ne _ _ _ _ (by decide), rI_I, if_pos ⟨rfl, rfl⟩]
  have kfill := sp_fillI (q := q) (S := wI (wR A 10 2 (a1 + 1)) 10 3 n) (c := 11) (n1 := 8192) rfl (by decide) (-1)
  rw [← eA1] at kfill
  have lp : ∀ (m : Nat) (p : Int) (U : ms), p + 1 = m → p ≤ n - 8 → EX XF (wR A 10 2 (a1 + 1)) U → U.1 10 3 = n → HC U (eh F) (p + 1) (n - 8) → ∃ A', EV q 216 32 [some (.ref 10), some (.ref a1), some (vI p), none] [] U none A' ∧ EX XF (wR A 10 2 (a1 + 1)) A' ∧ A'.1 10 3 = n ∧ HC A' (eh F) 0 (n - 8) := by
    intro m
    induction m with
    | zero =>
      intro p U hp hp2 hU e3 h
      have ep : p = -1 := by omega
      subst ep
      exact ⟨U, vc_Finder_chainFirst_32 _ _ _ ha (cY (by decide) ⟨rfl, rfl⟩), hU, e3, h⟩
    | succ m ih =>
      intro p U hp hp2 hU e3 h
      have wp : w32 p = p := w32_of (by omega)
      have er := eh_rg F p
      have we : w32 (eh F p) = eh F p := w32_of (by omega)
      have eU : ∀ k : Int, U.1 (a1 + 1) k = A.1 (a1 + 1) k := fun k => by
        rw [hU.2 _ _ (by unfold XF; omega)]
        rfl
      have kh := cf_head (q := q) (A := U) (c := a1 + 1) (n1 := 12000) (F := F) (p := p) ha.2 (by decide) (by omega) (fun k k0 k1 => by rw [eU]; exact hF k (by omega) (by omega))
      obtain ⟨V, eV⟩ : ∃ V, V = wI (wI U 12 p (U.1 11 (eh F p))) 11 (eh F p) p := ⟨_, rfl⟩
      have vat : ∀ (a : Nat) (k : Int), V.1 a k = if a = 11 ∧ k = eh F p then p else if a = 12 ∧ k = p then U.1 11 (eh F p) else U.1 a k := fun a k => by rw [eV]; rfl
      obtain ⟨A', k1, k2⟩ := ih (p - 1) V (by omega) (by omega) (by rw [eV]; exact (hU.wr (Or.inr (Or.inr rfl))).wr (Or.inr (Or.inl rfl))) (by rw [vat, if_neg (by omega), if_neg (by omega), e3]) (by
        rw [show p - 1 + 1 = p by omega]
        refine ⟨fun hh h0 h1 => ?_, fun p' a1' a2' => ?_⟩
        · rw [vat]
          by_cases c : hh = eh F p
          · rw [if_pos ⟨rfl, c⟩]
            exact Or.inr ⟨⟨Int.le_refl _, hp2⟩, c.symm, fun p'' b1 b2 => absurd b2 (by omega)⟩
          · rw [if_neg (fun y => c y.2), if_neg (by omega)]
            rcases h.1 hh h0 h1 with ⟨g1, g2⟩ | ⟨g1, g2, g3⟩
            · refine Or.inl ⟨g1, fun p'' b1 b2 => ?_⟩
              by_cases cp : p'' = p
              · rw [cp]
                exact fun y => c y.symm
              · exact g2 p'' (by omega) b2
            · refine Or.inr ⟨⟨by omega, g1.2⟩, g2, fun p'' b1 b2 => ?_⟩
              by_cases cp : p'' = p
              · rw [cp]
                exact fun y => c y.symm
              · exact g3 p'' (by omega) b2
        · rw [vat, if_neg (by omega)]
          by_cases cp : p' = p
          · rw [if_pos ⟨rfl, cp⟩, cp]
            exact h.1 (eh F p) er.1 er.2
          · rw [if_neg (fun y => cp y.2)]
            exact h.2 p' (by omega) a2')
      refine ⟨A', vc_Finder_chainFirst_32 _ _ _ ha ?_, k2⟩
      rw [wp]
      refine cNo (by omega) ⟨a1 + 1, 12000, ?_, ha.2, eh F p, U, kh, ?_⟩
      · rw [hU.1]
        show (if 10 = 10 ∧ (2 : Int) = 2 then a1 + 1 else A.2.2 10 2) = a1 + 1
        rw [if_pos ⟨rfl, rfl⟩]
      · rw [we]
        refine ⟨by omega, by omega, fun S9 f9 => ⟨by omega, fun S11 f11 => ?_⟩⟩
        subst f9
        rw [← eV] at f11
        subst f11
        exact k1
  have hc0 : HC A1 (eh F) (n - 8 + 1) (n - 8) := by
    refine ⟨fun h h0 h1 => Or.inl ⟨?_, fun p b1 b2 => absurd b2 (by omega)⟩, fun p b1 b2 => absurd b2 (by omega)⟩
    rw [eA1, wC_in _ (by omega) (by omega)]
  have go : ∃ A', EV q 216 32 [some (.ref 10), some (.ref a1), some (vI (n - 8)), none] [] A1 none A' ∧ EX XF (wR A 10 2 (a1 + 1)) A' ∧ A'.1 10 3 = n ∧ HC A' (eh F) 0 (n - 8) := by
    by_cases c : 8 ≤ n
    · exact lp (n - 7).toNat (n - 8) A1 (by omega) (by omega) ex1 e13 hc0
    · have wn : w32 (n - 8) = n - 8 := w32_of (by omega)
      refine ⟨A1, vc_Finder_chainFirst_32 _ _ _ ha (by rw [wn]; exact cY (by omega) ⟨rfl, rfl⟩), ex1, e13, fun h h0 h1 => Or.inl ⟨?_, fun p b1 b2 => absurd b2 (by omega)⟩, fun p b1 b2 => absurd b2 (by omega)⟩
      rw [eA1, wC_in _ (by omega) (by omega)]
  obtain ⟨A', k1, k2⟩ := go
  refine ⟨A', vc_Finder_chainFirst _ _ ha (fun S1 f1 S2 f2 => ?_), k2⟩
  have e : S1.1 a1 1 = n := by rw [f1]; exact e1
  rw [e] at f2
  subst f1 f2
  refine ⟨A1, kfill, ?_⟩
  rw [e13]
  exact k1
end Delta1
