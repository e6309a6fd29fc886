/-! SORTED: a symbol of its codes, both sides at once -/
section Sym3
variable {q : Nat × (Nat → Int32)} {en : Int}
def CodS (S : ms) (cc n : Nat) (l : Int → Int) : Prop := cc < 6 ∧ n ≤ 258 ∧ (∀ t : Nat, t < n → S.1 413 (260 * (cc : Int) + t) = l t) ∧ ∀ t : Nat, t < n → 0 < l t → S.1 414 (260 * (cc : Int) + t) = cdOf l n t
theorem mss_none {B : ms} {cc n : Nat} {l : Int → Int} {x4 v L : Int} (h1 : cc < 6) (hn : n ≤ 258) (e1 : ∀ t : Nat, t < n → B.1 413 (260 * (cc : Int) + t) = l t ∧ (0 ≤ l t ∧ l t ≤ 20)) (e2 : ∀ t : Nat, t < n → 0 < l t → B.1 414 (260 * (cc : Int) + t) = cdOf l n t) (hc : ∀ t : Nat, t < n → 0 < l t → 0 ≤ cdOf l n t ∧ cdOf l n t < 2147483648) (hL : 1 ≤ L ∧ L ≤ 20) (hv : 0 ≤ v ∧ v < 2147483648) {r : Option Value} {S' : ms} (s : Nat) (hs : s ≤ n) (hno : ∀ t : Nat, t < s → ¬ (l t = L ∧ cdOf l n t = v)) (hk : (s = n ∧ EV q 365 58 [some (.ref 367), some (vI (cc : Nat)), some (vI n), some (vI x4), some (vI v), some (vI (L + 1)), none] [] B r S') ∨ (s < n ∧ (l s = L ∧ cdOf l n s = v) ∧ r = some (vI s) ∧ S' = B)) : EV q 365 87 [some (.ref 367), some (vI (cc : Nat)), some (vI n), some (vI x4), some (vI v), some (vI L), some (vI 0)] [] B r S' := by
  have wn : Unit → w32 ((n : Nat) : Int) = n := fun _ => w32_of (by omega)
  have wL : w32 L = L := w32_of (by omega)
  have wv : w32 v = v := w32_of (by omega)
  have lp : ∀ (m j : Nat), j + m = s → EV q 365 87 [some (.ref 367), some (vI (cc : Nat)), some (vI n), some (vI x4), some (vI v), some (vI L), some (vI j)] [] B r S' := by
    intro m
    induction m with
    | zero =>
      intro j hj
      have e : j = s := by omega
      subst e
      have wj : Unit → w32 ((j : Nat) : Int) = j := fun _ => w32_of (by omega)
      have wcj : Unit → w32 (260 * (cc : Int) + j) = 260 * (cc : Int) + j := fun _ => w32_of (by omega)
      refine vc_MD_sortedSymbol_87 _ _ _ _ _ _ ?_
      rcases hk with ⟨y1, y2⟩ | ⟨y1, y2, y3, y4⟩
      · subst y1
        exact cY (Int.le_refl _) y2
      · have g1 := e1 j y1
        have g2 := e2 j y1 (by omega)
        have wl : w32 (l j) = l j := w32_of (by omega)
        have wc : w32 (cdOf l n j) = cdOf l n j := w32_of (by have := hc j y1 (by omega); omega)
        rw [wn (), wj (), wcj (), g1.1, g2, wl, wL, wv, wc]
        exact cNo (by omega) ⟨by omega, cNN y2.1 ⟨by omega, cNN y2.2 ⟨y3, y4⟩⟩⟩
    | succ m ih =>
      intro j hj
      have g := ih (j + 1) (by omega)
      rw [show ((j + 1 : Nat) : Int) = (j : Int) + 1 by omega] at g
      have k101 := vc_MD_sortedSymbol_132 _ _ _ _ _ _ g
      have wj : Unit → w32 ((j : Nat) : Int) = j := fun _ => w32_of (by omega)
      have wcj : Unit → w32 (260 * (cc : Int) + j) = 260 * (cc : Int) + j := fun _ => w32_of (by omega)
      have g1 := e1 j (by omega)
      have wl : w32 (l j) = l j := w32_of (by omega)
      refine vc_MD_sortedSymbol_87 _ _ _ _ _ _ ?_
      rw [wn (), wj (), wcj (), g1.1, wl, wL]
      refine cNo (by omega) ⟨by omega, fun _ => k101, fun y => ?_⟩
      have y' : l j = L := Classical.not_not.mp y
      have g2 := e2 j (by omega) (by omega)
      have wc : w32 (cdOf l n j) = cdOf l n j := w32_of (by have := hc j (by omega) (by omega); omega)
      rw [g2, wc, wv]
      exact ⟨by omega, cY (fun z => hno j (by omega) ⟨y', z⟩) k101⟩
  exact lp s 0 (by omega)
theorem jsymS {t : Int → Int} {hi : Int} {l : Int → Int} {n : Nat} (he : 0 ≤ en ∧ en ≤ 6000) (ht : ∀ k : Int, 0 ≤ k → k < en → 0 ≤ t k ∧ t k < 256) (hhi : hi = 0 ∨ hi = 1) (hn : n ≤ 288) (hl : ∀ s : Nat, s < n → 0 ≤ l s ∧ l s ≤ 20) {st : Rd} {h : Int} (hr : rdR en st) (hh : hR st h) : ∃ (s : Int) (st' : Rd) (h' : Int), (rdR en st' ∧ Fw st st' ∧ hR st' h' ∧ st'.2.2.2 = st.2.2.2) ∧ (st'.1 = 0 → (0 ≤ s ∧ s < n) ∧ rdP st h + 1 ≤ rdP st' h') ∧ (st'.1 ≠ 0 → s = -1) ∧ (∀ (S A : ms) (o b : Nat), S.1 9 7 = hi → RdC S o en t → CodC S b n l → CB S A o en t st h → ∃ A', EV q 134 0 [some (.ref 9), some (.ref b), some (vI 88), none, none, none, none, none] [] A (some (vI s)) A' ∧ CB S A' o en t st' h') ∧ ∀ (S B : ms) (cc : Nat), S.1 367 18 = hi → RdM S en t → CodS S cc n l → MB S B en st h → ∃ B', EV q 365 0 [some (.ref 367), some (vI (cc : Nat)), some (vI n), none, none, none, none] [] B (some (vI s)) B' ∧ MB S B' en st' h' := by
  have gG := cG_rg (l := l) n hl
  have wG : w32 (cG l n) = cG l n := w32_of (by omega)
  -- no code is as long
  have none11 : ∀ (K : Nat) (w : Int) (st : Rd) (h : Int), K ≤ 20 → cG l n < ((K + 1 : Nat) : Int) → rdR en st → hR st h → ∃ (s : Int) (st' : Rd) (h' : Int), (rdR en st' ∧ Fw st st' ∧ hR st' h' ∧ st'.2.2.2 = st.2.2.2) ∧ (st'.1 = 0 → (0 ≤ s ∧ s < n) ∧ rdP st h + 1 ≤ rdP st' h') ∧ (st'.1 ≠ 0 → s = -1) ∧ (∀ (S A : ms) (o b : Nat), S.1 9 7 = hi → RdC S o en t → CodC S b n l → CB S A o en t st h → ∃ A', EV q 134 11 [some (.ref 9), some (.ref b), some (vI 88), some (vI (w * 2)), some (vI (cC l n K)), some (vI (cP l n K)), some (vI ((K + 1 : Nat) : Int)), none] [] A (some (vI s)) A' ∧ CB S A' o en t st' h') ∧ ∀ (S B : ms) (cc : Nat), S.1 367 18 = hi → RdM S en t → CodS S cc n l → MB S B en st h → ∃ B', EV q 365 58 [some (.ref 367), some (vI (cc : Nat)), some (vI n), some (vI (cG l n)), some (vI w), some (vI ((K + 1 : Nat) : Int)), none] [] B (some (vI s)) B' ∧ MB S B' en st' h' := by
    intro K w st h hK hc hr hh
    have wK : Unit → w32 (((K + 1 : Nat) : Int)) = ((K + 1 : Nat) : Int) := fun _ => w32_of (by omega)
    refine ⟨-1, rdTell 88 st, h, ⟨rdR_tell hr (by decide), Fw_tellAt, hR_n hh Fw_tellAt, by rw [rdTell_2]⟩, fun y => absurd y (rdTell_1 (by decide)), fun _ => rfl, fun S A o b hS hC hD hA => ?_, fun S B cc hS hC hD hB => ?_⟩
    · obtain ⟨A1, k1, k2⟩ := sb_tell (q := q) (k := 88) hr hC.2.2.1 hA
      have e5 : A.1 b 5 = cG l n := by
        have ho := hC.2.2.1
        rw [hA.2.2.2 b 5 (by have := hD.2.1; omega) (by have := hD.2.1; omega) (by have := hD.2.1; omega)]
        exact hD.2.2.2.1
      refine ⟨A1, vc_Source_symbol_11 _ _ _ _ _ _ hD.1 ?_, k2⟩
      rw [e5, wG, wK ()]
      exact cY hc ⟨A1, k1, rfl, rfl⟩
    · obtain ⟨B1, k1, k2⟩ := mb_tell (q := q) (k := 88) hr he.2 hh hB
      refine ⟨B1, vc_MD_sortedSymbol_58 _ _ _ _ _ ?_, k2⟩
      rw [wG, wK ()]
      exact cY hc ⟨B1, k1, rfl, rfl⟩
  have loop : ∀ (m K : Nat) (w : Int) (st : Rd) (h : Int), K + m = 20 → (0 ≤ w ∧ w < (2 : Int) ^ K) → cC l n K ≤ 2 * w → rdR en st → hR st h → ∃ (s : Int) (st' : Rd) (h' : Int), (rdR en st' ∧ Fw st st' ∧ hR st' h' ∧ st'.2.2.2 = st.2.2.2) ∧ (st'.1 = 0 → (0 ≤ s ∧ s < n) ∧ rdP st h + 1 ≤ rdP st' h') ∧ (st'.1 ≠ 0 → s = -1) ∧ (∀ (S A : ms) (o b : Nat), S.1 9 7 = hi → RdC S o en t → CodC S b n l → CB S A o en t st h → ∃ A', EV q 134 11 [some (.ref 9), some (.ref b), some (vI 88), some (vI (w * 2)), some (vI (cC l n K)), some (vI (cP l n K)), some (vI ((K + 1 : Nat) : Int)), none] [] A (some (vI s)) A' ∧ CB S A' o en t st' h') ∧ ∀ (S B : ms) (cc : Nat), S.1 367 18 = hi → RdM S en t → CodS S cc n l → MB S B en st h → ∃ B', EV q 365 58 [some (.ref 367), some (vI (cc : Nat)), some (vI n), some (vI (cG l n)), some (vI w), some (vI ((K + 1 : Nat) : Int)), none] [] B (some (vI s)) B' ∧ MB S B' en st' h' := by
    intro m
    induction m with
    | zero =>
      intro K w st h hK hw hc hr hh
      exact none11 K w st h (by omega) (by omega) hr hh
    | succ m ih =>
      intro K w st h hK hw hc hr hh
      by_cases cg : cG l n < ((K + 1 : Nat) : Int)
      · exact none11 K w st h (by omega) cg hr hh
      have wK : Unit → w32 (((K + 1 : Nat) : Int)) = ((K + 1 : Nat) : Int) := fun _ => w32_of (by omega)
      have p20 : (2 : Int) ^ K ≤ 1048576 := by
        have : (2 : Nat) ^ K ≤ 2 ^ 20 := Nat.pow_le_pow_right (by decide) (by omega)
        have e : ((2 ^ K : Nat) : Int) = (2 : Int) ^ K := by rw [Int.natCast_pow]; rfl
        rw [← e]
        have e2 : (2 : Nat) ^ 20 = 1048576 := by decide
        omega
      have ps : (2 : Int) ^ (K + 1) = (2 : Int) ^ K * 2 := Int.pow_succ _ _
      obtain ⟨g1, g2, g3, g4, g5, g6⟩ := rdBit_s (t := t) (hi := hi) hr hh
      obtain ⟨v, ev⟩ : ∃ v : Int, v = w * 2 + (rdBit t en hi st h).1 := ⟨_, rfl⟩
      have ebo : bO (w * 2) (rdBit t en hi st h).1 = v := by rw [bO_v (by omega) g5, ev]
      have cK := cC_rg (l := l) hn K (by omega)
      have nK := cN_0 l ((K + 1 : Nat) : Int) n
      have pK := cP_le l n K
      have wv : w32 (v - cC l n K) = v - cC l n K := w32_of (by omega)
      have wNK : w32 (cN l ((K + 1 : Nat) : Int) n) = cN l ((K + 1 : Nat) : Int) n := w32_of (by omega)
      have hgA : ∀ (S A : ms) (o b : Nat), RdC S o en t → CodC S b n l → CB S A o en t st h → ¬ w32 (A.1 b 5) < w32 (((K + 1 : Nat) : Int)) := by
        intro S A o b hC hD hA
        have ho := hC.2.2.1
        rw [hA.2.2.2 b 5 (by have := hD.2.1; omega) (by have := hD.2.1; omega) (by have := hD.2.1; omega), hD.2.2.2.1, wG, wK ()]
        exact cg
      -- the reference as far as the bit
      have hm : ∀ (S B : ms) (cc : Nat), S.1 367 18 = hi → RdM S en t → CodS S cc n l → MB S B en st h → ∃ B1, MB S B1 en (rdBit t en hi st h).2.1 (rdBit t en hi st h).2.2 ∧ ∀ (r : Option Value) (S' : ms), ((rdBit t en hi st h).2.1.1 ≠ 0 → r = some (vI (-1)) ∧ S' = B1) → ((rdBit t en hi st h).2.1.1 = 0 → EV q 365 87 [some (.ref 367), some (vI (cc : Nat)), some (vI n), some (vI (cG l n)), some (vI v), some (vI ((K + 1 : Nat) : Int)), some (vI 0)] [] B1 r S') → EV q 365 58 [some (.ref 367), some (vI (cc : Nat)), some (vI n), some (vI (cG l n)), some (vI w), some (vI ((K + 1 : Nat) : Int)), none] [] B r S' := by
        intro S B cc hS hC hD hB
        obtain ⟨B1, k1, k2⟩ := mb_bit (q := q) (hi := hi) ⟨hS, hhi⟩ he.2 hC hr hh hB
        have kf := md_fine (q := q) g1 k2
        refine ⟨B1, k2, fun r S' y1 y2 => vc_MD_sortedSymbol_58 _ _ _ _ _ ?_⟩
        rw [wG, wK ()]
        refine cNo cg ⟨_, B1, k1, _, B1, kf, ?_⟩
        rw [ebo]
        by_cases c : (rdBit t en hi st h).2.1.1 = 0
        · rw [if_pos c]
          exact cY (by decide) (y2 c)
        · rw [if_neg c]
          exact cNN (by decide) (y1 c)
      by_cases c : (rdBit t en hi st h).2.1.1 = 0
      case neg =>
        refine ⟨-1, (rdBit t en hi st h).2.1, (rdBit t en hi st h).2.2, ⟨g1, g2, g3, g4⟩, fun y => absurd y c, fun _ => rfl, fun S A o b hS hC hD hA => ?_, fun S B cc hS hC hD hB => ?_⟩
        · exact (sy_bit (q := q) (x2 := 88) (x3 := w * 2) (x4 := cC l n K) (x5 := cP l n K) (x6 := ((K + 1 : Nat) : Int)) ⟨hS, hhi⟩ hC ht hD.1 hr hh (hgA S A o b hC hD hA) hA).1 c
        · obtain ⟨B1, k1, k2⟩ := hm S B cc hS hC hD hB
          exact ⟨B1, k2 _ _ (fun _ => ⟨rfl, rfl⟩) (fun y => absurd y c), k1⟩
      have cb5 : ∀ (S A1 : ms) (o b : Nat) (s : Rd) (g : Int), RdC S o en t → CodC S b n l → CB S A1 o en t s g → A1.1 (b + 5) (w32 (((K + 1 : Nat) : Int))) = cN l ((K + 1 : Nat) : Int) n := by
        intro S A1 o b s g hC hD hA1
        have ho := hC.2.2.1
        rw [wK (), hA1.2.2.2 (b + 5) _ (by have := hD.2.1; omega) (by have := hD.2.1; omega) (by have := hD.2.1; omega)]
        exact hD.2.2.2.2.1 (K + 1) (by omega) (by omega)
      have em : ∀ (S B1 : ms) (cc : Nat) (s : Rd) (g : Int), CodS S cc n l → MB S B1 en s g → (∀ t : Nat, t < n → B1.1 413 (260 * (cc : Int) + t) = l t ∧ (0 ≤ l t ∧ l t ≤ 20)) ∧ ∀ t : Nat, t < n → 0 < l t → B1.1 414 (260 * (cc : Int) + t) = cdOf l n t := by
        intro S B1 cc s g hD hB1
        refine ⟨fun t ht => ⟨?_, hl t ht⟩, fun t ht hlt => ?_⟩
        · rw [hB1.2.2.2 413 _ (by omega) (by omega)]
          exact hD.2.2.1 t ht
        · rw [hB1.2.2.2 414 _ (by omega) (by omega)]
          exact hD.2.2.2 t ht hlt
      by_cases cm : cN l ((K + 1 : Nat) : Int) n ≤ v - cC l n K
      · -- longer
        obtain ⟨s, st', h', ⟨f1, f2, f3, f4⟩, f5, f6, f7, f8⟩ := ih (K + 1) v (rdBit t en hi st h).2.1 (rdBit t en hi st h).2.2 (by omega) (by rw [ps]; omega) (by rw [cC_k]; omega) g1 g3
        refine ⟨s, st', h', ⟨f1, Fw_t g2 f2, f3, by rw [f4, g4]⟩, fun y => ⟨(f5 y).1, by have := (f5 y).2; have := g6 c; omega⟩, f6, fun S A o b hS hC hD hA => ?_, fun S B cc hS hC hD hB => ?_⟩
        · obtain ⟨A1, k1, k2⟩ := (sy_bit (q := q) (x2 := 88) (x3 := w * 2) (x4 := cC l n K) (x5 := cP l n K) (x6 := ((K + 1 : Nat) : Int)) ⟨hS, hhi⟩ hC ht hD.1 hr hh (hgA S A o b hC hD hA) hA).2 c
          obtain ⟨A', k3, k4⟩ := f7 S A1 o b hS hC hD k1
          refine ⟨A', k2 _ _ ?_, k4⟩
          rw [cb5 S A1 o b _ _ hC hD k1, ebo, wNK, wv, wK ()]
          refine ⟨by omega, cY cm ?_⟩
          rw [show ((K + 1 + 1 : Nat) : Int) = ((K + 1 : Nat) : Int) + 1 by omega, cC_k, cP_k] at k3
          exact k3
        · obtain ⟨B1, k1, k2⟩ := hm S B cc hS hC hD hB
          obtain ⟨B', k3, k4⟩ := f8 S B1 cc hS hC hD k1
          obtain ⟨q1, q2⟩ := em S B1 cc _ _ hD k1
          refine ⟨B', k2 _ _ (fun y => absurd c y) (fun _ => ?_), k4⟩
          refine mss_none (q := q) hD.1 hD.2.1 q1 q2 (fun t ht hlt => cd_rg hn ht ⟨hlt, (hl t ht).2⟩) (by omega) (by omega) n (Nat.le_refl _) (fun t ht y => ?_) (Or.inl ⟨rfl, ?_⟩)
          · have e1 : cdOf l n t = cC l n K + cN l ((K + 1 : Nat) : Int) t := by
              unfold cdOf
              rw [y.1, show (((K + 1 : Nat) : Int) - 1).toNat = K by omega]
            have e2 := cN_lt l (m := t) (n := n) ht
            rw [y.1] at e2
            have := y.2
            omega
          · rw [show ((K + 1 + 1 : Nat) : Int) = ((K + 1 : Nat) : Int) + 1 by omega] at k3
            exact k3
      · -- this one
        obtain ⟨s, q1, q2, q3, q4⟩ := cd_find (l := l) (n := n) (K := K) (v := v) (by omega) (by omega)
        have pl := plOf_rg (l := l) q1 (by omega)
        refine ⟨s, (rdBit t en hi st h).2.1, (rdBit t en hi st h).2.2, ⟨g1, g2, g3, g4⟩, fun _ => ⟨by omega, by have := g6 c; omega⟩, fun y => absurd c y, fun S A o b hS hC hD hA => ?_, fun S B cc hS hC hD hB => ?_⟩
        · obtain ⟨A1, k1, k2⟩ := (sy_bit (q := q) (x2 := 88) (x3 := w * 2) (x4 := cC l n K) (x5 := cP l n K) (x6 := ((K + 1 : Nat) : Int)) ⟨hS, hhi⟩ hC ht hD.1 hr hh (hgA S A o b hC hD hA) hA).2 c
          have ho := hC.2.2.1
          have wp : w32 (cP l n K + v - cC l n K) = cP l n K + v - cC l n K := w32_of (by omega)
          have e4 : A1.1 (b + 4) (cP l n K + v - cC l n K) = s := by
            rw [k1.2.2.2 (b + 4) _ (by have := hD.2.1; omega) (by have := hD.2.1; omega) (by have := hD.2.1; omega), ← q4]
            exact hD.2.2.2.2.2 s q1 (by omega)
          refine ⟨A1, k2 _ _ ?_, k1⟩
          rw [cb5 S A1 o b _ _ hC hD k1, ebo, wNK, wv, wK (), wp, e4]
          exact ⟨by omega, cNo cm ⟨by omega, rfl, rfl⟩⟩
        · obtain ⟨B1, k1, k2⟩ := hm S B cc hS hC hD hB
          obtain ⟨u1, u2⟩ := em S B1 cc _ _ hD k1
          refine ⟨B1, k2 _ _ (fun y => absurd c y) (fun _ => ?_), k1⟩
          refine mss_none (q := q) hD.1 hD.2.1 u1 u2 (fun t ht hlt => cd_rg hn ht ⟨hlt, (hl t ht).2⟩) (by omega) (by omega) s (by omega) (fun t ht y => ?_) (Or.inr ⟨q1, ⟨q2, q3⟩, rfl, rfl⟩)
          have := cd_in (l := l) (n := n) (s := t) (s' := s) (by rw [y.1, q2]) (by omega) q1 (by rw [y.2, q3])
          omega
  obtain ⟨s, st', h', f1, f2, f3, f4, f5⟩ := loop 20 0 0 st h (by omega) (by show (0 : Int) ≤ 0 ∧ (0 : Int) < 1; decide) (by show (0 : Int) ≤ 2 * 0; decide) hr hh
  refine ⟨s, st', h', f1, f2, f3, fun S A o b hS hC hD hA => ?_, fun S B cc hS hC hD hB => ?_⟩
  · obtain ⟨A', k1, k2⟩ := f4 S A o b hS hC hD hA
    exact ⟨A', vc_Source_symbol _ _ hD.1 k1, k2⟩
  · obtain ⟨B', k1, k2⟩ := f5 S B cc hS hC hD hB
    refine ⟨B', vc_MD_sortedSymbol _ _ ?_, k2⟩
    -- the greatest length
    have wn : Unit → w32 ((n : Nat) : Int) = n := fun _ => w32_of (by omega)
    have lp : ∀ (m j : Nat), j + m = n → EV q 365 5 [some (.ref 367), some (vI (cc : Nat)), some (vI n), some (vI (cG l j)), some (vI j), none, none] [] B (some (vI s)) B' := by
      intro m
      induction m with
      | zero =>
        intro j hj
        have e : j = n := by omega
        subst e
        exact vc_MD_sortedSymbol_5 _ _ _ _ (cY (Int.le_refl _) k1)
      | succ m ih =>
        intro j hj
        have g := ih (j + 1) (by omega)
        rw [show ((j + 1 : Nat) : Int) = (j : Int) + 1 by omega] at g
        have wj : Unit → w32 ((j : Nat) : Int) = j := fun _ => w32_of (by omega)
        have hlj := hl j (by omega)
        have gj := cG_rg (l := l) j (fun s hs => hl s (by omega))
        have wcj : Unit → w32 (260 * (cc : Int) + j) = 260 * (cc : Int) + j := fun _ => w32_of (by have := hD.1; have := hD.2.1; omega)
        have e1 : B.1 413 (260 * (cc : Int) + j) = l j := by
          rw [hB.2.2.2 413 _ (by omega) (by omega)]
          exact hD.2.2.1 j (by omega)
        have wl : w32 (l j) = l j := w32_of (by omega)
        have wg : w32 (cG l j) = cG l j := w32_of (by omega)
        have es : cG l (j + 1) = if 0 < l j then max (cG l j) (l j) else cG l j := rfl
        have hn1 := hD.1
        have hn2 := hD.2.1
        refine vc_MD_sortedSymbol_5 _ _ _ _ ?_
        rw [wn (), wj (), wcj (), e1, wl, wg]
        refine cNo (by omega) ⟨by omega, fun y => ?_, fun y => ⟨by omega, ?_⟩⟩
        · have eg : cG l (j + 1) = cG l j := by
            rw [es]
            split <;> omega
          rw [eg] at g
          exact vc_MD_sortedSymbol_45 _ _ _ _ _ g
        · have eg : cG l (j + 1) = l j := by
            rw [es]
            split <;> omega
          rw [eg] at g
          exact vc_MD_sortedSymbol_45 _ _ _ _ _ g
    exact lp n 0 (by omega)
end Sym3
