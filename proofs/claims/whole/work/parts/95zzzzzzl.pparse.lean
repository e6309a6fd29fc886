/-! pack: BLOCKS; the parses greedy and lazy -/
section PParse
variable {q : Nat × (Nat → Int32)} {x : Int} {t : Int → Int}
def XPt (a : Nat) (k : Int) : Prop := XTm a k ∨ XLo a k
/-- greedy for BLOCKS: cut by spans of 2000, or not at all -/
theorem grc_b {cut : Int} {n0 d0 : Int → Int} (hx : 0 ≤ x ∧ x ≤ 6000) (hc : cut = 0 ∨ cut = 1) (hL : ∀ p : Int, 0 ≤ p → p < x → LM t p (min 258 (x - p)) (n0 p) (d0 p)) : ∀ p : Int, 0 ≤ p → p < x → grS 3 cut x n0 p = (if 3 ≤ min (n0 p) ((if cut = 0 then x else p / 2000 * 2000 + 2000) - p) then min (n0 p) ((if cut = 0 then x else p / 2000 * 2000 + 2000) - p) else 1) ∧ grG 3 cut x n0 d0 p = if 3 ≤ min (n0 p) ((if cut = 0 then x else p / 2000 * 2000 + 2000) - p) then d0 p else 0 := fun p p0 p1 => by
  have h1 := (hL p p0 p1).1
  obtain ⟨L, eL⟩ : ∃ L, L = min (n0 p) ((if cut = 0 then x else p / 2000 * 2000 + 2000) - p) := ⟨_, rfl⟩
  have e : (3 ≤ grN 3 cut x n0 p ↔ 3 ≤ L) ∧ (3 ≤ L → grN 3 cut x n0 p = L) := by
    rw [eL]
    rcases hc with c | c
    · have e1 : fcF cut x p = x := by
        unfold fcF
        rw [if_neg (by omega), if_neg (by omega)]
      unfold grN
      rw [e1, if_pos c]
      split <;> omega
    · have e1 : fcF cut x p = min x ((p / 2000 + 1) * 2000) := by
        unfold fcF
        rw [if_pos c]
      unfold grN
      rw [e1, if_neg (show ¬ cut = 0 by omega)]
      split <;> omega
  rw [← eL]
  unfold grS grG
  by_cases c : 3 ≤ L
  · have c' := e.1.2 c
    simp only [if_pos c, if_pos c', e.2 c, and_self]
  · have c' : ¬ 3 ≤ grN 3 cut x n0 p := fun y => c (e.1.1 y)
    simp only [if_neg c, if_neg c', and_self]
theorem md_grd {cut : Int} {n0 d0 : Int → Int} {P : Nat → Int} {K : Nat} (hx : 0 ≤ x ∧ x ≤ 6000) (hc : cut = 0 ∨ cut = 1) (hL : ∀ p : Int, 0 ≤ p → p < x → LM t p (min 258 (x - p)) (n0 p) (d0 p)) (hM : ∀ p : Int, 0 ≤ p → p < x → ∀ B : ms, TXm B x t → ∃ B', EX XLo B B' ∧ B'.1 367 26 = n0 p ∧ B'.1 367 27 = d0 p ∧ LF t p (n0 p) (B'.1 379) ∧ EV q 293 0 [some (.ref 367), some (.ref 368), some (vI x), some (vI p), some (vI 258), some (vI 32768), none, none, none, none, none] [] B none B') (hP : GP x (grS 3 cut x n0) (grG 3 cut x n0 d0) P K) : ∀ (v k : Nat) (B : ms), k + v = K → TXm B x t → MTk B (tkF (grS 3 cut x n0) (grG 3 cut x n0 d0) P) k → ∃ B', EX XPt B B' ∧ MTk B' (tkF (grS 3 cut x n0) (grG 3 cut x n0 d0) P) K ∧ EV q 295 2 [some (.ref 367), some (vI (2000 * cut)), some (vI (P k)), none, none] [] B none B' := by
  have gr := gr_rg (cut := cut) (least := 3) hx (by decide) hL
  have g0 := grc_b hx hc hL
  have le := GP_le hP (fun p p0 p1 => (gr p p0 p1).1)
  have lx := hx.2
  have wx : w32 x = x := w32_of (by omega)
  intro v
  induction v with
  | zero =>
    intro k B hk hB hT
    have e : k = K := by omega
    subst e
    refine ⟨B, EX.refl _ B, hT, vc_MD_parseGreedy_2 _ _ ?_⟩
    rw [hB.1, hP.2.1]
    exact cY (Int.le_refl _) ⟨rfl, rfl⟩
  | succ v ih =>
    intro k B hk hB hT
    have hp := hP.2.2 k (by omega)
    have lk := (le k (by omega)).1
    have ek : tkF (grS 3 cut x n0) (grG 3 cut x n0 d0) P k = (grS 3 cut x n0 (P k), grG 3 cut x n0 d0 (P k), P k) := by unfold tkF; rw [show ((k : Int)).toNat = k by omega]
    obtain ⟨B1, b1, b2, b3, -, b4⟩ := hM (P k) hp.1.1 hp.1.2 B hB
    have hB1 := TXm_lo hB b1
    have hl := (hL (P k) hp.1.1 hp.1.2)
    have hl1 := hl.1
    have wp : w32 (P k) = P k := w32_of (by omega)
    obtain ⟨B2, c1, c2, c3⟩ := md_token (q := q) (n := k) (by omega) ek (MTk_lo hT b1)
    have hB2 := TXm_tk hB1 c1
    have kx : ¬ x ≤ P k := by omega
    have x1 : EX XPt B B2 := (EX.mono b1 (fun a k y => Or.inr y) : EX XPt B B1).trans (EX.mono c1 (fun a k y => Or.inl y))
    obtain ⟨B', g1, g2, g4⟩ := ih (k + 1) B2 (by omega) hB2 (by rw [show ((k + 1 : Nat) : Int) = (k : Int) + 1 by omega]; exact c2)
    obtain ⟨p, ep⟩ : ∃ p, p = P k := ⟨_, rfl⟩
    have e12 := g0 (P k) hp.1.1 hp.1.2
    rw [← ep] at e12 c3 hp wp b2 b3 b4 hl1 kx
    obtain ⟨la, ela⟩ : ∃ la, la = if cut = 0 then x else p / 2000 * 2000 + 2000 := ⟨_, rfl⟩
    have lar : -10 ≤ la ∧ la < 20000 ∧ p < la := by
      rw [ela]
      split <;> omega
    rw [← ela] at e12
    obtain ⟨L, eL⟩ : ∃ L, L = min (n0 p) (la - p) := ⟨_, rfl⟩
    rw [← eL] at e12
    have wL : w32 L = L := w32_of (by omega)
    have k69 : EV q 295 69 [some (.ref 367), some (vI (2000 * cut)), some (vI p), some (vI (n0 p)), some (vI la)] [vI L] B1 none B' := by
      refine vc_MD_parseGreedy_69 _ _ _ _ _ ?_
      rw [wL, b3]
      by_cases c : 3 ≤ L
      · rw [if_pos c] at e12
        rw [if_pos c] at e12
        rw [e12.1, e12.2] at c3
        rw [hp.2, e12.1] at g4
        exact cY c ⟨B2, c3, vc_MD_parseGreedy_102 _ _ _ _ g4⟩
      · rw [if_neg c] at e12
        rw [if_neg c] at e12
        rw [e12.1, e12.2] at c3
        rw [hp.2, e12.1] at g4
        exact cNo c ⟨B2, c3, vc_MD_parseGreedy_102 _ _ _ _ g4⟩
    have k51 : EV q 295 51 [some (.ref 367), some (vI (2000 * cut)), some (vI p), some (vI (n0 p)), none] [vI la] B1 none B' := by
      refine vc_MD_parseGreedy_51 _ _ _ _ ?_
      rw [w32_of (x := n0 p) (by omega), w32_of (x := la - p) (by omega)]
      by_cases c : n0 p ≤ la - p
      · rw [show L = n0 p by omega] at k69
        exact cY c k69
      · rw [show L = la - p by omega] at k69
        exact cNo c k69
    refine ⟨B', x1.trans g1, g2, vc_MD_parseGreedy_2 _ _ ?_⟩
    rw [hB.1, wx, ← ep, wp]
    refine cNo kx ⟨B1, b4, ?_⟩
    rw [b2, hB1.1]
    rcases hc with cc | cc
    · rw [cc] at ela k51 ⊢
      rw [if_pos rfl] at ela
      rw [ela] at k51
      exact cNN (by decide) k51
    · rw [cc] at ela k51 ⊢
      rw [if_neg (by decide)] at ela
      have et : Int.tdiv p (w32 (2000 * 1)) * (2000 * 1) + 2000 * 1 = la := by
        rw [ela, show w32 (2000 * 1) = 2000 by decide, Int.tdiv_eq_ediv_of_nonneg (by omega)]
        rfl
      rw [et]
      exact cY (by decide) ⟨by decide, k51⟩
/-- lazy -/
abbrev lzC (x : Int) (n0 : Int → Int) (p : Int) : Prop := 3 ≤ n0 p ∧ ¬ (p + 1 < x ∧ n0 p < n0 (p + 1))
def lzS (x : Int) (n0 : Int → Int) (p : Int) : Int := if lzC x n0 p then n0 p else 1
def lzG (x : Int) (n0 d0 : Int → Int) (p : Int) : Int := if lzC x n0 p then d0 p else 0
theorem lz_rg {n0 d0 : Int → Int} (hL : ∀ p : Int, 0 ≤ p → p < x → LM t p (min 258 (x - p)) (n0 p) (d0 p)) : ∀ p : Int, 0 ≤ p → p < x → (1 ≤ lzS x n0 p ∧ p + lzS x n0 p ≤ x) ∧ (0 ≤ lzG x n0 d0 p ∧ lzG x n0 d0 p ≤ p) ∧ (0 < lzG x n0 d0 p → 3 ≤ lzS x n0 p ∧ lzS x n0 p ≤ 258) := by
  intro p p0 p1
  have h := hL p p0 p1
  have h1 := h.1
  unfold lzS lzG
  by_cases c : lzC x n0 p
  · rw [if_pos c, if_pos c]
    have h3 := (h.2.2.1 (by have := c.1; omega)).1
    have := c.1
    exact ⟨by omega, by omega, fun _ => by omega⟩
  · rw [if_neg c, if_neg c]
    exact ⟨by omega, by omega, fun y => absurd y (by decide)⟩
def NN (x : Int) (n0 : Int → Int) (p : Int) : Int := if p < x then (if 3 ≤ n0 p then n0 p else 0) else 0
theorem cl_longx {A : ms} {c N : Nat} {p : Int} {n0 d0 : Int → Int} (hx : 0 ≤ x ∧ x ≤ 6000) (hp : 0 ≤ p ∧ p ≤ x) (hL : ∀ p : Int, 0 ≤ p → p < x → LM t p (min 258 (x - p)) (n0 p) (d0 p)) (hA : FD A c N x t) : ∃ A', EX X4 A A' ∧ (p < x → 3 ≤ n0 p → A'.1 10 4 = d0 p) ∧ EV q 60 0 [some (.ref 10), some (vI p), some (vI 3), some (vI 258), none, none, none, none, none] [] A (some (vI (NN x n0 p))) A' := by
  unfold NN
  by_cases c1 : p < x
  · obtain ⟨A', k1, k2, k3⟩ := cl_long (q := q) (least := 3) (most := 258) hx ⟨hp.1, c1⟩ (by decide) (by decide) (hL p hp.1 c1) hA
    rw [if_pos c1]
    exact ⟨A', k1, fun _ => k2, k3⟩
  · rw [if_neg c1]
    exact ⟨A, EX.refl _ A, fun y => absurd y c1, cl_long0 hx hp (by decide) (by decide) (by omega) hA⟩
theorem cl_lazyL {n0 d0 : Int → Int} {P : Nat → Int} {K c N a1 na : Nat} (ha : isRow a1 na) (hx : 0 ≤ x ∧ x ≤ 6000) (hL : ∀ p : Int, 0 ≤ p → p < x → LM t p (min 258 (x - p)) (n0 p) (d0 p)) (hP : GP x (lzS x n0) (lzG x n0 d0) P K) : ∀ (v k : Nat) (A : ms) (x4 : Int), k + v = K → FD A c N x t → CTk A (tkF (lzS x n0) (lzG x n0 d0) P) k → (P k < x → 3 ≤ n0 (P k) → x4 = d0 (P k)) → ∃ A', EX (fun a k => XTc a k ∨ X4 a k) A A' ∧ CTk A' (tkF (lzS x n0) (lzG x n0 d0) P) K ∧ EV q 67 26 [some (.ref 10), some (.ref a1), some (vI (P k)), some (vI (NN x n0 (P k))), some (vI x4), some (vI k), none] [] A none A' := by
  have rg := lz_rg hL
  have le := GP_le hP (fun p p0 p1 => (rg p p0 p1).1)
  have lx := hx.2
  have wx : w32 x = x := w32_of (by omega)
  intro v
  induction v with
  | zero =>
    intro k A x4 hk hA hT h4
    have e : k = K := by omega
    subst e
    refine ⟨A, EX.refl _ A, hT, vc_Finder_lazy_26 _ _ _ _ _ _ ha ?_⟩
    rw [hA.2.2.1, hP.2.1]
    exact ⟨fun _ => ⟨rfl, rfl⟩, fun _ => cY (Int.le_refl _) ⟨rfl, rfl⟩⟩
  | succ v ih =>
    intro k A x4 hk hA hT h4
    have hp := hP.2.2 k (by omega)
    have lk := (le k (by omega)).1
    obtain ⟨p, ep⟩ : ∃ p, p = P k := ⟨_, rfl⟩
    rw [← ep] at hp lk h4
    have sp := rg p hp.1.1 hp.1.2
    have hTk : tkF (lzS x n0) (lzG x n0 d0) P k = (lzS x n0 p, lzG x n0 d0 p, p) := by
      unfold tkF
      rw [show ((k : Int)).toNat = k by omega, ← ep]
    have hl1 := (hL p hp.1.1 hp.1.2).1
    have wk : Unit → w32 ((k : Nat) : Int) = k := fun _ => w32_of (by omega)
    have wp : w32 p = p := w32_of (by omega)
    have keepF : ∀ A1 : ms, EX (fun a k => XTc a k ∨ X4 a k) A A1 → FD A1 c N x t := fun A1 e => FD_x hA e (fun a k y => by have := hA.1.2.2; unfold XTc X4 at y; omega)
    have xq : ∀ {A1 A2 : ms}, EX X4 A1 A2 → EX (fun a k => XTc a k ∨ X4 a k) A1 A2 := fun e => EX.mono e (fun a k y => Or.inr y)
    have xt : ∀ {A1 A2 : ms}, EX XTc A1 A2 → EX (fun a k => XTc a k ∨ X4 a k) A1 A2 := fun e => EX.mono e (fun a k y => Or.inl y)
    have tq : ∀ {A1 A2 : ms} {n : Int}, EX X4 A1 A2 → CTk A1 (tkF (lzS x n0) (lzG x n0 d0) P) n → CTk A2 (tkF (lzS x n0) (lzG x n0 d0) P) n := fun e h => CTk_e h (fun a k y => e.2 a k (by unfold X4; unfold XTc at y; omega))
    -- the next round
    have nx : ∀ (A2 : ms) (z x4' x6 : Int), EX (fun a k => XTc a k ∨ X4 a k) A A2 → CTk A2 (tkF (lzS x n0) (lzG x n0 d0) P) ((k : Int) + 1) → z = NN x n0 (p + lzS x n0 p) → (p + lzS x n0 p < x → 3 ≤ n0 (p + lzS x n0 p) → A2.1 10 4 = d0 (p + lzS x n0 p)) → ∃ A', EX (fun a k => XTc a k ∨ X4 a k) A A' ∧ CTk A' (tkF (lzS x n0) (lzG x n0 d0) P) K ∧ EV q 67 135 [some (.ref 10), some (.ref a1), some (vI (p + lzS x n0 p)), some (vI z), some (vI x4'), some (vI k), some (vI x6)] [] A2 none A' := fun A2 z x4' x6 y1 y2 y3 y4 => by
      obtain ⟨A', g1, g2, g3⟩ := ih (k + 1) A2 (A2.1 10 4) (by omega) (keepF A2 y1) (by rw [show ((k + 1 : Nat) : Int) = (k : Int) + 1 by omega]; exact y2) (by rw [hp.2]; exact y4)
      rw [hp.2, ← y3, show ((k + 1 : Nat) : Int) = (k : Int) + 1 by omega] at g3
      exact ⟨A', y1.trans g1, g2, vc_Finder_lazy_135 _ _ _ _ _ _ _ ha g3⟩
    have eN : NN x n0 p = if 3 ≤ n0 p then n0 p else 0 := by unfold NN; rw [if_pos hp.1.2]
    by_cases c3 : 3 ≤ n0 p
    · rw [if_pos c3] at eN
      obtain ⟨A1, a1', a2, a3⟩ := cl_longx (q := q) (p := p + 1) hx (by omega) hL hA
      have hT1 := tq a1' hT
      have hA1 := keepF A1 (xq a1')
      obtain ⟨y0, ey0⟩ : ∃ y0, y0 = NN x n0 (p + 1) := ⟨_, rfl⟩
      rw [← ey0] at a3
      have y0r : 0 ≤ y0 ∧ y0 ≤ 258 := by
        rw [ey0]
        unfold NN
        by_cases d : p + 1 < x
        · have := (hL (p + 1) (by omega) d).1
          rw [if_pos d]
          split <;> omega
        · rw [if_neg d]; decide
      have hcond : lzC x n0 p ↔ y0 ≤ n0 p := by
        unfold lzC
        rw [ey0]
        unfold NN
        constructor
        · intro y
          split
          · split
            · have := y.2
              omega
            · omega
          · omega
        · intro y
          refine ⟨c3, fun z => ?_⟩
          rw [if_pos z.1, if_pos (by omega)] at y
          omega
      obtain ⟨A2, b1, b2, b3⟩ := cl_token (q := q) (n := k) (by omega) hTk hT1
      by_cases c0 : y0 ≤ n0 p
      · have es : lzS x n0 p = n0 p := by unfold lzS; rw [if_pos (hcond.2 c0)]
        have eg : lzG x n0 d0 p = d0 p := by unfold lzG; rw [if_pos (hcond.2 c0)]
        have hA2 := keepF A2 ((xq a1').trans (xt b1))
        obtain ⟨A3, i1, i2, i3⟩ := cl_longx (q := q) (p := p + n0 p) hx (by omega) hL hA2
        obtain ⟨A', g1, g2, g3⟩ := nx A3 (NN x n0 (p + n0 p)) x4 y0 (((xq a1').trans (xt b1)).trans (xq i1)) (tq i1 b2) (by rw [es]) (by rw [es]; exact i2)
        rw [es] at g3 b3
        rw [eg] at b3
        refine ⟨A', g1, g2, vc_Finder_lazy_26 _ _ _ _ _ _ ha ?_⟩
        rw [← ep, hA.2.2.1, wx, wk (), wp, eN, w32_of (x := n0 p) (by omega)]
        refine cNo (by omega) (cNo (by omega) (cY (by omega) ⟨y0, A1, a3, vc_Finder_lazy_62 _ _ _ _ _ _ _ ha ?_⟩))
        rw [w32_of (x := n0 p) (by omega), w32_of (x := y0) (by omega)]
        refine cY (by omega) (cY c0 ⟨A2, ?_, NN x n0 (p + n0 p), A3, i3, g3⟩)
        rw [h4 hp.1.2 c3]
        exact b3
      · have es : lzS x n0 p = 1 := by unfold lzS; rw [if_neg (fun y => c0 (hcond.1 y))]
        have eg : lzG x n0 d0 p = 0 := by unfold lzG; rw [if_neg (fun y => c0 (hcond.1 y))]
        obtain ⟨A', g1, g2, g3⟩ := nx A2 y0 x4 y0 ((xq a1').trans (xt b1)) b2 (by rw [es]; exact ey0) (by rw [es]; intro y1 y2; rw [b1.2 10 4 (by unfold XTc; omega)]; exact a2 y1 y2)
        rw [es] at g3 b3
        rw [eg] at b3
        refine ⟨A', g1, g2, vc_Finder_lazy_26 _ _ _ _ _ _ ha ?_⟩
        rw [← ep, hA.2.2.1, wx, wk (), wp, eN, w32_of (x := n0 p) (by omega)]
        refine cNo (by omega) (cNo (by omega) (cY (by omega) ⟨y0, A1, a3, vc_Finder_lazy_62 _ _ _ _ _ _ _ ha ?_⟩))
        rw [w32_of (x := n0 p) (by omega), w32_of (x := y0) (by omega)]
        exact cY (by omega) (cNo c0 ⟨A2, b3, g3⟩)
    · rw [if_neg c3] at eN
      have es : lzS x n0 p = 1 := by unfold lzS; rw [if_neg (fun y => c3 y.1)]
      have eg : lzG x n0 d0 p = 0 := by unfold lzG; rw [if_neg (fun y => c3 y.1)]
      obtain ⟨A2, b1, b2, b3⟩ := cl_token (q := q) (n := k) (by omega) hTk hT
      have hA2 := keepF A2 (xt b1)
      obtain ⟨A3, i1, i2, i3⟩ := cl_longx (q := q) (p := p + 1) hx (by omega) hL hA2
      obtain ⟨A', g1, g2, g3⟩ := nx A3 (NN x n0 (p + 1)) x4 0 ((xt b1).trans (xq i1)) (tq i1 b2) (by rw [es]) (by rw [es]; exact i2)
      rw [es] at g3 b3
      rw [eg] at b3
      refine ⟨A', g1, g2, vc_Finder_lazy_26 _ _ _ _ _ _ ha ?_⟩
      rw [← ep, hA.2.2.1, wx, wk (), wp, eN, show w32 0 = 0 by decide]
      refine cNo (by omega) (cNo (by omega) (cNN rfl (vc_Finder_lazy_62 _ _ _ _ _ _ _ ha ?_)))
      exact cNN (by decide) ⟨A2, b3, NN x n0 (p + 1), A3, i3, g3⟩
theorem md_lazyL {n0 d0 : Int → Int} {P : Nat → Int} {K : Nat} (hx : 0 ≤ x ∧ x ≤ 6000) (hL : ∀ p : Int, 0 ≤ p → p < x → LM t p (min 258 (x - p)) (n0 p) (d0 p)) (hM : ∀ p : Int, 0 ≤ p → p < x → ∀ B : ms, TXm B x t → ∃ B', EX XLo B B' ∧ B'.1 367 26 = n0 p ∧ B'.1 367 27 = d0 p ∧ LF t p (n0 p) (B'.1 379) ∧ EV q 293 0 [some (.ref 367), some (.ref 368), some (vI x), some (vI p), some (vI 258), some (vI 32768), none, none, none, none, none] [] B none B') (hP : GP x (lzS x n0) (lzG x n0 d0) P K) : ∀ (v k : Nat) (B : ms), k + v = K → TXm B x t → MTk B (tkF (lzS x n0) (lzG x n0 d0) P) k → ∃ B', EX XPt B B' ∧ MTk B' (tkF (lzS x n0) (lzG x n0 d0) P) K ∧ EV q 292 2 [some (.ref 367), some (vI (P k)), none, none] [] B none B' := by
  have rg := lz_rg hL
  have le := GP_le hP (fun p p0 p1 => (rg p p0 p1).1)
  have lx := hx.2
  have wx : w32 x = x := w32_of (by omega)
  intro v
  induction v with
  | zero =>
    intro k B hk hB hT
    have e : k = K := by omega
    subst e
    refine ⟨B, EX.refl _ B, hT, vc_MD_parseLazy_2 _ ?_⟩
    rw [hB.1, hP.2.1]
    exact cY (Int.le_refl _) ⟨rfl, rfl⟩
  | succ v ih =>
    intro k B hk hB hT
    have hp := hP.2.2 k (by omega)
    have lk := (le k (by omega)).1
    obtain ⟨p, ep⟩ : ∃ p, p = P k := ⟨_, rfl⟩
    rw [← ep] at hp lk
    have ek : tkF (lzS x n0) (lzG x n0 d0) P k = (lzS x n0 p, lzG x n0 d0 p, p) := by unfold tkF; rw [show ((k : Int)).toNat = k by omega, ← ep]
    have wp : w32 p = p := w32_of (by omega)
    have wp1 : w32 (p + 1) = p + 1 := w32_of (by omega)
    have hl1 := (hL p hp.1.1 hp.1.2).1
    have wn : w32 (n0 p) = n0 p := w32_of (by omega)
    obtain ⟨B1, b1, b2, b3, -, b4⟩ := hM p hp.1.1 hp.1.2 B hB
    have hB1 := TXm_lo hB b1
    -- the end of a round
    have nx : ∀ (B2 : ms) (y : Int), EX XLo B B2 → ((3 ≤ y ∧ y = n0 p ∧ lzC x n0 p) ∨ (y < 3 ∧ -10 ≤ y ∧ ¬ lzC x n0 p)) → ∃ B', EX XPt B B' ∧ MTk B' (tkF (lzS x n0) (lzG x n0 d0) P) K ∧ EV q 292 87 [some (.ref 367), some (vI p), some (vI y), some (vI (d0 p))] [] B2 none B' := fun B2 y e1 hy => by
      obtain ⟨B3, c1, c2, c3⟩ := md_token (q := q) (n := k) (by omega) ek (MTk_lo hT e1)
      obtain ⟨B', g1, g2, g4⟩ := ih (k + 1) B3 (by omega) (TXm_tk (TXm_lo hB e1) c1) (by rw [show ((k + 1 : Nat) : Int) = (k : Int) + 1 by omega]; exact c2)
      rw [hp.2] at g4
      refine ⟨B', ((EX.mono e1 (fun a k y => Or.inr y) : EX XPt B B2).trans (EX.mono c1 (fun a k y => Or.inl y))).trans g1, g2, vc_MD_parseLazy_87 _ _ _ ?_⟩
      rcases hy with ⟨y1, y2, y3⟩ | ⟨y1, y2, y3⟩
      · have es : lzS x n0 p = n0 p := by unfold lzS; rw [if_pos y3]
        have eg : lzG x n0 d0 p = d0 p := by unfold lzG; rw [if_pos y3]
        rw [es, eg] at c3
        rw [es] at g4
        rw [y2] at y1 ⊢
        rw [wn]
        exact cY y1 ⟨B3, c3, vc_MD_parseLazy_116 _ _ _ g4⟩
      · have es : lzS x n0 p = 1 := by unfold lzS; rw [if_neg y3]
        have eg : lzG x n0 d0 p = 0 := by unfold lzG; rw [if_neg y3]
        rw [es, eg] at c3
        rw [es] at g4
        rw [w32_of (x := y) (by omega)]
        exact cNo (by omega) ⟨B3, c3, vc_MD_parseLazy_116 _ _ _ g4⟩
    by_cases c3 : n0 p < 3
    · obtain ⟨B', g1, g2, g3⟩ := nx B1 (n0 p) b1 (Or.inr ⟨c3, by omega, fun y => by have := y.1; omega⟩)
      refine ⟨B', g1, g2, vc_MD_parseLazy_2 _ ?_⟩
      rw [hB.1, wx, ← ep, wp]
      refine cNo (by omega) ⟨B1, b4, ?_⟩
      rw [b2, b3, wn]
      exact cY c3 g3
    by_cases c1 : x ≤ p + 1
    · obtain ⟨B', g1, g2, g3⟩ := nx B1 (n0 p) b1 (Or.inl ⟨by omega, rfl, by omega, fun y => by omega⟩)
      refine ⟨B', g1, g2, vc_MD_parseLazy_2 _ ?_⟩
      rw [hB.1, wx, ← ep, wp]
      refine cNo (by omega) ⟨B1, b4, ?_⟩
      rw [b2, b3, wn, hB1.1, wx, wp1]
      exact cNo c3 (cY c1 g3)
    obtain ⟨B2, d1, d2, -, -, d4⟩ := hM (p + 1) (by omega) (by omega) B1 hB1
    have hl2 := (hL (p + 1) (by omega) (by omega)).1
    by_cases c2 : n0 (p + 1) ≤ n0 p
    · obtain ⟨B', g1, g2, g3⟩ := nx B2 (n0 p) (b1.trans d1) (Or.inl ⟨by omega, rfl, by omega, fun y => by omega⟩)
      refine ⟨B', g1, g2, vc_MD_parseLazy_2 _ ?_⟩
      rw [hB.1, wx, ← ep, wp]
      refine cNo (by omega) ⟨B1, b4, ?_⟩
      rw [b2, b3, wn, hB1.1, wx, wp1]
      refine cNo c3 (cNo c1 ⟨B2, d4, ?_⟩)
      rw [d2, w32_of (x := n0 (p + 1)) (by omega)]
      exact cY c2 (vc_MD_parseLazy_86 _ _ _ _ g3)
    · obtain ⟨B', g1, g2, g3⟩ := nx B2 0 (b1.trans d1) (Or.inr ⟨by decide, by decide, fun y => y.2 ⟨by omega, by omega⟩⟩)
      refine ⟨B', g1, g2, vc_MD_parseLazy_2 _ ?_⟩
      rw [hB.1, wx, ← ep, wp]
      refine cNo (by omega) ⟨B1, b4, ?_⟩
      rw [b2, b3, wn, hB1.1, wx, wp1]
      refine cNo c3 (cNo c1 ⟨B2, d4, ?_⟩)
      rw [d2, w32_of (x := n0 (p + 1)) (by omega)]
      exact cNo c2 (vc_MD_parseLazy_86 _ _ _ _ g3)
end PParse
