/-! pack: tokens; greedy -/
section PGreedy
variable {q : Nat × (Nat → Int32)} {x : Int} {t : Int → Int}
def CTk (A : ms) (T : Int → Int × Int × Int) (n : Int) : Prop := A.1 10 8 = n ∧ ∀ k : Int, 0 ≤ k → k < n → A.1 13 k = (T k).1 ∧ A.1 14 k = (T k).2.1 ∧ A.1 15 k = (T k).2.2
def MTk (B : ms) (T : Int → Int × Int × Int) (n : Int) : Prop := B.1 367 29 = n ∧ ∀ k : Int, 0 ≤ k → k < n → B.1 380 k = (T k).1 ∧ B.1 381 k = (T k).2.1 ∧ B.1 382 k = (T k).2.2
def XTc (a : Nat) (k : Int) : Prop := (a = 10 ∧ k = 8) ∨ a = 13 ∨ a = 14 ∨ a = 15
def XTm (a : Nat) (k : Int) : Prop := (a = 367 ∧ k = 29) ∨ a = 380 ∨ a = 381 ∨ a = 382
theorem CTk_e {A A' : ms} {T : Int → Int × Int × Int} {n : Int} (h : CTk A T n) (e : ∀ (a : Nat) (k : Int), XTc a k → A'.1 a k = A.1 a k) : CTk A' T n := ⟨by rw [e 10 8 (by unfold XTc; omega)]; exact h.1, fun k k0 k1 => by rw [e 13 k (by unfold XTc; omega), e 14 k (by unfold XTc; omega), e 15 k (by unfold XTc; omega)]; exact h.2 k k0 k1⟩
theorem MTk_e {B B' : ms} {T : Int → Int × Int × Int} {n : Int} (h : MTk B T n) (e : ∀ (a : Nat) (k : Int), XTm a k → B'.1 a k = B.1 a k) : MTk B' T n := ⟨by rw [e 367 29 (by unfold XTm; omega)]; exact h.1, fun k k0 k1 => by rw [e 380 k (by unfold XTm; omega), e 381 k (by unfold XTm; omega), e 382 k (by unfold XTm; omega)]; exact h.2 k k0 k1⟩
theorem cl_token {A : ms} {T : Int → Int × Int × Int} {n l d p : Int} (hn : 0 ≤ n ∧ n < 6000) (hT : T n = (l, d, p)) (h : CTk A T n) : ∃ A', EX XTc A A' ∧ CTk A' T (n + 1) ∧ EV q 63 0 [some (.ref 10), some (vI p), some (vI l), some (vI d)] [] A none A' := by
  have wn : w32 n = n := w32_of (by omega)
  refine ⟨wI (wI (wI (wI A 13 n l) 14 n d) 15 n p) 10 8 (n + 1), ((((EX.refl _ A).wr (by unfold XTc; omega)).wr (by unfold XTc; omega)).wr (by unfold XTc; omega)).wr (by unfold XTc; omega), ⟨by rw [wI_at], fun k k0 k1 => ?_⟩, vc_Finder_addToken _ _ _ ?_⟩
  · rw [wI_no _ (by omega), wI_no _ (by omega), wI_no _ (by omega)]
    by_cases e : k = n
    · subst e
      rw [wI_at, hT, wI_no _ (by omega), wI_no _ (by omega), wI_at, wI_no _ (by omega), wI_at]
      exact ⟨rfl, rfl, rfl⟩
    · rw [wI_no _ (by omega), wI_no _ (by omega), wI_no _ (by omega), wI_no _ (by omega), wI_no _ (by omega), wI_no _ (by omega), wI_no _ (by omega), wI_no _ (by omega), wI_no _ (by omega)]
      exact h.2 k k0 (by omega)
  · rw [h.1, wn]
    refine cNo (by omega) ⟨by omega, fun S2 f2 => ?_⟩
    have e2 : S2.1 10 8 = n := by rw [f2, wI_no _ (by omega), h.1]
    rw [e2, wn]
    refine ⟨by omega, fun S4 f4 => ?_⟩
    have e4 : S4.1 10 8 = n := by rw [f4, wI_no _ (by omega), e2]
    rw [e4, wn]
    refine ⟨by omega, fun S6 f6 S7 f7 => ?_⟩
    have e6 : S6.1 10 8 = n := by rw [f6, wI_no _ (by omega), e4]
    rw [e6] at f7
    exact ⟨rfl, by rw [f7, f6, f4, f2]⟩
theorem md_token {B : ms} {T : Int → Int × Int × Int} {n l d p : Int} (hn : 0 ≤ n ∧ n < 6000) (hT : T n = (l, d, p)) (h : MTk B T n) : ∃ B', EX XTm B B' ∧ MTk B' T (n + 1) ∧ EV q 294 0 [some (.ref 367), some (vI l), some (vI d), some (vI p)] [] B none B' := by
  have wn : w32 n = n := w32_of (by omega)
  refine ⟨wI (wI (wI (wI B 380 n l) 381 n d) 382 n p) 367 29 (n + 1), ((((EX.refl _ B).wr (by unfold XTm; omega)).wr (by unfold XTm; omega)).wr (by unfold XTm; omega)).wr (by unfold XTm; omega), ⟨by rw [wI_at], fun k k0 k1 => ?_⟩, vc_MD_mark _ _ _ ?_⟩
  · rw [wI_no _ (by omega), wI_no _ (by omega), wI_no _ (by omega)]
    by_cases e : k = n
    · subst e
      rw [wI_at, hT, wI_no _ (by omega), wI_no _ (by omega), wI_at, wI_no _ (by omega), wI_at]
      exact ⟨rfl, rfl, rfl⟩
    · rw [wI_no _ (by omega), wI_no _ (by omega), wI_no _ (by omega), wI_no _ (by omega), wI_no _ (by omega), wI_no _ (by omega), wI_no _ (by omega), wI_no _ (by omega), wI_no _ (by omega)]
      exact h.2 k k0 (by omega)
  · rw [h.1, wn]
    refine ⟨by omega, fun S2 f2 => ?_⟩
    have e2 : S2.1 367 29 = n := by rw [f2, wI_no _ (by omega), h.1]
    rw [e2, wn]
    refine ⟨by omega, fun S4 f4 => ?_⟩
    have e4 : S4.1 367 29 = n := by rw [f4, wI_no _ (by omega), e2]
    rw [e4, wn]
    refine ⟨by omega, fun S6 f6 S7 f7 => ?_⟩
    have e6 : S6.1 367 29 = n := by rw [f6, wI_no _ (by omega), e4]
    rw [e6] at f7
    exact ⟨rfl, by rw [f7, f6, f4, f2]⟩
/-- a parse: places P 0 .. P K, at each a token of gs octets, gg before -/
def GP (x : Int) (gs gg : Int → Int) (P : Nat → Int) (K : Nat) : Prop := P 0 = 0 ∧ P K = x ∧ ∀ k : Nat, k < K → (0 ≤ P k ∧ P k < x) ∧ P (k + 1) = P k + gs (P k)
def tkF (gs gg : Int → Int) (P : Nat → Int) (k : Int) : Int × Int × Int := (gs (P k.toNat), gg (P k.toNat), P k.toNat)
theorem GP_ex (gs gg : Int → Int) (hx : 0 ≤ x) (hs : ∀ p : Int, 0 ≤ p → p < x → 1 ≤ gs p ∧ p + gs p ≤ x) : ∃ P K, GP x gs gg P K := by
  have lp : ∀ (v : Nat) (p : Int), x - p ≤ v → 0 ≤ p → p ≤ x → ∃ (P : Nat → Int) (K : Nat), P 0 = p ∧ P K = x ∧ ∀ k : Nat, k < K → (0 ≤ P k ∧ P k < x) ∧ P (k + 1) = P k + gs (P k) := by
    intro v
    induction v with
    | zero =>
      intro p hv p0 p1
      exact ⟨fun _ => p, 0, rfl, by show p = x; omega, fun k hk => absurd hk (by omega)⟩
    | succ v ih =>
      intro p hv p0 p1
      by_cases c : p = x
      · exact ⟨fun _ => p, 0, rfl, c, fun k hk => absurd hk (by omega)⟩
      have h := hs p p0 (by omega)
      obtain ⟨P, K, i1, i2, i3⟩ := ih (p + gs p) (by omega) (by omega) (by omega)
      refine ⟨fun k => match k with | 0 => p | k + 1 => P k, K + 1, rfl, i2, fun k hk => ?_⟩
      cases k with
      | zero => exact ⟨⟨p0, by show p < x; omega⟩, i1⟩
      | succ k => exact i3 k (by omega)
  exact lp x.toNat 0 (by omega) (by omega) hx
theorem GP_le {gs gg : Int → Int} {P : Nat → Int} {K : Nat} (h : GP x gs gg P K) (hs : ∀ p : Int, 0 ≤ p → p < x → 1 ≤ gs p ∧ p + gs p ≤ x) : ∀ k : Nat, k ≤ K → (k : Int) ≤ P k ∧ P k ≤ x
  | 0, _ => by
    have := h.1
    by_cases c : 0 < K
    · have := (h.2.2 0 c).1; omega
    · have e : K = 0 := by omega
      have := h.2.1
      rw [e] at this
      omega
  | k + 1, hk => by
    have i := GP_le h hs k (by omega)
    have j := h.2.2 k (by omega)
    have l := hs (P k) j.1.1 j.1.2
    omega
/-- where a token has to end -/
def fcF (cut x p : Int) : Int := if cut = 1 then min x ((p / 2000 + 1) * 2000) else if cut = 2 then (if p ≤ x - 12 then x - 5 else p) else x
def grN (least cut x : Int) (n0 : Int → Int) (p : Int) : Int := min (if least ≤ n0 p then n0 p else 0) (fcF cut x p - p)
def grS (least cut x : Int) (n0 : Int → Int) (p : Int) : Int := if least ≤ grN least cut x n0 p then grN least cut x n0 p else 1
def grG (least cut x : Int) (n0 d0 : Int → Int) (p : Int) : Int := if least ≤ grN least cut x n0 p then d0 p else 0
theorem cl_furth {A : ms} {p cut : Int} (hx : 0 ≤ x ∧ x ≤ 6000) (hp : 0 ≤ p ∧ p < x) (hc : 0 ≤ cut ∧ cut ≤ 2) (h : A.1 10 3 = x) : EV q 62 0 [some (.ref 10), some (vI p), some (vI cut)] [] A (some (vI (fcF cut x p))) A := by
  refine vc_Finder_furthest _ _ ?_
  have wp : w32 p = p := w32_of (by omega)
  rw [h, w32_of (x := x) (by omega), wp, w32_of (x := cut) (by omega), w32_of (x := x - 12) (by omega), show w32 2000 = 2000 by decide, Int.tdiv_eq_ediv_of_nonneg hp.1, w32_of (x := (p / 2000 + 1) * 2000) (by omega)]
  unfold fcF
  refine ⟨fun c => ⟨by rw [if_pos c], rfl⟩, fun c => ⟨fun d => ⟨by rw [if_neg (by omega), if_pos c, if_pos d], rfl⟩, fun d => ⟨by rw [if_neg (by omega), if_pos c, if_neg d], rfl⟩⟩, fun c d => ⟨by rw [if_neg c, if_neg d], rfl⟩⟩
theorem gr_rg {least most cut : Int} {n0 d0 : Int → Int} (hx : 0 ≤ x ∧ x ≤ 6000) (hl : 3 ≤ least ∧ least ≤ 100) (hL : ∀ p : Int, 0 ≤ p → p < x → LM t p (min most (x - p)) (n0 p) (d0 p)) : ∀ p : Int, 0 ≤ p → p < x → (1 ≤ grS least cut x n0 p ∧ p + grS least cut x n0 p ≤ x) ∧ (grN least cut x n0 p ≤ n0 p ∧ 0 ≤ grG least cut x n0 d0 p ∧ grG least cut x n0 d0 p ≤ p) ∧ (least ≤ grN least cut x n0 p → least ≤ n0 p ∧ 1 ≤ d0 p) := by
  intro p p0 p1
  have h := hL p p0 p1
  have h1 := h.1
  have hN : grN least cut x n0 p ≤ n0 p ∧ (least ≤ grN least cut x n0 p → least ≤ n0 p) := by
    unfold grN
    by_cases c : least ≤ n0 p
    · rw [if_pos c]; omega
    · rw [if_neg c]; omega
  have h3 : least ≤ grN least cut x n0 p → least ≤ n0 p ∧ (1 ≤ d0 p ∧ d0 p ≤ p) := fun y => ⟨hN.2 y, (h.2.2.1 (by have := hN.2 y; omega)).1⟩
  refine ⟨?_, ⟨hN.1, ?_⟩, fun y => ⟨(h3 y).1, (h3 y).2.1⟩⟩
  · unfold grS
    by_cases c : least ≤ grN least cut x n0 p
    · rw [if_pos c]; omega
    · rw [if_neg c]; omega
  · unfold grG
    by_cases c : least ≤ grN least cut x n0 p
    · rw [if_pos c]; have := (h3 c).2; omega
    · rw [if_neg c]; omega
theorem cl_greedy {least most cut : Int} {n0 d0 : Int → Int} {P : Nat → Int} {K c N a1 na : Nat} (ha : isRow a1 na) (hx : 0 ≤ x ∧ x ≤ 6000) (hl : 3 ≤ least ∧ least ≤ 100) (hm : 1 ≤ most ∧ most ≤ 6000) (hc : 0 ≤ cut ∧ cut ≤ 2) (hL : ∀ p : Int, 0 ≤ p → p < x → LM t p (min most (x - p)) (n0 p) (d0 p)) (hP : GP x (grS least cut x n0) (grG least cut x n0 d0) P K) : ∀ (v k : Nat) (A : ms), k + v = K → FD A c N x t → CTk A (tkF (grS least cut x n0) (grG least cut x n0 d0) P) k → ∃ A', EX (fun a k => XTc a k ∨ X4 a k) A A' ∧ FD A' c N x t ∧ CTk A' (tkF (grS least cut x n0) (grG least cut x n0 d0) P) K ∧ EV q 58 11 [some (.ref 10), some (.ref a1), some (vI least), some (vI most), some (vI cut), some (vI (P k)), some (vI k), none] [] A none A' := by
  have rg := gr_rg (cut := cut) hx hl hL
  have le := GP_le hP (fun p p0 p1 => (rg p p0 p1).1)
  have wx : w32 x = x := w32_of (by omega)
  have wl : w32 least = least := w32_of (by omega)
  intro v
  induction v with
  | zero =>
    intro k A hk hA hT
    have e : k = K := by omega
    subst e
    refine ⟨A, EX.refl _ A, hA, hT, vc_Finder_greedy_11 _ _ _ _ _ _ _ ha ?_⟩
    rw [hA.2.2.1, hP.2.1]
    exact ⟨fun _ => ⟨rfl, rfl⟩, fun _ => cY (Int.le_refl _) ⟨rfl, rfl⟩⟩
  | succ v ih =>
    intro k A hk hA hT
    obtain ⟨⟨p0, p1⟩, p2⟩ := hP.2.2 k (by omega)
    have lk := (le k (by omega)).1
    have lx := hx.2
    obtain ⟨p, ep⟩ : ∃ p, p = P k := ⟨_, rfl⟩
    rw [← ep] at p0 p1 p2 lk
    have hTk : tkF (grS least cut x n0) (grG least cut x n0 d0) P k = (grS least cut x n0 p, grG least cut x n0 d0 p, p) := by
      unfold tkF
      rw [show ((k : Int)).toNat = k by omega, ← ep]
    obtain ⟨z, ez⟩ : ∃ z, z = if least ≤ n0 p then n0 p else 0 := ⟨_, rfl⟩
    obtain ⟨A1, a1', a2, a3⟩ := cl_long (q := q) hx ⟨p0, p1⟩ hl hm (hL p p0 p1) hA
    rw [← ez] at a3
    have n1 := (hL p p0 p1).1
    have ntop : n0 p ≤ x := by omega
    have hA1 : FD A1 c N x t := FD_x hA a1' (fun a k y => by have := hA.1.2.2; unfold X4 at y; omega)
    have hT1 : CTk A1 (tkF (grS least cut x n0) (grG least cut x n0 d0) P) k := CTk_e hT (fun a k y => a1'.2 a k (by unfold X4; unfold XTc at y; omega))
    have kf := cl_furth (q := q) (A := A1) hx ⟨p0, p1⟩ hc hA1.2.2.1
    have r := rg p p0 p1
    obtain ⟨m, em⟩ : ∃ m, m = grN least cut x n0 p := ⟨_, rfl⟩
    have hz : w32 z = z := w32_of (by rw [ez]; split <;> omega)
    have hf : w32 (fcF cut x p - p) = fcF cut x p - p := w32_of (by unfold fcF; split <;> (try split) <;> omega)
    have emm : min z (fcF cut x p - p) = m := by rw [em, ez]; rfl
    have mr : m ≤ x ∧ -1 ≤ m := by
      have : -1 ≤ fcF cut x p - p := by unfold fcF; split <;> (try split) <;> omega
      rw [← emm]
      have : 0 ≤ z := by rw [ez]; split <;> omega
      have : z ≤ x := by rw [ez]; split <;> omega
      omega
    have wm : w32 m = m := w32_of (by omega)
    have wk : Unit → w32 ((k : Nat) : Int) = k := fun _ => w32_of (by omega)
    have wp : w32 p = p := w32_of (by omega)
    have nx : ∀ (A2 : ms), EX (fun a k => XTc a k ∨ X4 a k) A A2 → FD A2 c N x t → CTk A2 (tkF (grS least cut x n0) (grG least cut x n0 d0) P) ((k : Int) + 1) → ∃ A', EX (fun a k => XTc a k ∨ X4 a k) A A' ∧ FD A' c N x t ∧ CTk A' (tkF (grS least cut x n0) (grG least cut x n0 d0) P) K ∧ ∀ x7 : Int, EV q 58 92 [some (.ref 10), some (.ref a1), some (vI least), some (vI most), some (vI cut), some (vI (p + grS least cut x n0 p)), some (vI k), some (vI x7)] [] A2 none A' := fun A2 y1 y2 y3 => by
      obtain ⟨A', g1, g2, g3, g4⟩ := ih (k + 1) A2 (by omega) y2 (by rw [show ((k + 1 : Nat) : Int) = (k : Int) + 1 by omega]; exact y3)
      rw [p2, show ((k + 1 : Nat) : Int) = (k : Int) + 1 by omega] at g4
      exact ⟨A', y1.trans g1, g2, g3, fun x7 => vc_Finder_greedy_92 _ _ _ _ _ _ _ _ ha g4⟩
    have xa : EX (fun a k => XTc a k ∨ X4 a k) A A1 := EX.mono a1' (fun a k y => Or.inr y)
    obtain ⟨A2, b1, b2, b3⟩ := cl_token (q := q) (n := k) (by omega) hTk hT1
    have hA2 : FD A2 c N x t := FD_x hA1 b1 (fun a k y => by have := hA.1.2.2; unfold XTc at y; omega)
    obtain ⟨A', g1, g2, g3, g4⟩ := nx A2 (xa.trans (EX.mono b1 (fun a k y => Or.inl y))) hA2 b2
    refine ⟨A', g1, g2, g3, vc_Finder_greedy_11 _ _ _ _ _ _ _ ha ?_⟩
    rw [← ep, hA.2.2.1, wx, wk (), wp]
    refine cNo (by omega) (cNo (by omega) ⟨z, A1, a3, fcF cut x p, A1, kf, ?_⟩)
    rw [hz, hf, emm, wm, wl]
    by_cases cm : least ≤ m
    · have es : grS least cut x n0 p = m := by unfold grS; rw [← em, if_pos cm]
      have eg : grG least cut x n0 d0 p = d0 p := by unfold grG; rw [← em, if_pos cm]
      rw [es, eg] at b3
      rw [es] at g4
      rw [a2 (by have := r.2.1.1; omega)]
      exact cY cm ⟨A2, b3, g4 _⟩
    · have es : grS least cut x n0 p = 1 := by unfold grS; rw [← em, if_neg cm]
      have eg : grG least cut x n0 d0 p = 0 := by unfold grG; rw [← em, if_neg cm]
      rw [es, eg] at b3
      rw [es] at g4
      exact cNo cm ⟨A2, b3, g4 _⟩
end PGreedy
