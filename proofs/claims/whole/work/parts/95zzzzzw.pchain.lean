/-! pack: the longest match; the class goes along its chains -/
section PChain
variable {q : Nat × (Nat → Int32)} {x : Int} {t : Int → Int}
def h3 (t : Int → Int) (p : Int) : Int := ((t p * 33 + t (p + 1)) * 33 + t (p + 2)) % 8192
theorem h3_rg (p : Int) : 0 ≤ h3 t p ∧ h3 t p < 8192 := by unfold h3; omega
theorem Mt_h3 {p d : Int} (h : Mt t p d 3) : h3 t (p - d) = h3 t p := by
  have a := h 0 (by omega) (by omega)
  have b := h 1 (by omega) (by omega)
  have c := h 2 (by omega) (by omega)
  rw [show p + 0 - d = p - d by omega, show p + 0 = p by omega] at a
  rw [show p + 1 - d = p - d + 1 by omega] at b
  rw [show p + 2 - d = p - d + 2 by omega] at c
  unfold h3
  rw [a, b, c]
/-- each place is chained to the one before it that may be alike -/
def HK (A : ms) (x : Int) (t : Int → Int) (n : Int) : Prop := ∀ p : Int, 0 ≤ p → p < n → (A.1 12 p = -1 ∨ (0 ≤ A.1 12 p ∧ A.1 12 p < p ∧ h3 t (A.1 12 p) = h3 t p)) ∧ (p + 3 ≤ x → ∀ c : Int, A.1 12 p < c → c < p → 0 ≤ c → h3 t c ≠ h3 t p)
/-- the finder stands over a text -/
def FD (A : ms) (c N : Nat) (x : Int) (t : Int → Int) : Prop := (SH c = (0, N, []) ∧ x ≤ N ∧ (c = 2 ∨ 193 ≤ c)) ∧ A.2.2 10 2 = c ∧ A.1 10 3 = x ∧ (∀ k : Int, 0 ≤ k → k < x → (0 ≤ t k ∧ t k < 256) ∧ A.1 c k = t k) ∧ HK A x t x
def XFu (a : Nat) (k : Int) : Prop := (a = 10 ∧ (k = 3 ∨ k = 8)) ∨ a = 11 ∨ a = 12
theorem cl_chain {A : ms} {a1 N : Nat} (ha : isRow a1 N) (ha3 : a1 = 1 ∨ 193 ≤ a1) (hN : x ≤ N ∧ N < 1000000) (hx : 0 ≤ x ∧ x ≤ 6000) (e1 : A.1 a1 1 = x) (hT : ∀ k : Int, 0 ≤ k → k < x → (0 ≤ t k ∧ t k < 256) ∧ A.1 (a1 + 1) k = t k) : ∃ A', EV q 59 0 [some (.ref 10), some (.ref a1), none, none] [] A none A' ∧ EX XFu (wR A 10 2 (a1 + 1)) A' ∧ A'.1 10 8 = 0 ∧ FD A' (a1 + 1) N x t := by
  have wx : w32 x = x := w32_of (by omega)
  obtain ⟨V0, eV0⟩ : ∃ V0, V0 = wC (wI (wI (wR A 10 2 (a1 + 1)) 10 3 x) 10 8 0) 11 0 8192 (fun _ => -1) := ⟨_, rfl⟩
  have x0 : EX XFu (wR A 10 2 (a1 + 1)) V0 := by
    rw [eV0]
    have y : EX XFu (wR A 10 2 (a1 + 1)) (wI (wI (wR A 10 2 (a1 + 1)) 10 3 x) 10 8 0) := ((EX.refl _ _).wr (by unfold XFu; omega)).wr (by unfold XFu; omega)
    exact y.trans ⟨rfl, fun a k n => wC_ne _ _ _ _ (fun z => n (Or.inr (Or.inl z)))⟩
  have e3 : ∀ U : ms, EX (fun a _ => a = 11 ∨ a = 12) V0 U → U.1 10 3 = x ∧ U.1 10 8 = 0 ∧ U.2.2 10 2 = a1 + 1 ∧ ∀ k : Int, 0 ≤ k → k < x → U.1 (a1 + 1) k = t k := fun U hU => by
    refine ⟨?_, ?_, ?_, fun k k0 k1 => ?_⟩
    · rw [hU.2 10 3 (by omega), eV0, wC_ne _ _ _ _ (by omega), wI_no _ (by omega), wI_at]
    · rw [hU.2 10 8 (by omega), eV0, wC_ne _ _ _ _ (by omega), wI_at]
    · rw [hU.1, eV0]
      show (if 10 = 10 ∧ (2 : Int) = 2 then a1 + 1 else A.2.2 10 2) = a1 + 1
      rw [if_pos ⟨rfl, rfl⟩]
    · rw [hU.2 _ _ (by omega), eV0, wC_ne _ _ _ _ (by omega), wI_no _ (by omega), wI_no _ (by omega)]
      exact (hT k k0 k1).2
  have lp : ∀ (v : Nat) (p : Int) (U : ms), p + v = x → 0 ≤ p → EX (fun a _ => a = 11 ∨ a = 12) V0 U → HK U x t p → (∀ h : Int, 0 ≤ h → h < 8192 → (U.1 11 h = -1 ∨ (0 ≤ U.1 11 h ∧ U.1 11 h < p ∧ h3 t (U.1 11 h) = h)) ∧ ∀ c : Int, U.1 11 h < c → 0 ≤ c → c < p → c + 3 ≤ x → h3 t c ≠ h) → ∃ U', EX (fun a _ => a = 11 ∨ a = 12) V0 U' ∧ HK U' x t x ∧ EV q 59 37 [some (.ref 10), some (.ref a1), some (vI p), none] [] U none U' := by
    intro v
    induction v with
    | zero =>
      intro p U hp p0 hU hK hH
      have e : p = x := by omega
      subst e
      refine ⟨U, hU, hK, vc_Finder_chainUp_37 _ a1 N ha ?_⟩
      rw [(e3 U hU).1]
      exact cY (Int.le_refl _) ⟨rfl, rfl⟩
    | succ v ih =>
      intro p U hp p0 hU hK hH
      have wp : w32 p = p := w32_of (by omega)
      obtain ⟨u3, u8, uc, ut⟩ := e3 U hU
      have U2 : EX (fun a _ => a = 11 ∨ a = 12) V0 (wI U 12 p (-1)) := hU.wr (Or.inr rfl)
      by_cases c3 : x < p + 3
      · obtain ⟨U', k1, k2, k3⟩ := ih (p + 1) (wI U 12 p (-1)) (by omega) (by omega) U2 (fun r r0 r1 => by
          by_cases e : r = p
          · subst e
            rw [wI_at]
            exact ⟨Or.inl rfl, fun y => absurd y (by omega)⟩
          · rw [wI_no _ (by omega)]
            exact hK r r0 (by omega)) (fun h h0 h1 => by
          rw [wI_no _ (by omega)]
          refine ⟨(hH h h0 h1).1.imp id (fun y => ⟨y.1, by omega, y.2.2⟩), fun c c1 c2 c4 c5 => (hH h h0 h1).2 c c1 c2 (by omega) c5⟩)
        refine ⟨U', k1, k2, vc_Finder_chainUp_37 _ a1 N ha ?_⟩
        rw [u3, wx, wp]
        refine cNo (by omega) ⟨by omega, fun S2 f2 => ?_⟩
        rw [f2, (e3 _ U2).1, wx, w32_of (x := p + 3) (by omega)]
        exact cY c3 (vc_Finder_chainUp_116 _ a1 N ha k3)
      · obtain ⟨h, eh⟩ : ∃ h, h = h3 t p := ⟨_, rfl⟩
        have hr := h3_rg (t := t) p
        rw [← eh] at hr
        have wh : w32 h = h := w32_of (by omega)
        obtain ⟨W, eW⟩ : ∃ W, W = wI (wI (wI U 12 p (-1)) 12 p (U.1 11 h)) 11 h p := ⟨_, rfl⟩
        have hW : EX (fun a _ => a = 11 ∨ a = 12) V0 W := by rw [eW]; exact (U2.wr (Or.inr rfl)).wr (Or.inl rfl)
        have w12 : ∀ r : Int, W.1 12 r = if r = p then U.1 11 h else U.1 12 r := fun r => by
          rw [eW, wI_no _ (by omega)]
          by_cases e : r = p
          · rw [e, wI_at, if_pos rfl]
          · rw [if_neg e, wI_no _ (by omega), wI_no _ (by omega)]
        have w11 : ∀ r : Int, W.1 11 r = if r = h then p else U.1 11 r := fun r => by
          rw [eW]
          by_cases e : r = h
          · rw [e, wI_at, if_pos rfl]
          · rw [if_neg e, wI_no _ (by omega), wI_no _ (by omega), wI_no _ (by omega)]
        obtain ⟨U', k1, k2, k3⟩ := ih (p + 1) W (by omega) (by omega) hW (fun r r0 r1 => by
          rw [w12]
          by_cases e : r = p
          · subst e
            rw [if_pos rfl, ← eh]
            exact ⟨(hH h hr.1 hr.2).1, fun _ c c1 c2 c4 => (hH h hr.1 hr.2).2 c c1 c4 c2 (by omega)⟩
          · rw [if_neg e]
            exact hK r r0 (by omega)) (fun g g0 g1 => by
          rw [w11]
          by_cases e : g = h
          · rw [if_pos e]
            exact ⟨Or.inr ⟨p0, by omega, by rw [e, eh]⟩, fun c c1 c2 c4 => absurd c4 (by omega)⟩
          · rw [if_neg e]
            refine ⟨(hH g g0 g1).1.imp id (fun y => ⟨y.1, by omega, y.2.2⟩), fun c c1 c2 c4 c5 => ?_⟩
            by_cases ec : c = p
            · rw [ec, ← eh]; exact fun y => e y.symm
            · exact (hH g g0 g1).2 c c1 c2 (by omega) c5)
        refine ⟨U', k1, k2, vc_Finder_chainUp_37 _ a1 N ha ?_⟩
        rw [u3, wx, wp]
        refine cNo (by omega) ⟨by omega, fun S2 f2 => ?_⟩
        obtain ⟨s3, s8, sc, st⟩ := e3 _ U2
        rw [← f2] at s3 s8 sc st
        have s11 : S2.1 11 h = U.1 11 h := by rw [f2, wI_no _ (by omega)]
        rw [s3, wx, w32_of (x := p + 3) (by omega), w32_of (x := p + 1) (by omega), w32_of (x := p + 2) (by omega)]
        have hN' := hN.1
        have hh : ((S2.1 (a1 + 1) p * 33 + S2.1 (a1 + 1) (p + 1)) * 33 + S2.1 (a1 + 1) (p + 2)) % 8192 = h := by
          rw [st p p0 (by omega), st (p + 1) (by omega) (by omega), st (p + 2) (by omega) (by omega), eh]
          rfl
        refine cNo c3 ⟨a1 + 1, N, sc, ha.2, by omega, a1 + 1, N, sc, ha.2, by omega, a1 + 1, N, sc, ha.2, by omega, ?_⟩
        rw [hh, wh, s11]
        refine ⟨by omega, by omega, fun S17 f17 => ⟨by omega, fun S19 f19 => ?_⟩⟩
        have e19 : S19 = W := by rw [f19, f17, f2, eW]
        rw [e19]
        exact vc_Finder_chainUp_116 _ a1 N ha k3
  obtain ⟨U', k1, k2, k3⟩ := lp x.toNat 0 V0 (by omega) (by omega) (EX.refl _ V0) (fun p p0 p1 => absurd p1 (by omega)) (fun h h0 h1 => by
    have e : V0.1 11 h = -1 := by rw [eV0]; exact wC_in _ (by omega) (by omega)
    exact ⟨Or.inl e, fun c c1 c2 c4 => absurd c4 (by omega)⟩)
  obtain ⟨u3, u8, uc, ut⟩ := e3 U' k1
  refine ⟨U', vc_Finder_chainUp a1 N ha (fun S1 f1 S2 f2 S3 f3 => ⟨V0, ?_, k3⟩), x0.trans (EX.mono k1 (fun a k y => by unfold XFu; omega)), u8, ⟨ha.2, hN.1, by omega⟩, uc, u3, fun k k0 k1' => ⟨(hT k k0 k1').1, ut k k0 k1'⟩, k2⟩
  have e11 : S1.1 a1 1 = x := by rw [f1]; exact e1
  rw [e11, wx, show min x (w32 6000) = x by rw [show w32 6000 = 6000 by decide]; omega] at f2
  have e3' : S3 = wI (wI (wR A 10 2 (a1 + 1)) 10 3 x) 10 8 0 := by rw [f3, f2, f1]
  rw [e3', eV0]
  exact sp_fillI (c := 11) (n1 := 8192) rfl (by decide) (-1)
theorem FD_x {X : Nat → Int → Prop} {A A' : ms} {c N : Nat} (h : FD A c N x t) (e : EX X A A') (hX : ∀ a k, X a k → ¬ (a = 10 ∧ k = 3) ∧ a ≠ c ∧ a ≠ 12) : FD A' c N x t := by
  obtain ⟨h1, h2, h3, h4, h5⟩ := h
  refine ⟨h1, by rw [e.1]; exact h2, by rw [e.2 _ _ (fun y => (hX _ _ y).1 ⟨rfl, rfl⟩)]; exact h3, fun k k0 k1 => ⟨(h4 k k0 k1).1, by rw [e.2 _ _ (fun y => (hX _ _ y).2.1 rfl)]; exact (h4 k k0 k1).2⟩, fun p p0 p1 => ?_⟩
  rw [e.2 12 p (fun y => (hX _ _ y).2.2 rfl)]
  exact h5 p p0 p1
/-- alike(from, to, limit) -/
theorem cl_alike {c N : Nat} {v p top : Int} (hx : 0 ≤ x ∧ x ≤ 6000) (hv : 0 ≤ v ∧ v < p) (hp : 0 ≤ top ∧ p + top ≤ x) : ∃ L : Int, (0 ≤ L ∧ L ≤ top) ∧ Mt t p (p - v) L ∧ (L < top → ¬ Mt t p (p - v) (L + 1)) ∧ ∀ A : ms, FD A c N x t → EV q 61 0 [some (.ref 10), some (vI v), some (vI p), some (vI top), none] [] A (some (vI L)) A := by
  have wtop : w32 top = top := w32_of (by omega)
  have lp : ∀ (d : Nat) (l : Int), l + d = top → 0 ≤ l → Mt t p (p - v) l → ∃ L : Int, (0 ≤ L ∧ L ≤ top) ∧ Mt t p (p - v) L ∧ (L < top → ¬ Mt t p (p - v) (L + 1)) ∧ ∀ A : ms, FD A c N x t → EV q 61 3 [some (.ref 10), some (vI v), some (vI p), some (vI top), some (vI l)] [] A (some (vI L)) A := by
    intro d
    induction d with
    | zero =>
      intro l hl l0 hM
      have e : l = top := by omega
      subst e
      exact ⟨l, ⟨l0, Int.le_refl _⟩, hM, fun y => absurd y (by omega), fun A hA => vc_Finder_alike_3 _ _ _ _ (cY (Int.le_refl _) ⟨rfl, rfl⟩)⟩
    | succ d ih =>
      intro l hl l0 hM
      have wl : w32 l = l := w32_of (by omega)
      have w1 : w32 (v + l) = v + l := w32_of (by omega)
      have w2 : w32 (p + l) = p + l := w32_of (by omega)
      have eq : ∀ A : ms, FD A c N x t → (w32 (A.1 c (v + l)) = w32 (A.1 c (p + l)) ↔ t (p + l) = t (p + l - (p - v))) := fun A hA => by
        have g1 := hA.2.2.2.1 (v + l) (by omega) (by omega)
        have g2 := hA.2.2.2.1 (p + l) (by omega) (by omega)
        rw [g1.2, g2.2, w32_of (x := t (v + l)) (by omega), w32_of (x := t (p + l)) (by omega), show p + l - (p - v) = v + l by omega]
        exact ⟨fun y => y.symm, fun y => y.symm⟩
      by_cases e : t (p + l) = t (p + l - (p - v))
      · obtain ⟨L, i1, i2, i3, i4⟩ := ih (l + 1) (by omega) (by omega) (Mt_s hM l0 e)
        refine ⟨L, i1, i2, i3, fun A hA => vc_Finder_alike_3 _ _ _ _ ?_⟩
        have hN := hA.1.2.1
        rw [wtop, wl, w1, w2]
        exact cNo (by omega) ⟨c, N, hA.2.1, hA.1.1, by omega, c, N, hA.2.1, hA.1.1, by omega, cNN ((eq A hA).2 e) (i4 A hA)⟩
      · refine ⟨l, ⟨l0, by omega⟩, hM, fun _ y => e (y l l0 (by omega)), fun A hA => vc_Finder_alike_3 _ _ _ _ ?_⟩
        have hN := hA.1.2.1
        rw [wtop, wl, w1, w2]
        exact cNo (by omega) ⟨c, N, hA.2.1, hA.1.1, by omega, c, N, hA.2.1, hA.1.1, by omega, cY (fun y => e ((eq A hA).1 y)) ⟨rfl, rfl⟩⟩
  obtain ⟨L, i1, i2, i3, i4⟩ := lp top.toNat 0 (by omega) (by omega) (fun j j0 j1 => absurd j1 (by omega))
  exact ⟨L, i1, i2, i3, fun A hA => vc_Finder_alike _ _ _ (i4 A hA)⟩
theorem cl_long0 {A : ms} {c N : Nat} {p least most : Int} (hx : 0 ≤ x ∧ x ≤ 6000) (hp : 0 ≤ p ∧ p ≤ x) (hl : 3 ≤ least ∧ least ≤ 100) (hm : 1 ≤ most ∧ most ≤ 6000) (ht : min most (x - p) < least) (hA : FD A c N x t) : EV q 60 0 [some (.ref 10), some (vI p), some (vI least), some (vI most), none, none, none, none, none] [] A (some (vI 0)) A := by
  refine vc_Finder_longest _ _ _ ?_
  rw [hA.2.2.1, w32_of (x := most) (by omega), w32_of (x := x - p) (by omega), w32_of (x := min most (x - p)) (by omega), w32_of (x := least) (by omega)]
  exact cNo (by omega) ⟨rfl, rfl⟩
theorem cl_long {A : ms} {c N : Nat} {p least most n d : Int} (hx : 0 ≤ x ∧ x ≤ 6000) (hp : 0 ≤ p ∧ p < x) (hl : 3 ≤ least ∧ least ≤ 100) (hm : 1 ≤ most ∧ most ≤ 6000) (hLM : LM t p (min most (x - p)) n d) (hA : FD A c N x t) : ∃ A', EX X4 A A' ∧ (least ≤ n → A'.1 10 4 = d) ∧ EV q 60 0 [some (.ref 10), some (vI p), some (vI least), some (vI most), none, none, none, none, none] [] A (some (vI (if least ≤ n then n else 0))) A' := by
  obtain ⟨top, etop⟩ : ∃ top, top = min most (x - p) := ⟨_, rfl⟩
  rw [← etop] at hLM
  by_cases c0 : top < least
  · have n1 := hLM.1
    rw [if_neg (by omega)]
    exact ⟨A, EX.refl _ A, fun y => absurd y (by omega), cl_long0 hx ⟨hp.1, by omega⟩ hl hm (by omega) hA⟩
  have wtop : w32 top = top := w32_of (by omega)
  have wp : w32 p = p := w32_of (by omega)
  have wl : w32 least = least := w32_of (by omega)
  have wx : w32 x = x := w32_of (by omega)
  have keep : ∀ U : ms, EX X4 A U → FD U c N x t := fun U e => FD_x hA e (fun a k y => by have := hA.1.2.2; unfold X4 at y; omega)
  have h12 : ∀ U : ms, EX X4 A U → ∀ k, U.1 12 k = A.1 12 k := fun U e k => e.2 12 k (by unfold X4; omega)
  have hk := hA.2.2.2.2
  have lp : ∀ (w : Nat) (v b cnt fd : Int) (U : ms), v + 2 ≤ w → EX X4 A U → (v = -1 ∨ (0 ≤ v ∧ v < p ∧ h3 t v = h3 t p)) → 0 ≤ cnt → cnt + v ≤ p - 1 → (least - 1 ≤ b ∧ b ≤ top) → (b < top → ∀ e : Int, v < e → e < p → 0 ≤ e → ¬ Mt t p (p - e) (b + 1)) → (least ≤ b → U.1 10 4 = fd ∧ (1 ≤ fd ∧ fd ≤ p) ∧ Mt t p fd b ∧ ∀ d', 1 ≤ d' → d' < fd → ¬ Mt t p d' b) → ∃ A', EX X4 A A' ∧ (least ≤ n → A'.1 10 4 = d) ∧ EV q 60 36 [some (.ref 10), some (vI p), some (vI least), some (vI most), some (vI top), some (vI b), some (vI v), some (vI cnt), none] [] U (some (vI (if least ≤ n then n else 0))) A' := by
    intro w
    induction w with
    | zero =>
      intro v b cnt fd U hw hU hv _ hc hb h1 h2
      rcases hv with y | y <;> omega
    | succ w ih =>
      intro v b cnt fd U hw hU hv cn hc hb h1 h2
      have wb : w32 b = b := w32_of (by omega)
      have wv : w32 v = v := w32_of (by omega)
      have wc : w32 cnt = cnt := w32_of (by omega)
      have fU := keep U hU
      -- the end
      have fin : (v = -1 ∨ b = top) → (least ≤ n → U.1 10 4 = d) ∧ EV q 60 124 [some (.ref 10), some (vI p), some (vI least), some (vI most), some (vI top), some (vI b), some (vI v), some (vI cnt), none] [] U (some (vI (if least ≤ n then n else 0))) U := by
        intro y
        by_cases cb : least ≤ b
        · obtain ⟨g1, g2, g3, g4⟩ := h2 cb
          obtain ⟨e1, e2⟩ := LM_u hLM (n' := b) (d' := fd) ⟨by omega, hb.2⟩ (fun z e e1 e2 m => by
            have := h1 z (p - e) (by omega) (by omega) (by omega)
            rw [show p - (p - e) = e by omega] at this
            exact this m) (fun _ => ⟨g2, g3, g4⟩) (fun z => absurd z (by omega))
          rw [← e1, ← e2]
          refine ⟨fun _ => g1, vc_Finder_longest_124 _ _ _ _ _ _ _ ?_⟩
          rw [wl, wb, if_pos cb]
          exact cY cb ⟨rfl, rfl⟩
        · have nn : ¬ least ≤ n := fun z => by
            have z3 := hLM.2.2.1 (by omega)
            have := h1 (by omega) (p - d) (by omega) (by omega) (by omega)
            rw [show p - (p - d) = d by omega] at this
            exact this (Mt_le z3.2.1 (by omega))
          refine ⟨fun z => absurd z nn, vc_Finder_longest_124 _ _ _ _ _ _ _ ?_⟩
          rw [wl, wb, if_neg nn]
          exact cNo cb ⟨rfl, rfl⟩
      by_cases cv : v = -1
      · obtain ⟨f1, f2⟩ := fin (Or.inl cv)
        refine ⟨U, hU, f1, vc_Finder_longest_36 _ _ _ _ _ _ _ ?_⟩
        rw [fU.2.2.1, wx, wc, wv]
        exact ⟨fun _ => f2, fun _ => cY (by omega) f2⟩
      obtain ⟨v0, v1, v2⟩ := hv.resolve_left cv
      by_cases cb : b = top
      · obtain ⟨f1, f2⟩ := fin (Or.inr cb)
        refine ⟨U, hU, f1, vc_Finder_longest_36 _ _ _ _ _ _ _ ?_⟩
        rw [fU.2.2.1, wx, wc, wv, wtop, wb]
        exact cNo (by omega) (cNo (by omega) (cY (by omega) f2))
      have w1 : w32 (v + b) = v + b := w32_of (by omega)
      have w2 : w32 (p + b) = p + b := w32_of (by omega)
      have g1 := fU.2.2.2.1 (v + b) (by omega) (by omega)
      have g2 := fU.2.2.2.1 (p + b) (by omega) (by omega)
      have hN := hA.1.2.1
      obtain ⟨v', ev'⟩ : ∃ v', v' = A.1 12 v := ⟨_, rfl⟩
      have hv' := hk v v0 (by omega)
      rw [← ev'] at hv'
      -- behind v
      have gap : ∀ b', least ≤ b' + 1 → ∀ e : Int, v' < e → e < v → 0 ≤ e → ¬ Mt t p (p - e) (b' + 1) := fun b' hb' e e1 e2 e3 m => by
        have := Mt_h3 (Mt_le m (l := 3) (by omega))
        rw [show p - (p - e) = e by omega] at this
        exact hv'.2 (by omega) e e1 e2 e3 (by rw [this, v2])
      have hv2 : v' = -1 ∨ (0 ≤ v' ∧ v' < p ∧ h3 t v' = h3 t p) := hv'.1.imp id (fun y => ⟨y.1, by omega, by rw [y.2.2, v2]⟩)
      have hv3 : v' < v := by rcases hv'.1 with y | y <;> omega
      have k109 : ∀ (b' : Int) (W A' : ms), EX X4 A W → EV q 60 36 [some (.ref 10), some (vI p), some (vI least), some (vI most), some (vI top), some (vI b'), some (vI v'), some (vI (cnt + 1)), none] [] W (some (vI (if least ≤ n then n else 0))) A' → EV q 60 109 [some (.ref 10), some (vI p), some (vI least), some (vI most), some (vI top), some (vI b'), some (vI v), some (vI cnt), none] [] W (some (vI (if least ≤ n then n else 0))) A' := fun b' W A' hW k => by
        refine vc_Finder_longest_109 _ _ _ _ _ _ _ ?_
        rw [wv, h12 W hW, ← ev']
        exact ⟨by omega, k⟩
      have same : ¬ Mt t p (p - v) (b + 1) → ∃ A', EX X4 A A' ∧ (least ≤ n → A'.1 10 4 = d) ∧ EV q 60 36 [some (.ref 10), some (vI p), some (vI least), some (vI most), some (vI top), some (vI b), some (vI v'), some (vI (cnt + 1)), none] [] U (some (vI (if least ≤ n then n else 0))) A' := fun hn => ih v' b (cnt + 1) fd U (by omega) hU hv2 (by omega) (by omega) hb (fun y e e1 e2 e3 => by
        by_cases c1 : e < v
        · exact gap b (by omega) e e1 c1 e3
        · by_cases c2 : e = v
          · rw [c2]; exact hn
          · exact h1 y e (by omega) e2 e3) h2
      have eqt : w32 (U.1 c (v + b)) = w32 (U.1 c (p + b)) ↔ t (p + b) = t (p + b - (p - v)) := by
        rw [g1.2, g2.2, w32_of (x := t (v + b)) (by omega), w32_of (x := t (p + b)) (by omega), show p + b - (p - v) = v + b by omega]
        exact ⟨fun y => y.symm, fun y => y.symm⟩
      by_cases ct : t (p + b) = t (p + b - (p - v))
      case neg =>
        obtain ⟨A', k1, k2, k3⟩ := same (fun y => ct (y b (by omega) (by omega)))
        refine ⟨A', k1, k2, vc_Finder_longest_36 _ _ _ _ _ _ _ ?_⟩
        rw [fU.2.2.1, wx, wc, wv, wtop, wb, w1, w2]
        exact cNo (by omega) (cNo (by omega) (cNo (by omega) ⟨c, N, fU.2.1, fU.1.1, by omega, c, N, fU.2.1, fU.1.1, by omega, cY (fun y => ct (eqt.1 y)) (k109 b U A' hU k3)⟩))
      obtain ⟨L, j1, j2, j3, j4⟩ := cl_alike (q := q) (t := t) (x := x) (c := c) (N := N) (v := v) (p := p) (top := top) hx ⟨v0, v1⟩ (by omega)
      have wL : w32 L = L := w32_of (by omega)
      by_cases cL : L ≤ b
      · obtain ⟨A', k1, k2, k3⟩ := same (fun y => by
          by_cases e : L < top
          · exact j3 e (Mt_le y (by omega))
          · omega)
        refine ⟨A', k1, k2, vc_Finder_longest_36 _ _ _ _ _ _ _ ?_⟩
        rw [fU.2.2.1, wx, wc, wv, wtop, wb, w1, w2]
        refine cNo (by omega) (cNo (by omega) (cNo (by omega) ⟨c, N, fU.2.1, fU.1.1, by omega, c, N, fU.2.1, fU.1.1, by omega, cNN (eqt.2 ct) ⟨L, U, j4 U fU, ?_⟩⟩))
        rw [wL]
        exact cY cL (k109 b U A' hU k3)
      · obtain ⟨W, eW⟩ : ∃ W, W = wI U 10 4 (p - v) := ⟨_, rfl⟩
        have hW : EX X4 A W := by rw [eW]; exact hU.wr ⟨rfl, rfl⟩
        have no : ∀ l, b < l → ∀ e : Int, v < e → e < p → 0 ≤ e → ¬ Mt t p (p - e) l := fun l hl' e e1 e2 e3 y => h1 (by omega) e e1 e2 e3 (Mt_le y (by omega))
        obtain ⟨A', k1, k2, k3⟩ := ih v' L (cnt + 1) (p - v) W (by omega) hW hv2 (by omega) (by omega) ⟨by omega, j1.2⟩ (fun y e e1 e2 e3 => by
          by_cases c1 : e < v
          · exact gap L (by omega) e e1 c1 e3
          · by_cases c2 : e = v
            · rw [c2]; exact j3 y
            · exact no _ (by omega) e (by omega) e2 e3) (fun _ => ⟨by rw [eW, wI_at], by omega, j2, fun d' e1 e2 => by
          have := no L (by omega) (p - d') (by omega) (by omega) (by omega)
          rw [show p - (p - d') = d' by omega] at this
          exact this⟩)
        refine ⟨A', k1, k2, vc_Finder_longest_36 _ _ _ _ _ _ _ ?_⟩
        rw [fU.2.2.1, wx, wc, wv, wtop, wb, w1, w2]
        refine cNo (by omega) (cNo (by omega) (cNo (by omega) ⟨c, N, fU.2.1, fU.1.1, by omega, c, N, fU.2.1, fU.1.1, by omega, cNN (eqt.2 ct) ⟨L, U, j4 U fU, ?_⟩⟩))
        rw [wL]
        exact cNo cL (fun S12 f12 => by rw [f12, ← eW]; exact k109 L W A' hW k3)
  have hv0 := hk p hp.1 hp.2
  obtain ⟨v, ev⟩ : ∃ v, v = A.1 12 p := ⟨_, rfl⟩
  rw [← ev] at hv0
  obtain ⟨A', k1, k2, k3⟩ := lp (v + 2).toNat v (least - 1) 0 0 A (by rcases hv0.1 with y | y <;> omega) (EX.refl _ A) (hv0.1.imp id (fun y => ⟨y.1, y.2.1, y.2.2⟩)) (by omega) (by rcases hv0.1 with y | y <;> omega) ⟨by omega, by omega⟩ (fun y e e1 e2 e3 m => by
    have := Mt_h3 (Mt_le m (l := 3) (by omega))
    rw [show p - (p - e) = e by omega] at this
    exact hv0.2 (by omega) e e1 e2 e3 this) (fun y => absurd y (by omega))
  refine ⟨A', k1, k2, vc_Finder_longest _ _ _ ?_⟩
  rw [hA.2.2.1, w32_of (x := most) (by omega), w32_of (x := x - p) (by omega), ← etop, wtop, wl, wp, ← ev]
  exact cY (by omega) ⟨by omega, k3⟩
end PChain
