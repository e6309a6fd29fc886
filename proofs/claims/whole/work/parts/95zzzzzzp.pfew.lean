/-! pack: BLOCKS; the parse with the fewest bits, a place on both sides -/
section PFew
variable {q : Nat × (Nat → Int32)} {x : Int} {t : Int → Int}
def prL (s : Int) : Int := flF (257 + lsF s) + sS 1 (lsF s)
def fwS (C : Int → Int) (p g s : Int) (z : Int × Int × Int) : Int × Int × Int := if 5 + sS 5 (dsF g) + prL s + C (p + s) < z.1 then (5 + sS 5 (dsF g) + prL s + C (p + s), s, g) else z
def fwR (C : Int → Int) (p : Int) (ld : Int → Int) (z : Int × Int × Int) : Nat → Int × Int × Int
  | 0 => z
  | m + 1 => fwS C p (ld ((m : Int) + 3)) ((m : Int) + 3) (fwR C p ld z m)
theorem fwR_s (C : Int → Int) (p : Int) (ld : Int → Int) (z : Int × Int × Int) (m : Nat) : fwR C p ld z (m + 1) = fwS C p (ld ((m : Int) + 3)) ((m : Int) + 3) (fwR C p ld z m) := rfl
/-- the least distance for each length, at p -/
def LD (t : Int → Int) (p n : Int) (ld : Int → Int) : Prop := ∀ s : Int, 3 ≤ s → s ≤ n → (1 ≤ ld s ∧ ld s ≤ p) ∧ Mt t p (ld s) s ∧ ∀ e : Int, 1 ≤ e → e < ld s → ¬ Mt t p e s
theorem LD_u {p n : Int} {ld : Int → Int} (h : LD t p n ld) {s d : Int} (h3 : 3 ≤ s) (hs : s ≤ n) (h1 : 1 ≤ d ∧ d ≤ p) (h2 : Mt t p d s) (h4 : ∀ e : Int, 1 ≤ e → e < d → ¬ Mt t p e s) : ld s = d := by
  obtain ⟨a1, a2, a3⟩ := h s h3 hs
  by_cases c : ld s < d
  · exact absurd a2 (h4 _ a1.1 c)
  · by_cases c2 : d < ld s
    · exact absurd h2 (a3 _ h1.1 c2)
    · omega
theorem LD_ex {p top n d : Int} (h : LM t p top n d) : ∃ ld : Int → Int, LD t p n ld := by
  have ex : ∀ s : Int, ∃ e : Int, 3 ≤ s → s ≤ n → (1 ≤ e ∧ e ≤ p) ∧ Mt t p e s ∧ ∀ e' : Int, 1 ≤ e' → e' < e → ¬ Mt t p e' s := fun s => by
    by_cases c : 3 ≤ s ∧ s ≤ n
    · obtain ⟨b1, b2, -⟩ := h.2.2.1 (by omega)
      have lp : ∀ (v : Nat) (D : Int), D ≤ v → (1 ≤ D ∧ D ≤ p) → Mt t p D s → ∃ e : Int, (1 ≤ e ∧ e ≤ p) ∧ Mt t p e s ∧ ∀ e' : Int, 1 ≤ e' → e' < e → ¬ Mt t p e' s := by
        intro v
        induction v with
        | zero => intro D hD h1; omega
        | succ v ih =>
          intro D hD h1 h2
          by_cases cc : ∃ e' : Int, (1 ≤ e' ∧ e' < D) ∧ Mt t p e' s
          · obtain ⟨e', i1, i2⟩ := cc
            exact ih e' (by omega) (by omega) i2
          · exact ⟨D, h1, h2, fun e' y1 y2 y3 => cc ⟨e', ⟨y1, y2⟩, y3⟩⟩
      obtain ⟨e, e1⟩ := lp d.toNat d (by omega) b1 (Mt_le b2 (by omega))
      exact ⟨e, fun _ _ => e1⟩
    · exact ⟨0, fun y1 y2 => absurd ⟨y1, y2⟩ c⟩
  obtain ⟨f, hf⟩ := Classical.axiomOfChoice ex
  exact ⟨f, hf⟩
theorem prL_r {s : Int} (h : 3 ≤ s ∧ s ≤ 258) : 0 ≤ prL s ∧ prL s ≤ 20 := by
  have l := lsF_p h
  have f := flF_rg (257 + lsF s)
  have z := sS_z (s := lsF s) (by omega)
  unfold prL
  omega
/-- the picks stay in range -/
theorem fwR_r {C : Int → Int} {p n x : Int} {ld : Int → Int} {z : Int × Int × Int} (hC : ∀ k : Int, p < k → k ≤ x → 0 ≤ C k ∧ C k ≤ 60000) (hp : 0 ≤ p ∧ p < x ∧ x ≤ 6000) (hld : LD t p n ld) (hn : n ≤ 258 ∧ p + n ≤ x) (hz : (0 ≤ z.1 ∧ z.1 ≤ 60010) ∧ (z.2.1 = 1 ∧ z.2.2 = 0)) : ∀ m : Nat, (m : Int) + 2 ≤ n ∨ m = 0 → (0 ≤ (fwR C p ld z m).1 ∧ (fwR C p ld z m).1 ≤ z.1) ∧ (((fwR C p ld z m).2.1 = 1 ∧ (fwR C p ld z m).2.2 = 0) ∨ ((3 ≤ (fwR C p ld z m).2.1 ∧ (fwR C p ld z m).2.1 ≤ n) ∧ 1 ≤ (fwR C p ld z m).2.2 ∧ (fwR C p ld z m).2.2 ≤ p))
  | 0, _ => ⟨⟨hz.1.1, Int.le_refl _⟩, Or.inl hz.2⟩
  | m + 1, hm => by
    have ih := fwR_r hC hp hld hn hz m (by omega)
    have hm' : ((m + 1 : Nat) : Int) + 2 ≤ n := by omega
    obtain ⟨a1, -, -⟩ := hld ((m : Int) + 3) (by omega) (by omega)
    have c1 := hC (p + ((m : Int) + 3)) (by omega) (by omega)
    have pr := prL_r (s := (m : Int) + 3) (by omega)
    have dr := dsF_r a1.1
    rw [fwR_s]
    unfold fwS
    split
    · rename_i c
      exact ⟨by show 0 ≤ _ ∧ _ ≤ z.1; omega, Or.inr ⟨by show 3 ≤ (m : Int) + 3 ∧ (m : Int) + 3 ≤ n; omega, a1⟩⟩
    · exact ih
def XFw (p : Int) (a : Nat) (k : Int) : Prop := (a = 19 ∨ a = 20 ∨ a = 21) ∧ k = p
def Fz (U : ms) (p : Int) (z : Int × Int × Int) : Prop := U.1 19 p = z.1 ∧ U.1 20 p = z.2.1 ∧ U.1 21 p = z.2.2
theorem cl_cheapI {A : ms} {p most top n : Int} {C ld : Int → Int} {z0 : Int × Int × Int} (hx : x ≤ 6000) (hp : 0 ≤ p ∧ p < x) (hn : n ≤ 258 ∧ p + n ≤ x) (hC : ∀ k : Int, p < k → k ≤ x → (0 ≤ C k ∧ C k ≤ 60000) ∧ A.1 19 k = C k) (h93 : ∀ s : Int, 3 ≤ s → s ≤ 258 → A.1 93 s = prL s) (zr : ∀ m : Nat, (m : Int) + 2 ≤ n ∨ m = 0 → 0 ≤ (fwR C p ld z0 m).1 ∧ (fwR C p ld z0 m).1 ≤ 60010) (b cnt v L : Int) (hv : 0 ≤ v ∧ v < p) (hb : 2 ≤ b ∧ b < L ∧ L ≤ n) (hls : ∀ s : Int, b < s → s ≤ L → ld s = p - v) : ∀ (w : Nat) (s : Int) (U : ms), s + w = L + 1 → b < s → EX (XFw p) A U → Fz U p (fwR C p ld z0 (s - 3).toNat) → ∃ W, EX (XFw p) A W ∧ Fz W p (fwR C p ld z0 (L - 2).toNat) ∧ ∀ (R : Option Value) (T : ms), EV q 80 164 [some (.ref 10), some (vI p), some (.ref 93), some (vI most), some (vI top), some (vI b), some (vI v), some (vI cnt), some (vI L), some (vI (5 + sS 5 (dsF (p - v)))), some (vI (L + 1)), none] [] W R T → EV q 80 164 [some (.ref 10), some (vI p), some (.ref 93), some (vI most), some (vI top), some (vI b), some (vI v), some (vI cnt), some (vI L), some (vI (5 + sS 5 (dsF (p - v)))), some (vI s), none] [] U R T := by
  have sh93 : SH 93 = (0, 259, []) := rfl
  have wp : w32 p = p := w32_of (by omega)
  have wL : w32 L = L := w32_of (by omega)
  have dr := dsF_r (g := p - v) (by omega)
  obtain ⟨D5, eD5⟩ : ∃ D5, D5 = sS 5 (dsF (p - v)) := ⟨_, rfl⟩
  have dr5 : 0 ≤ D5 ∧ D5 ≤ 13 := by rw [eD5]; exact dr.2.2
  clear dr
  intro w
  induction w with
  | zero =>
    intro s U hs hbs hU hF
    have es : s = L + 1 := by omega
    subst es
    exact ⟨U, hU, by rw [show L - 2 = L + 1 - 3 by omega]; exact hF, fun R T k => k⟩
  | succ w ih =>
    intro s U hs hbs hU hF
    obtain ⟨m, em⟩ : ∃ m : Nat, (s - 3).toNat = m := ⟨_, rfl⟩
    have es : s = (m : Int) + 3 := by omega
    have zm := zr m (by omega)
    have pr := prL_r (s := s) (by omega)
    have cs := hC (p + s) (by omega) (by omega)
    have l0 := hls s hbs (by omega)
    have eR : fwR C p ld z0 (s + 1 - 3).toNat = fwS C p (p - v) s (fwR C p ld z0 m) := by
      rw [show (s + 1 - 3).toNat = m + 1 by omega, fwR_s, ← es, l0]
    rw [em] at hF
    obtain ⟨g1, g2, g3⟩ := hF
    obtain ⟨cost, ec⟩ : ∃ cost, cost = 5 + sS 5 (dsF (p - v)) + prL s + C (p + s) := ⟨_, rfl⟩
    have cr : 0 ≤ cost ∧ cost ≤ 60100 := by rw [ec, ← eD5]; have := cs.1; omega
    have u93 : U.1 93 s = prL s := by rw [hU.2 93 s (by unfold XFw; omega)]; exact h93 s (by omega) (by omega)
    have u19 : U.1 19 (p + s) = C (p + s) := by rw [hU.2 19 (p + s) (by unfold XFw; omega)]; exact cs.2
    have w1 : w32 s = s := w32_of (by omega)
    have w2 : w32 (p + s) = p + s := w32_of (by omega)
    have w3 : w32 cost = cost := w32_of (by omega)
    have w4 : w32 (fwR C p ld z0 m).1 = (fwR C p ld z0 m).1 := w32_of (by omega)
    by_cases cc : cost < (fwR C p ld z0 m).1
    · have eS : fwS C p (p - v) s (fwR C p ld z0 m) = (cost, s, p - v) := by unfold fwS; rw [← ec, if_pos cc]
      obtain ⟨V, eV⟩ : ∃ V, V = wI (wI (wI U 19 p cost) 20 p s) 21 p (p - v) := ⟨_, rfl⟩
      have hV : EX (XFw p) A V := by rw [eV]; exact ((hU.wr ⟨Or.inl rfl, rfl⟩).wr ⟨Or.inr (Or.inl rfl), rfl⟩).wr ⟨Or.inr (Or.inr rfl), rfl⟩
      have fV : Fz V p (fwR C p ld z0 (s + 1 - 3).toNat) := by
        rw [eR, eS, eV]
        exact ⟨by rw [wI_no _ (by omega), wI_no _ (by omega), wI_at], by rw [wI_no _ (by omega), wI_at], by rw [wI_at]⟩
      obtain ⟨W, i1, i2, i3⟩ := ih (s + 1) V (by omega) (by omega) hV fV
      refine ⟨W, i1, i2, fun R T k => vc_Finder_cheapest_164 _ _ _ _ _ _ _ _ _ _ _ sh93 ?_⟩
      rw [wL, w1, w2, wp, g1, u93, u19, ← ec, w3, w4]
      exact cNo (by omega) ⟨by omega, by omega, by omega, cNo (by omega) ⟨by omega, fun S6 q6 => ⟨by omega, fun S8 q8 => ⟨by omega, fun S10 q10 => vc_Finder_cheapest_227 _ _ _ _ _ _ _ _ _ _ _ _ sh93 (by rw [q10, q8, q6, ← eV]; exact i3 R T k)⟩⟩⟩⟩
    · have eS : fwS C p (p - v) s (fwR C p ld z0 m) = fwR C p ld z0 m := by unfold fwS; rw [← ec, if_neg cc]
      obtain ⟨W, i1, i2, i3⟩ := ih (s + 1) U (by omega) (by omega) hU (by rw [eR, eS]; exact ⟨g1, g2, g3⟩)
      refine ⟨W, i1, i2, fun R T k => vc_Finder_cheapest_164 _ _ _ _ _ _ _ _ _ _ _ sh93 ?_⟩
      rw [wL, w1, w2, wp, g1, u93, u19, ← ec, w3, w4]
      exact cNo (by omega) ⟨by omega, by omega, by omega, cY (by omega) (vc_Finder_cheapest_227 _ _ _ _ _ _ _ _ _ _ _ _ sh93 (i3 R T k))⟩
theorem cl_cheapL {A : ms} {c N : Nat} {p most top n d : Int} {C ld : Int → Int} {z0 : Int × Int × Int} (hx : 0 ≤ x ∧ x ≤ 6000) (hp : 0 ≤ p ∧ p < x) (htop : (0 ≤ top ∧ top ≤ 258) ∧ p + top ≤ x) (hLt : LM t p top n d) (hld : LD t p n ld) (hC : ∀ k : Int, p < k → k ≤ x → (0 ≤ C k ∧ C k ≤ 60000) ∧ A.1 19 k = C k) (h93 : ∀ s : Int, 3 ≤ s → s ≤ 258 → A.1 93 s = prL s) (zr : ∀ m : Nat, (m : Int) + 2 ≤ n ∨ m = 0 → 0 ≤ (fwR C p ld z0 m).1 ∧ (fwR C p ld z0 m).1 ≤ 60010) (hA : FD A c N x t) : ∀ (w : Nat) (v b cnt fd : Int) (U : ms), v + 2 ≤ w → EX (XFw p) A U → (v = -1 ∨ (0 ≤ v ∧ v < p ∧ h3 t v = h3 t p)) → 0 ≤ cnt → cnt + v ≤ p - 1 → (2 ≤ b ∧ (b ≤ top ∨ b = 2) ∧ (b ≤ n ∨ b = 2)) → (b < top → ∀ e : Int, v < e → e < p → 0 ≤ e → ¬ Mt t p (p - e) (b + 1)) → (3 ≤ b → (1 ≤ fd ∧ fd ≤ p) ∧ Mt t p fd b ∧ ∀ d', 1 ≤ d' → d' < fd → ¬ Mt t p d' b) → Fz U p (fwR C p ld z0 (b - 2).toNat) → ∃ A', EX (XFw p) A A' ∧ Fz A' p (fwR C p ld z0 (n - 2).toNat) ∧ EV q 80 80 [some (.ref 10), some (vI p), some (.ref 93), some (vI most), some (vI top), some (vI b), some (vI v), some (vI cnt), none, none, none, none] [] U (some (vI (if 3 ≤ n then n else 2))) A' := by
  have sh93 : SH 93 = (0, 259, []) := rfl
  have nt := hLt.1
  have wtop : w32 top = top := w32_of (by omega)
  have wp : w32 p = p := w32_of (by omega)
  have wx : w32 x = x := w32_of (by omega)
  have hN := hA.1.2.1
  have keep : ∀ U : ms, EX (XFw p) A U → FD U c N x t := fun U e => FD_x hA e (fun a k y => by have := hA.1.2.2; unfold XFw at y; omega)
  have h12 : ∀ U : ms, EX (XFw p) A U → ∀ k, U.1 12 k = A.1 12 k := fun U e k => e.2 12 k (by unfold XFw; omega)
  have hk := hA.2.2.2.2
  have inn := fun (b cnt v L : Int) => cl_cheapI (q := q) (A := A) (p := p) (most := most) (top := top) (n := n) (C := C) (ld := ld) (z0 := z0) hx.2 hp (by omega) hC h93 zr b cnt v L
  intro w
  induction w with
  | zero =>
    intro v b cnt fd U hw hU hv _ hc hb h1 h2 hF
    rcases hv with y | y <;> omega
  | succ w ih =>
    intro v b cnt fd U hw hU hv cn hc hb h1 h2 hF
    have wb : w32 b = b := w32_of (by omega)
    have wv : w32 v = v := w32_of (by omega)
    have wc : w32 cnt = cnt := w32_of (by omega)
    have fU := keep U hU
    have fin : (v = -1 ∨ top ≤ b) → Fz U p (fwR C p ld z0 (n - 2).toNat) ∧ b = if 3 ≤ n then n else 2 := by
      intro y
      by_cases cb : 3 ≤ b
      · obtain ⟨g2, g3, g4⟩ := h2 cb
        obtain ⟨e1, e2⟩ := LM_u hLt (n' := b) (d' := fd) ⟨by omega, by omega⟩ (fun z e e1 e2 m => by
          have := h1 z (p - e) (by omega) (by omega) (by omega)
          rw [show p - (p - e) = e by omega] at this
          exact this m) (fun _ => ⟨g2, g3, g4⟩) (fun z => absurd z (by omega))
        rw [← e1, if_pos cb]
        exact ⟨hF, rfl⟩
      · have nn : ¬ 3 ≤ n := fun z => by
          have z3 := hLt.2.2.1 (by omega)
          have := h1 (by omega) (p - d) (by omega) (by omega) (by omega)
          rw [show p - (p - d) = d by omega] at this
          exact this (Mt_le z3.2.1 (by omega))
        rw [if_neg nn]
        rw [show (b - 2).toNat = 0 by omega] at hF
        rw [show (n - 2).toNat = 0 by omega]
        exact ⟨hF, by omega⟩
    by_cases cv : v = -1
    · obtain ⟨f1, f2⟩ := fin (Or.inl cv)
      rw [← f2]
      refine ⟨U, hU, f1, vc_Finder_cheapest_80 _ _ _ _ _ _ _ _ sh93 ?_⟩
      rw [fU.2.2.1, wx, wc, wv]
      exact ⟨fun _ => ⟨rfl, rfl⟩, fun _ => cY (by omega) ⟨rfl, rfl⟩⟩
    obtain ⟨v0, v1, v2⟩ := hv.resolve_left cv
    by_cases cb : top ≤ b
    · obtain ⟨f1, f2⟩ := fin (Or.inr cb)
      rw [← f2]
      refine ⟨U, hU, f1, vc_Finder_cheapest_80 _ _ _ _ _ _ _ _ sh93 ?_⟩
      rw [fU.2.2.1, wx, wc, wv, wtop, wb]
      exact cNo (by omega) (cNo (by omega) (cY cb ⟨rfl, rfl⟩))
    have w1 : w32 (v + b) = v + b := w32_of (by omega)
    have w2 : w32 (p + b) = p + b := w32_of (by omega)
    have g1 := fU.2.2.2.1 (v + b) (by omega) (by omega)
    have g2 := fU.2.2.2.1 (p + b) (by omega) (by omega)
    obtain ⟨v', ev'⟩ : ∃ v', v' = A.1 12 v := ⟨_, rfl⟩
    have hv' := hk v v0 (by omega)
    rw [← ev'] at hv'
    have gap : ∀ b', 3 ≤ b' + 1 → ∀ e : Int, v' < e → e < v → 0 ≤ e → ¬ Mt t p (p - e) (b' + 1) := fun b' hb' e e1 e2 e3 m => by
      have := Mt_h3 (Mt_le m (l := 3) (by omega))
      rw [show p - (p - e) = e by omega] at this
      exact hv'.2 (by omega) e e1 e2 e3 (by rw [this, v2])
    have hv2 : v' = -1 ∨ (0 ≤ v' ∧ v' < p ∧ h3 t v' = h3 t p) := hv'.1.imp id (fun y => ⟨y.1, by omega, by rw [y.2.2, v2]⟩)
    have hv3 : v' < v := by rcases hv'.1 with y | y <;> omega
    -- behind the sizes
    have k164 : ∀ (b' y0 : Int) (W A' : ms) (x9 x10 : Int), EX (XFw p) A W → max b y0 = b' → (-10 ≤ y0 ∧ y0 ≤ 6000) → y0 < x10 → x10 ≤ 6001 → EV q 80 80 [some (.ref 10), some (vI p), some (.ref 93), some (vI most), some (vI top), some (vI b'), some (vI v'), some (vI (cnt + 1)), none, none, none, none] [] W (some (vI (if 3 ≤ n then n else 2))) A' → EV q 80 164 [some (.ref 10), some (vI p), some (.ref 93), some (vI most), some (vI top), some (vI b), some (vI v), some (vI cnt), some (vI y0), some (vI x9), some (vI x10), none] [] W (some (vI (if 3 ≤ n then n else 2))) A' := fun b' y0 W A' x9 x10 hW hm' hy hx1 hx2 k => by
      refine vc_Finder_cheapest_164 _ _ _ _ _ _ _ _ _ _ _ sh93 ?_
      rw [wv, wb, h12 W hW, ← ev', w32_of (x := y0) (by omega), w32_of (x := x10) (by omega), hm']
      exact cY hx1 ⟨by omega, k⟩
    have same : ¬ Mt t p (p - v) (b + 1) → ∃ A', EX (XFw p) A A' ∧ Fz A' p (fwR C p ld z0 (n - 2).toNat) ∧ EV q 80 80 [some (.ref 10), some (vI p), some (.ref 93), some (vI most), some (vI top), some (vI b), some (vI v'), some (vI (cnt + 1)), none, none, none, none] [] U (some (vI (if 3 ≤ n then n else 2))) A' := fun hn => ih v' b (cnt + 1) fd U (by omega) hU hv2 (by omega) (by omega) hb (fun y e e1 e2 e3 => by
      by_cases c1 : e < v
      · exact gap b (by omega) e e1 c1 e3
      · by_cases c2 : e = v
        · rw [c2]; exact hn
        · exact h1 y e (by omega) e2 e3) h2 hF
    have k136 : ∀ (y0 : Int) (A' : ms), y0 ≤ b → -1 ≤ y0 → EV q 80 80 [some (.ref 10), some (vI p), some (.ref 93), some (vI most), some (vI top), some (vI b), some (vI v'), some (vI (cnt + 1)), none, none, none, none] [] U (some (vI (if 3 ≤ n then n else 2))) A' → EV q 80 136 [some (.ref 10), some (vI p), some (.ref 93), some (vI most), some (vI top), some (vI b), some (vI v), some (vI cnt), none, none, none, none] [vI y0] U (some (vI (if 3 ≤ n then n else 2))) A' := fun y0 A' hy hy1 k => by
      refine vc_Finder_cheapest_136 _ _ _ _ _ _ _ _ _ sh93 ?_
      rw [w32_of (x := y0) (by omega), wb]
      exact cY hy (vc_Finder_cheapest_156 _ _ _ _ _ _ _ _ _ _ sh93 (k164 b y0 U A' 0 (b + 1) hU (by omega) (by omega) (by omega) (by omega) k))
    have eqt : w32 (U.1 c (v + b)) = w32 (U.1 c (p + b)) ↔ t (p + b) = t (p + b - (p - v)) := by
      rw [g1.2, g2.2, w32_of (x := t (v + b)) (by omega), w32_of (x := t (p + b)) (by omega), show p + b - (p - v) = v + b by omega]
      exact ⟨fun y => y.symm, fun y => y.symm⟩
    by_cases ct : t (p + b) = t (p + b - (p - v))
    case neg =>
      obtain ⟨A', k1, k2, k3⟩ := same (fun y => ct (y b (by omega) (by omega)))
      refine ⟨A', k1, k2, vc_Finder_cheapest_80 _ _ _ _ _ _ _ _ sh93 ?_⟩
      rw [fU.2.2.1, wx, wc, wv, wtop, wb, w1, w2]
      exact cNo (by omega) (cNo (by omega) (cNo cb ⟨c, N, fU.2.1, fU.1.1, by omega, c, N, fU.2.1, fU.1.1, by omega, cY (fun y => ct (eqt.1 y)) (k136 0 A' (by omega) (by omega) k3)⟩))
    obtain ⟨L, j1, j2, j3, j4⟩ := cl_alike (q := q) (t := t) (x := x) (c := c) (N := N) (v := v) (p := p) (top := top) hx ⟨v0, v1⟩ (by omega)
    have wL : w32 L = L := w32_of (by omega)
    by_cases cL : L ≤ b
    · obtain ⟨A', k1, k2, k3⟩ := same (fun y => by
        by_cases e : L < top
        · exact j3 e (Mt_le y (by omega))
        · omega)
      refine ⟨A', k1, k2, vc_Finder_cheapest_80 _ _ _ _ _ _ _ _ sh93 ?_⟩
      rw [fU.2.2.1, wx, wc, wv, wtop, wb, w1, w2]
      exact cNo (by omega) (cNo (by omega) (cNo cb ⟨c, N, fU.2.1, fU.1.1, by omega, c, N, fU.2.1, fU.1.1, by omega, cNN (eqt.2 ct) ⟨L, U, j4 U fU, k136 L A' cL (by omega) k3⟩⟩))
    · have no : ∀ l, b < l → ∀ e : Int, v < e → e < p → 0 ≤ e → ¬ Mt t p (p - e) l := fun l hl' e e1 e2 e3 y => h1 (by omega) e e1 e2 e3 (Mt_le y (by omega))
      have hLn : L ≤ n := by
        by_cases y : L ≤ n
        · exact y
        · exact absurd (Mt_le j2 (show n + 1 ≤ L by omega)) (hLt.2.1 (by omega) (p - v) (by omega) (by omega))
      have hls : ∀ s : Int, b < s → s ≤ L → ld s = p - v := fun s s1 s2 => LD_u hld (by omega) (by omega) (by omega) (Mt_le j2 s2) (fun e e1 e2 => by
        have := no s s1 (p - e) (by omega) (by omega) (by omega)
        rw [show p - (p - e) = e by omega] at this
        exact this)
      obtain ⟨W, hW, fW, kW⟩ := inn b cnt v L ⟨v0, v1⟩ ⟨hb.1, by omega, hLn⟩ hls (L - b).toNat (b + 1) U (by omega) (by omega) hU (by rw [show b + 1 - 3 = b - 2 by omega]; exact hF)
      obtain ⟨A', k1, k2, k3⟩ := ih v' L (cnt + 1) (p - v) W (by omega) hW hv2 (by omega) (by omega) ⟨by omega, Or.inl j1.2, Or.inl hLn⟩ (fun y e e1 e2 e3 => by
        by_cases c1 : e < v
        · exact gap L (by omega) e e1 c1 e3
        · by_cases c2 : e = v
          · rw [c2]; exact j3 y
          · exact no _ (by omega) e (by omega) e2 e3) (fun _ => ⟨by omega, j2, fun d' e1 e2 => by
        have := no L (by omega) (p - d') (by omega) (by omega) (by omega)
        rw [show p - (p - d') = d' by omega] at this
        exact this⟩) fW
      have dr := dsF_r (g := p - v) (by omega)
      refine ⟨A', k1, k2, vc_Finder_cheapest_80 _ _ _ _ _ _ _ _ sh93 ?_⟩
      rw [fU.2.2.1, wx, wc, wv, wtop, wb, w1, w2]
      refine cNo (by omega) (cNo (by omega) (cNo cb ⟨c, N, fU.2.1, fU.1.1, by omega, c, N, fU.2.1, fU.1.1, by omega, cNN (eqt.2 ct) ⟨L, U, j4 U fU, vc_Finder_cheapest_136 _ _ _ _ _ _ _ _ _ sh93 ?_⟩⟩))
      rw [wL, wb]
      refine cNo cL ⟨5 + sS 5 (dsF (p - v)), U, vc_Blocks_gapPrice _ ⟨dsF (p - v), U, cl_gap (by omega), ?_⟩, vc_Finder_cheapest_156 _ _ _ _ _ _ _ _ _ _ sh93 (kW _ _ (k164 L L W A' _ (L + 1) hW (by omega) (by omega) (by omega) (by omega) k3))⟩
      rw [w32_of (x := dsF (p - v)) (by omega)]
      exact ⟨by omega, rfl, rfl⟩
theorem cl_cheap {A : ms} {c N : Nat} {p most n d : Int} {C ld : Int → Int} (hx : 0 ≤ x ∧ x ≤ 6000) (hp : 0 ≤ p ∧ p < x) (hm : 3 ≤ most ∧ most ≤ 1000) (hLM : LM t p (min 258 (x - p)) n d) (hnm : n ≤ most) (hld : LD t p n ld) (hC : ∀ k : Int, p < k → k ≤ x → (0 ≤ C k ∧ C k ≤ 60000) ∧ A.1 19 k = C k) (h93 : ∀ s : Int, 3 ≤ s → s ≤ 258 → A.1 93 s = prL s) (hA : FD A c N x t) : ∃ A', EX (XFw p) A A' ∧ Fz A' p (fwR C p ld (flF (t p) + C (p + 1), 1, 0) (n - 2).toNat) ∧ EV q 80 0 [some (.ref 10), some (vI p), some (.ref 93), some (vI most), none, none, none, none, none, none, none, none] [] A (some (vI (if 3 ≤ n then n else 2))) A' := by
  obtain ⟨top, etop⟩ : ∃ top, top = min (min 258 most) (x - p) := ⟨_, rfl⟩
  have n1 := hLM.1
  have hLt : LM t p top n d := ⟨by omega, fun y => hLM.2.1 (by omega), hLM.2.2⟩
  have sh93 : SH 93 = (0, 259, []) := rfl
  have wtop : w32 top = top := w32_of (by omega)
  have wp : w32 p = p := w32_of (by omega)
  have wx : w32 x = x := w32_of (by omega)
  have tp := (hA.2.2.2.1 p hp.1 hp.2)
  have hN := hA.1.2.1
  obtain ⟨z0, ez0⟩ : ∃ z0 : Int × Int × Int, z0 = (flF (t p) + C (p + 1), 1, 0) := ⟨_, rfl⟩
  have c1 := (hC (p + 1) (by omega) (by omega)).1
  have fl := flF_rg (t p)
  have hz0 : (0 ≤ z0.1 ∧ z0.1 ≤ 60010) ∧ (z0.2.1 = 1 ∧ z0.2.2 = 0) := by rw [ez0]; exact ⟨by show 0 ≤ flF (t p) + C (p + 1) ∧ flF (t p) + C (p + 1) ≤ 60010; omega, rfl, rfl⟩
  have zr0 := fwR_r (x := x) (fun k k0 k1 => (hC k k0 k1).1) ⟨hp.1, hp.2, hx.2⟩ hld (by omega) hz0
  have h12 : ∀ U : ms, EX (XFw p) A U → ∀ k, U.1 12 k = A.1 12 k := fun U e k => e.2 12 k (by unfold XFw; omega)
  have hk := hA.2.2.2.2
  have zr : ∀ m : Nat, (m : Int) + 2 ≤ n ∨ m = 0 → 0 ≤ (fwR C p ld z0 m).1 ∧ (fwR C p ld z0 m).1 ≤ 60010 := fun m hm => ⟨(zr0 m hm).1.1, Int.le_trans (zr0 m hm).1.2 hz0.1.2⟩
  have lp := cl_cheapL (q := q) (A := A) (c := c) (N := N) (p := p) (most := most) (top := top) (n := n) (d := d) (C := C) (ld := ld) (z0 := z0) hx hp (by omega) hLt hld hC h93 zr hA
  -- the beginning
  obtain ⟨U, eU⟩ : ∃ U, U = wI (wI (wI A 19 p (flF (t p) + C (p + 1))) 20 p 1) 21 p 0 := ⟨_, rfl⟩
  have hU : EX (XFw p) A U := by rw [eU]; exact (((EX.refl _ A).wr ⟨Or.inl rfl, rfl⟩).wr ⟨Or.inr (Or.inl rfl), rfl⟩).wr ⟨Or.inr (Or.inr rfl), rfl⟩
  have fU : Fz U p (fwR C p ld z0 (2 - 2 : Int).toNat) := by
    show Fz U p z0
    rw [ez0, eU]
    exact ⟨by rw [wI_no _ (by omega), wI_no _ (by omega), wI_at], by rw [wI_no _ (by omega), wI_at], by rw [wI_at]⟩
  have hv0 := hk p hp.1 hp.2
  obtain ⟨v, ev⟩ : ∃ v, v = A.1 12 p := ⟨_, rfl⟩
  rw [← ev] at hv0
  obtain ⟨A', k1, k2, k3⟩ := lp (v + 2).toNat v 2 0 0 U (by rcases hv0.1 with y | y <;> omega) hU (hv0.1.imp id (fun y => ⟨y.1, y.2.1, y.2.2⟩)) (by omega) (by rcases hv0.1 with y | y <;> omega) ⟨by decide, Or.inr rfl, Or.inr rfl⟩ (fun y e e1 e2 e3 m => by
    have := Mt_h3 (Mt_le m (l := 3) (by omega))
    rw [show p - (p - e) = e by omega] at this
    exact hv0.2 (by omega) e e1 e2 e3 this) (fun y => absurd y (by decide)) fU
  rw [ez0] at k2
  have wp1 : w32 (p + 1) = p + 1 := w32_of (by omega)
  have k42 : EV q 80 42 [some (.ref 10), some (vI p), some (.ref 93), some (vI most), some (vI top), none, none, none, none, none, none, none] [vI (flF (t p)), vI p, .ref 19] A (some (vI (if 3 ≤ n then n else 2))) A' := by
    refine vc_Finder_cheapest_42 _ _ _ _ _ _ _ sh93 ?_
    rw [wp, wp1, (hC (p + 1) (by omega) (by omega)).2]
    refine ⟨by omega, by omega, fun S3 q3 => ⟨by omega, fun S5 q5 => ⟨by omega, fun S7 q7 => ⟨by omega, ?_⟩⟩⟩⟩
    rw [q5, q3, ← eU] at q7
    subst q7
    rw [h12 S7 hU, ← ev]
    exact k3
  refine ⟨A', k1, k2, vc_Finder_cheapest _ _ _ _ sh93 ⟨c, N, hA.2.1, hA.1.1, ?_⟩⟩
  rw [wp, hA.2.2.1, w32_of (x := x - p) (by omega), show w32 258 = 258 by decide, w32_of (x := most) (by omega), w32_of (x := min 258 most) (by omega), ← etop, tp.2, w32_of (x := t p) (by omega)]
  refine ⟨by omega, ?_⟩
  by_cases c4 : 144 ≤ t p
  · have e9 : flF (t p) = 9 := by unfold flF; rw [if_pos c4, if_neg (by omega)]
    rw [e9] at k42
    exact cY c4 k42
  · have e8 : flF (t p) = 8 := by unfold flF; rw [if_neg c4]
    rw [e8] at k42
    exact cNo c4 k42
end PFew
