/-! pack: BLOCKS; the fewest bits, the reference; level 3 -/
section PFewC
variable {q : Nat × (Nat → Int32)} {x : Int} {t n0 d0 : Int → Int} {ld : Int → Int → Int}
def XMw (a : Nat) (_ : Int) : Prop := a = 395 ∨ a = 396 ∨ a = 397
def Fm (U : ms) (p : Int) (z : Int × Int × Int) : Prop := U.1 395 p = z.1 ∧ U.1 396 p = z.2.1 ∧ U.1 397 p = z.2.2
/-- the sizes at one place -/
theorem md_cheapI {B : ms} {p n x2 : Int} {C l : Int → Int} {z0 : Int × Int × Int} (hx : x ≤ 6000) (hp : 0 ≤ p ∧ p < x) (hn : 0 ≤ n ∧ n ≤ 258 ∧ p + n ≤ x) (hC : ∀ k : Int, p < k → k ≤ x → (0 ≤ C k ∧ C k ≤ 60000) ∧ B.1 395 k = C k) (zr : ∀ m : Nat, (m : Int) + 2 ≤ n ∨ m = 0 → 0 ≤ (fwR C p l z0 m).1 ∧ (fwR C p l z0 m).1 ≤ 60010) (hl : ∀ s : Int, 3 ≤ s → s ≤ n → (1 ≤ l s ∧ l s ≤ p) ∧ B.1 379 s = l s) (h26 : B.1 367 26 = n) (hW : CdsM B 288 32 flF (fun _ => 5)) : ∀ (w : Nat) (s : Int) (U : ms), s + w = n + 1 → 3 ≤ s → EX (fun a k => XMw a k ∧ k = p) B U → Fm U p (fwR C p l z0 (s - 3).toNat) → ∃ W, EX (fun a k => XMw a k ∧ k = p) B W ∧ Fm W p (fwR C p l z0 (n - 2).toNat) ∧ ∀ (R : Option Value) (T : ms), EV q 307 17 [some (.ref 367), some (vI (p - 1)), none, none, none, none, none] [] W R T → EV q 307 87 [some (.ref 367), some (vI p), some (vI x2), some (vI s), none, none, none] [] U R T := by
  have wp : w32 p = p := w32_of (by omega)
  have wn : w32 n = n := w32_of (by omega)
  intro w
  induction w with
  | zero =>
    intro s U hs h3 hU hF
    have es : s = n + 1 := by omega
    subst es
    refine ⟨U, hU, by rw [show n - 2 = n + 1 - 3 by omega]; exact hF, fun R T k => vc_MD_parseLeast_87 _ _ _ ?_⟩
    rw [hU.2 367 26 (by unfold XMw; omega), h26, wn, w32_of (x := n + 1) (by omega)]
    exact cY (by omega) k
  | succ w ih =>
    intro s U hs h3 hU hF
    obtain ⟨m, em⟩ : ∃ m : Nat, (s - 3).toNat = m := ⟨_, rfl⟩
    have es : s = (m : Int) + 3 := by omega
    have zm := zr m (by omega)
    have lp := lsF_p (n := s) (by omega)
    obtain ⟨l1, l2⟩ := hl s h3 (by omega)
    have dr := dsF_r l1.1
    have cs := hC (p + s) (by omega) (by omega)
    have eR : fwR C p l z0 (s + 1 - 3).toNat = fwS C p (l s) s (fwR C p l z0 m) := by
      rw [show (s + 1 - 3).toNat = m + 1 by omega, fwR_s, ← es]
    rw [em] at hF
    obtain ⟨g1, g2, g3⟩ := hF
    obtain ⟨L, eL⟩ : ∃ L, L = lsF s := ⟨_, rfl⟩
    obtain ⟨D, eD⟩ : ∃ D, D = dsF (l s) := ⟨_, rfl⟩
    rw [← eL] at lp
    rw [← eD] at dr
    have s1 := sS_z (s := L) (by omega)
    have at' : ∀ (a : Nat) (k : Int), a < 395 ∨ 397 < a ∨ k ≠ p → U.1 a k = B.1 a k := fun a k y => hU.2 a k (by unfold XMw; omega)
    have fl := flF_rg (257 + L)
    have u385 : U.1 385 (257 + L) = flF (257 + L) := by
      rw [at' _ _ (by omega)]
      have := (hW.1.1 (257 + L).toNat (by omega)).2
      rw [show (((257 + L).toNat : Nat) : Int) = 257 + L by omega] at this
      exact this
    have u387 : U.1 387 D = 5 := by
      rw [at' _ _ (by omega)]
      have := (hW.2.1.1 D.toNat (by omega)).2
      rw [show ((D.toNat : Nat) : Int) = D by omega] at this
      exact this
    have u392 : U.1 392 L = sS 1 L := by rw [at' _ _ (by omega)]; exact (hW.2.2.2.1 L (by omega) (by omega)).2
    have u394 : U.1 394 D = sS 5 D := by rw [at' _ _ (by omega)]; exact (hW.2.2.2.2 D (by omega) (by omega)).2
    have u395 : U.1 395 (p + s) = C (p + s) := by rw [at' _ _ (by omega)]; exact cs.2
    have u379 : U.1 379 s = l s := by rw [at' _ _ (by omega)]; exact l2
    have tbU : TbM U := ⟨fun s h0 h1 => by rw [at' 391 s (by omega), at' 392 s (by omega)]; exact hW.2.2.2.1 s h0 h1, fun s h0 h1 => by rw [at' 393 s (by omega), at' 394 s (by omega)]; exact hW.2.2.2.2 s h0 h1⟩
    have kl := md_len (q := q) (B := U) (n := s) (by omega) tbU
    rw [← eL] at kl
    have kg := md_gap (q := q) (B := U) (g := l s) (by omega) tbU
    rw [← eD] at kg
    obtain ⟨cost, ec⟩ : ∃ cost, cost = 5 + sS 5 D + prL s + C (p + s) := ⟨_, rfl⟩
    have epr : prL s = flF (257 + L) + sS 1 L := by unfold prL; rw [← eL]
    have ec2 : flF (257 + L) + sS 1 L + 5 + sS 5 D + C (p + s) = cost := by omega
    have w3 : w32 cost = cost := w32_of (by omega)
    have w4 : w32 (fwR C p l z0 m).1 = (fwR C p l z0 m).1 := w32_of (by omega)
    have w1 : w32 s = s := w32_of (by omega)
    by_cases cc : cost < (fwR C p l z0 m).1
    · have eS : fwS C p (l s) s (fwR C p l z0 m) = (cost, s, l s) := by unfold fwS; rw [← eD, ← ec, if_pos cc]
      obtain ⟨V, eV⟩ : ∃ V, V = wI (wI (wI U 395 p cost) 396 p s) 397 p (l s) := ⟨_, rfl⟩
      have hV : EX (fun a k => XMw a k ∧ k = p) B V := by rw [eV]; exact ((hU.wr ⟨Or.inl rfl, rfl⟩).wr ⟨Or.inr (Or.inl rfl), rfl⟩).wr ⟨Or.inr (Or.inr rfl), rfl⟩
      have fV : Fm V p (fwR C p l z0 (s + 1 - 3).toNat) := by
        rw [eR, eS, eV]
        exact ⟨by rw [wI_no _ (by omega), wI_no _ (by omega), wI_at], by rw [wI_no _ (by omega), wI_at], by rw [wI_at]⟩
      obtain ⟨W, i1, i2, i3⟩ := ih (s + 1) V (by omega) (by omega) hV fV
      refine ⟨W, i1, i2, fun R T k => vc_MD_parseLeast_87 _ _ _ ?_⟩
      rw [at' 367 26 (by omega), h26, wn, w1]
      refine cNo (by omega) ⟨L, U, kl, by omega, D, U, by rw [u379]; exact kg, ?_⟩
      rw [w32_of (x := 257 + L) (by omega), w32_of (x := L) (by omega), w32_of (x := D) (by omega), w32_of (x := p + s) (by omega), wp, u385, u392, u387, u394, u395, ec2, w3, g1, w4]
      refine ⟨by omega, by omega, by omega, by omega, by omega, by omega, cNo (by omega) ⟨by omega, fun S15 q15 => ⟨by omega, fun S17 q17 => ⟨by omega, by omega, fun S20 q20 => vc_MD_parseLeast_198 _ _ _ _ _ _ ?_⟩⟩⟩⟩
      have e379 : S17.1 379 s = l s := by rw [q17, wI_no _ (by omega), q15, wI_no _ (by omega)]; exact u379
      rw [e379, q17, q15, ← eV] at q20
      rw [q20]
      exact i3 R T k
    · have eS : fwS C p (l s) s (fwR C p l z0 m) = fwR C p l z0 m := by unfold fwS; rw [← eD, ← ec, if_neg cc]
      obtain ⟨W, i1, i2, i3⟩ := ih (s + 1) U (by omega) (by omega) hU (by rw [eR, eS]; exact ⟨g1, g2, g3⟩)
      refine ⟨W, i1, i2, fun R T k => vc_MD_parseLeast_87 _ _ _ ?_⟩
      rw [at' 367 26 (by omega), h26, wn, w1]
      refine cNo (by omega) ⟨L, U, kl, by omega, D, U, by rw [u379]; exact kg, ?_⟩
      rw [w32_of (x := 257 + L) (by omega), w32_of (x := L) (by omega), w32_of (x := D) (by omega), w32_of (x := p + s) (by omega), wp, u385, u392, u387, u394, u395, ec2, w3, g1, w4]
      exact ⟨by omega, by omega, by omega, by omega, by omega, by omega, cY (by omega) (vc_MD_parseLeast_198 _ _ _ _ _ _ (i3 R T k))⟩
def MFw (B : ms) (x : Int) (F : Int → Int × Int × Int) (j : Nat) : Prop := ∀ k : Int, x - j ≤ k → k ≤ x → B.1 395 k = (F k).1 ∧ (k < x → B.1 396 k = (F k).2.1 ∧ B.1 397 k = (F k).2.2)
def XMa (a : Nat) (k : Int) : Prop := XMw a k ∨ XLo a k
theorem CdsM_a {B B' : ms} (h : CdsM B 288 32 flF (fun _ => 5)) (e : EX XMa B B') : CdsM B' 288 32 flF (fun _ => 5) := by
  obtain ⟨⟨c1, c2⟩, ⟨d1, d2⟩, hn, t1, t2⟩ := h
  have at' : ∀ (a : Nat) (k : Int), 385 ≤ a ∧ a ≤ 394 → B'.1 a k = B.1 a k := fun a k y => e.2 a k (by unfold XMa XMw XLo; omega)
  refine ⟨⟨fun s hs => ?_, fun s hs y => ?_⟩, ⟨fun s hs => ?_, fun s hs y => ?_⟩, hn, fun s h0 h1 => ?_, fun s h0 h1 => ?_⟩
  · rw [at' _ _ (by omega)]; exact c1 s hs
  · rw [at' _ _ (by omega)]; exact c2 s hs y
  · rw [at' _ _ (by omega)]; exact d1 s hs
  · rw [at' _ _ (by omega)]; exact d2 s hs y
  · rw [at' _ _ (by omega), at' _ _ (by omega)]; exact t1 s h0 h1
  · rw [at' _ _ (by omega), at' _ _ (by omega)]; exact t2 s h0 h1
theorem md_fewD {B : ms} (hx : 0 ≤ x ∧ x ≤ 6000) (hL : ∀ p : Int, 0 ≤ p → p < x → LM t p (min 258 (x - p)) (n0 p) (d0 p)) (hM : ∀ p : Int, 0 ≤ p → p < x → ∀ B : ms, TXm B x t → ∃ B', EX XLo B B' ∧ B'.1 367 26 = n0 p ∧ B'.1 367 27 = d0 p ∧ LF t p (n0 p) (B'.1 379) ∧ EV q 293 0 [some (.ref 367), some (.ref 368), some (vI x), some (vI p), some (vI 258), some (vI 32768), none, none, none, none, none] [] B none B') (hD : ∀ p : Int, 0 ≤ p → p < x → LD t p (n0 p) (ld p)) (hB : TXm B x t) (hW : CdsM B 288 32 flF (fun _ => 5)) : ∀ (v j : Nat) (U : ms), (j : Int) + v = x → EX XMa B U → MFw U x (fwA x t n0 ld j) j → ∃ B', EX XMa B B' ∧ MFw B' x (fwA x t n0 ld x.toNat) x.toNat ∧ ∀ (R : Option Value) (T : ms), EV q 307 212 [some (.ref 367), some (vI 0), none, none, none, none, none] [] B' R T → EV q 307 17 [some (.ref 367), some (vI (x - 1 - j)), none, none, none, none, none] [] U R T := by
  have rg := fwA_r hx hL hD
  intro v
  induction v with
  | zero =>
    intro j U hj hU hF
    have ej : x.toNat = j := by omega
    rw [ej]
    refine ⟨U, hU, hF, fun R T k => vc_MD_parseLeast_17 _ ?_⟩
    rw [w32_of (x := x - 1 - j) (by omega)]
    exact cY (by omega) k
  | succ v ih =>
    intro j U hj hU hF
    obtain ⟨p, ep⟩ : ∃ p, p = x - 1 - (j : Int) := ⟨_, rfl⟩
    have n1 := (hL p (by omega) (by omega)).1
    have hUt : TXm U x t := TXm_e hB (fun a k y => hU.2 a k (by unfold XMa XMw XLo; omega))
    have hWU := CdsM_a hW hU
    have tp := (hB.2 p (by omega) (by omega)).1
    have c1 := (rg j (by omega) (p + 1) (by omega) (by omega)).1
    have fl := flF_rg (t p)
    obtain ⟨C, eC⟩ : ∃ C : Int → Int, C = fun i => (fwA x t n0 ld j i).1 := ⟨_, rfl⟩
    have eCk : ∀ k, C k = (fwA x t n0 ld j k).1 := fun k => by rw [eC]
    obtain ⟨z0, ez0⟩ : ∃ z0 : Int × Int × Int, z0 = (flF (t p) + C (p + 1), 1, 0) := ⟨_, rfl⟩
    have hz0 : (0 ≤ z0.1 ∧ z0.1 ≤ 60010) ∧ (z0.2.1 = 1 ∧ z0.2.2 = 0) := by rw [ez0]; exact ⟨by show 0 ≤ flF (t p) + C (p + 1) ∧ flF (t p) + C (p + 1) ≤ 60010; rw [eCk]; omega, rfl, rfl⟩
    have hC0 : ∀ k : Int, p < k → k ≤ x → 0 ≤ C k ∧ C k ≤ 60000 := fun k k0 k1 => by rw [eCk]; have := (rg j (by omega) k (by omega) k1).1; omega
    have zr0 := fwR_r (t := t) (x := x) (n := n0 p) (ld := ld p) hC0 (by omega) (hD p (by omega) (by omega)) (by omega) hz0
    obtain ⟨U9, e9⟩ : ∃ U9, U9 = wI (wI (wI U 395 p (flF (t p) + C (p + 1))) 396 p 1) 397 p 0 := ⟨_, rfl⟩
    have x9 : EX (fun a k => XMw a k ∧ k = p) U U9 := by rw [e9]; exact (((EX.refl _ U).wr ⟨Or.inl rfl, rfl⟩).wr ⟨Or.inr (Or.inl rfl), rfl⟩).wr ⟨Or.inr (Or.inr rfl), rfl⟩
    have f9 : Fm U9 p z0 := by
      rw [ez0, e9]
      exact ⟨by rw [wI_no _ (by omega), wI_no _ (by omega), wI_at], by rw [wI_no _ (by omega), wI_at], by rw [wI_at]⟩
    have hU9 : TXm U9 x t := TXm_e hUt (fun a k y => x9.2 a k (by unfold XMw; omega))
    obtain ⟨V, b1, b2, -, b3, b4⟩ := hM p (by omega) (by omega) U9 hU9
    have atV : ∀ (a : Nat) (k : Int), 385 ≤ a → V.1 a k = U9.1 a k := fun a k y => b1.2 a k (by unfold XLo; omega)
    have xV : EX XMa B V := (hU.trans (EX.mono x9 (fun a k y => Or.inl y.1))).trans (EX.mono b1 (fun a k y => Or.inr y))
    have fV : Fm V p (fwR C p (ld p) z0 (3 - 3 : Int).toNat) := by
      show Fm V p z0
      exact ⟨by rw [atV _ _ (by omega)]; exact f9.1, by rw [atV _ _ (by omega)]; exact f9.2.1, by rw [atV _ _ (by omega)]; exact f9.2.2⟩
    have lst : ∃ W, EX (fun a k => XMw a k ∧ k = p) V W ∧ Fm W p (fwR C p (ld p) z0 (n0 p - 2).toNat) ∧ ∀ (R : Option Value) (T : ms), EV q 307 17 [some (.ref 367), some (vI (p - 1)), none, none, none, none, none] [] W R T → EV q 307 87 [some (.ref 367), some (vI p), some (vI (t p)), some (vI 3), none, none, none] [] V R T := by
      by_cases c3 : n0 p < 3
      · refine ⟨V, EX.refl _ V, by rw [show (n0 p - 2).toNat = (3 - 3 : Int).toNat by omega]; exact fV, fun R T k => vc_MD_parseLeast_87 _ _ _ ?_⟩
        rw [b2, w32_of (x := n0 p) (by omega), show w32 3 = 3 by decide]
        exact cY c3 k
      · exact md_cheapI (q := q) (x := x) (B := V) (p := p) (n := n0 p) (C := C) (l := ld p) (z0 := z0) hx.2 (by omega) (by omega) (fun k k0 k1 => ⟨hC0 k k0 k1, by rw [atV _ _ (by omega), x9.2 395 k (by unfold XMw; omega), eCk]; exact (hF k (by omega) k1).1⟩) (fun m hm => ⟨(zr0 m hm).1.1, Int.le_trans (zr0 m hm).1.2 hz0.1.2⟩) (fun s s0 s1 => by
          have h1 := hD p (by omega) (by omega) s s0 s1
          refine ⟨h1.1, ?_⟩
          have h2 := b3 s (by omega) s1 (by omega)
          exact (LD_u (hD p (by omega) (by omega)) s0 s1 h2.1 h2.2.1 h2.2.2).symm) b2 (CdsM_a hW xV) (n0 p - 2).toNat 3 V (by omega) (by omega) (EX.refl _ V) fV
    obtain ⟨W, k1, k2, k3⟩ := lst
    have xW : EX XMa B W := xV.trans (EX.mono k1 (fun a k y => Or.inl y.1))
    have k2' : Fm W p (fwA x t n0 ld (j + 1) p) := by
      rw [fwA_at j ep]
      rw [ez0, eC] at k2
      exact k2
    obtain ⟨B', g1, g2, g3⟩ := ih (j + 1) W (by omega) xW (fun k h1 h2 => by
      by_cases e : k = p
      · rw [e]
        exact ⟨k2'.1, fun _ => ⟨k2'.2.1, k2'.2.2⟩⟩
      · have at' : ∀ a : Nat, 395 ≤ a → W.1 a k = U.1 a k := fun a y => by rw [k1.2 a k (by omega), atV a k (by omega), x9.2 a k (by omega)]
        rw [fwA_no j (by omega), at' 395 (by omega), at' 396 (by omega), at' 397 (by omega)]
        exact hF k (by omega) h2)
    refine ⟨B', g1, g2, fun R T k => vc_MD_parseLeast_17 _ ?_⟩
    have g4 := g3 R T k
    rw [show x - 1 - ((j + 1 : Nat) : Int) = p - 1 by omega] at g4
    have l385 : U.1 385 (t p) = flF (t p) := by
      have := (hWU.1.1 (t p).toNat (by omega)).2
      rw [show (((t p).toNat : Nat) : Int) = t p by omega] at this
      exact this
    rw [← ep, w32_of (x := p) (by omega), w32_of (x := p + 1) (by omega), oct_eq tp (hUt.2 p (by omega) (by omega)).2, w32_of (x := t p) (by omega), l385, (hF (p + 1) (by omega) (by omega)).1, ← eCk]
    refine cNo (by omega) ⟨by omega, by omega, by omega, by omega, fun S5 q5 => ⟨by omega, fun S7 q7 => ⟨by omega, fun S9 q9 => ?_⟩⟩⟩
    rw [q7, q5, ← e9] at q9
    rw [q9]
    refine ⟨V, ?_, k3 R T g4⟩
    rw [hU9.1]
    exact b4
/-- the reference tells the picks -/
theorem md_fewT {P : Nat → Int} {K : Nat} (hx : 0 ≤ x ∧ x ≤ 6000) (hL : ∀ p : Int, 0 ≤ p → p < x → LM t p (min 258 (x - p)) (n0 p) (d0 p)) (hD : ∀ p : Int, 0 ≤ p → p < x → LD t p (n0 p) (ld p)) (hP : GP x (fS x t n0 ld) (fG x t n0 ld) P K) : ∀ (v k : Nat) (B : ms), k + v = K → B.1 367 2 = x → MFw B x (fwA x t n0 ld x.toNat) x.toNat → MTk B (tkF (fS x t n0 ld) (fG x t n0 ld) P) k → ∃ B', EX XTm B B' ∧ MTk B' (tkF (fS x t n0 ld) (fG x t n0 ld) P) K ∧ EV q 307 212 [some (.ref 367), some (vI (P k)), none, none, none, none, none] [] B none B' := by
  have rg := fS_r hx hL hD
  have le := GP_le hP (fun p p0 p1 => (rg p p0 p1).1)
  have lx := hx.2
  have wx : w32 x = x := w32_of (by omega)
  intro v
  induction v with
  | zero =>
    intro k B hk h2 hF hT
    have e : k = K := by omega
    subst e
    refine ⟨B, EX.refl _ B, hT, vc_MD_parseLeast_212 _ ?_⟩
    rw [h2, hP.2.1]
    exact cY (Int.le_refl _) ⟨rfl, rfl⟩
  | succ v ih =>
    intro k B hk h2 hF hT
    have hp := hP.2.2 k (by omega)
    have lk := (le k (by omega)).1
    have ek : tkF (fS x t n0 ld) (fG x t n0 ld) P k = (fS x t n0 ld (P k), fG x t n0 ld (P k), P k) := by unfold tkF; rw [show ((k : Int)).toNat = k by omega]
    obtain ⟨B1, b1, b2, b3⟩ := md_token (q := q) (n := k) (by omega) ek hT
    have at1 : ∀ (a : Nat) (i : Int), (a = 367 ∧ i = 2) ∨ a = 395 ∨ a = 396 ∨ a = 397 → B1.1 a i = B.1 a i := fun a i y => b1.2 a i (by unfold XTm; omega)
    obtain ⟨B', g1, g2, g3⟩ := ih (k + 1) B1 (by omega) (by rw [at1 367 2 (by omega)]; exact h2) (fun i h1 h2 => by rw [at1 395 i (by omega), at1 396 i (by omega), at1 397 i (by omega)]; exact hF i h1 h2) (by rw [show ((k + 1 : Nat) : Int) = (k : Int) + 1 by omega]; exact b2)
    have f := (hF (P k) (by omega) (by omega)).2 hp.1.2
    have f20 : B.1 396 (P k) = fS x t n0 ld (P k) := f.1
    have f21 : B.1 397 (P k) = fG x t n0 ld (P k) := f.2
    rw [hp.2] at g3
    refine ⟨B', b1.trans g1, g2, vc_MD_parseLeast_212 _ ?_⟩
    rw [h2, wx, w32_of (x := P k) (by omega), f20, f21]
    refine cNo (by omega) ⟨by omega, by omega, B1, b3, by omega, ?_⟩
    rw [at1 396 (P k) (by omega), f20]
    exact g3
end PFewC
