/-! open, kind 10: ODDS, a bit, an octet, all -/
section OddsP
variable {q : Nat × (Nat → Int32)} {en : Int}
def OC (S A : ms) (o : Nat) (en : Int) (s : Ob) : Prop := ∃ S', EY (fun a _ => a = 28) S S' ∧ S'.2.1 22 8 = s.2.1 ∧ S'.2.1 22 7 = s.2.2.1 ∧ (∀ k : Int, 0 ≤ k → k < 65536 → S'.1 28 k = s.2.2.2 k) ∧ CR S' A o en s.1
def OM (S B : ms) (en : Int) (st : Rd) (r : Int) (od : Int → Int) : Prop := ∃ S', EY (fun a _ => a = 405) S S' ∧ S'.2.1 367 64 = r ∧ (∀ k : Int, 0 ≤ k → k < 65536 → S'.1 405 k = od k) ∧ MR S' B en st
theorem OC_8 {S A : ms} {o : Nat} {st : Rd} {c r : Int} {od : Int → Int} (v : Int) (h : OC S A o en (st, c, r, od)) : OC S (wJ A 22 8 v) o en (st, v, r, od) := by
  obtain ⟨S', h1, h2, h3, h4, h5⟩ := h
  refine ⟨wJ S' 22 8 v, ⟨h1.1, h1.2⟩, ?_, ?_, h4, CR_J _ _ _ h5⟩
  · show (if 22 = 22 ∧ (8 : Int) = 8 then v else S'.2.1 22 8) = v
    rw [if_pos ⟨rfl, rfl⟩]
  · show (if 22 = 22 ∧ (7 : Int) = 8 then v else S'.2.1 22 7) = r
    rw [if_neg (by decide)]
    exact h3
theorem OC_7 {S A : ms} {o : Nat} {st : Rd} {c r : Int} {od : Int → Int} (v : Int) (h : OC S A o en (st, c, r, od)) : OC S (wJ A 22 7 v) o en (st, c, v, od) := by
  obtain ⟨S', h1, h2, h3, h4, h5⟩ := h
  refine ⟨wJ S' 22 7 v, ⟨h1.1, h1.2⟩, ?_, ?_, h4, CR_J _ _ _ h5⟩
  · show (if 22 = 22 ∧ (8 : Int) = 7 then v else S'.2.1 22 8) = c
    rw [if_neg (by decide)]
    exact h2
  · show (if 22 = 22 ∧ (7 : Int) = 7 then v else S'.2.1 22 7) = v
    rw [if_pos ⟨rfl, rfl⟩]
theorem OC_o {S A : ms} {o : Nat} {st : Rd} {c r : Int} {od : Int → Int} (w v : Int) (ho : (300 < o ∨ o = 7)) (h : OC S A o en (st, c, r, od)) : OC S (wI A 28 w v) o en (st, c, r, fun k => if k = w then v else od k) := by
  obtain ⟨S', h1, h2, h3, h4, h5⟩ := h
  refine ⟨wI S' 28 w v, ⟨h1.1, fun a k n => ?_⟩, h2, h3, fun k k0 k1 => ?_, CR_I _ _ (by decide) (by omega) (by omega) ho h5⟩
  · rw [rI_I, if_neg (fun y => n y.1)]
    exact h1.2 a k n
  · rw [rI_I]
    show _ = if k = w then v else od k
    by_cases e : k = w
    · rw [if_pos ⟨rfl, e⟩, if_pos e]
    · rw [if_neg (fun y => e y.2), if_neg e]
      exact h4 k k0 k1
theorem OC_rd {S A : ms} {o : Nat} {s : Ob} {k : Int} (ho : (300 < o ∨ o = 7)) (h : OC S A o en s) : A.2.1 22 8 = s.2.1 ∧ A.2.1 22 7 = s.2.2.1 ∧ (0 ≤ k → k < 65536 → A.1 28 k = s.2.2.2 k) := by
  obtain ⟨S', h1, h2, h3, h4, h5⟩ := h
  refine ⟨by rw [h5.1]; exact h2, by rw [h5.1]; exact h3, fun k0 k1 => ?_⟩
  rw [h5.2.2.2 28 k (by omega) (by omega) (by omega)]
  exact h4 k k0 k1
theorem OM_r {S B : ms} {st : Rd} {r : Int} {od : Int → Int} (v : Int) (h : OM S B en st r od) : OM S (wJ B 367 64 v) en st v od := by
  obtain ⟨S', h1, h2, h3, h4⟩ := h
  refine ⟨wJ S' 367 64 v, ⟨h1.1, h1.2⟩, ?_, h3, MR_J _ _ _ h4⟩
  show (if 367 = 367 ∧ (64 : Int) = 64 then v else S'.2.1 367 64) = v
  rw [if_pos ⟨rfl, rfl⟩]
theorem OM_o {S B : ms} {st : Rd} {r : Int} {od : Int → Int} (w v : Int) (h : OM S B en st r od) : OM S (wI B 405 w v) en st r (fun k => if k = w then v else od k) := by
  obtain ⟨S', h1, h2, h3, h4⟩ := h
  refine ⟨wI S' 405 w v, ⟨h1.1, fun a k n => ?_⟩, h2, fun k k0 k1 => ?_, MR_I _ _ (by decide) (by decide) h4⟩
  · rw [rI_I, if_neg (fun y => n y.1)]
    exact h1.2 a k n
  · rw [rI_I]
    show _ = if k = w then v else od k
    by_cases e : k = w
    · rw [if_pos ⟨rfl, e⟩, if_pos e]
    · rw [if_neg (fun y => e y.2), if_neg e]
      exact h3 k k0 k1
theorem OM_rd {S B : ms} {st : Rd} {r k : Int} {od : Int → Int} (h : OM S B en st r od) : B.2.1 367 64 = r ∧ (0 ≤ k → k < 65536 → B.1 405 k = od k) := by
  obtain ⟨S', h1, h2, h3, h4⟩ := h
  refine ⟨by rw [h4.1]; exact h2, fun k0 k1 => ?_⟩
  rw [h4.2.2.2 405 k (by omega) (by decide)]
  exact h3 k k0 k1
/-- openBit(w) -/
theorem oc_bit {S A : ms} {o : Nat} {t : Int → Int} {s : Ob} {w : Int} (hC : RdC S o en t) (ht : ∀ k : Int, 0 ≤ k → k < en → 0 ≤ t k ∧ t k < 256) (hw : 0 ≤ w ∧ w < 65536) (hb : obR s) (hr : rdR en s.1) (h : OC S A o en s) : ∃ A', EV q 172 0 [some (.ref 22), some (vI w), some (.ref 9), none, none, none, none] [] A (some (vI (obt s w))) A' ∧ OC S A' o en (onx t en s w) := by
  have ho := hC.2.2.1
  obtain ⟨e8, e7, eo⟩ := OC_rd (k := w) ho h
  obtain ⟨g1, g2, g3⟩ := ob_rg (w := w) hb
  have b1 := hb.1
  have b2 := hb.2.1
  have b3 := hb.2.2 w
  have ww : w32 w = w := w32_of (by omega)
  have wod : w32 (s.2.2.2 w) = s.2.2.2 w := w32_of (by omega)
  have ebd : A.2.1 22 7 % 18446744073709551616 / 2048 * w32 (A.1 28 (w32 w)) = obd s w := by
    rw [e7, ww, eo hw.1 hw.2, wod]
    unfold obd
    rw [show s.2.2.1 % 18446744073709551616 = s.2.2.1 by omega]
  have wbd : w64 (obd s w) = obd s w := w64_of (by omega)
  have wcd : w64 s.2.1 = s.2.1 := w64_of (by omega)
  have w32' : w32 32 = 32 := by decide
  -- behind the odds: the range may be too small
  have tail : ∀ (A1 : ms) (x3 x5 : Int), OC S A1 o en (s.1, oc1 s w, or1 s w, oo s w) → ∃ A', EV q 172 75 [some (.ref 22), some (vI w), some (.ref 9), some (vL x3), none, some (vI x5), some (vI 0)] [] A1 (some (vI x5)) A' ∧ OC S A' o en (onx t en s w) := by
    intro A1 x3 x5 h1
    have wr1 : w64 (or1 s w) = or1 s w := w64_of (by omega)
    have w24 : w64 16777216 = 16777216 := by decide
    have e71 : A1.2.1 22 7 = or1 s w := (OC_rd (k := 0) ho h1).2.1
    have e81 : A1.2.1 22 8 = oc1 s w := (OC_rd (k := 0) ho h1).1
    unfold onx
    by_cases c : or1 s w < 16777216
    · rw [if_pos c]
      obtain ⟨S', j1, j2, j3, j4, j5⟩ := h1
      obtain ⟨A2, k1, k2⟩ := sp_take (q := q) (RdC_ey hC j1 (fun _ => by decide)) hr j5
      have tr := rdTake_rg hr ht
      obtain ⟨x, ex⟩ : ∃ x : Int, x = (rdTake t en s.1).1 := ⟨_, rfl⟩
      rw [← ex] at tr k1
      rw [← ex]
      have wx : w32 x = x := w32_of (by omega)
      have h2 : OC S A2 o en ((rdTake t en s.1).2, oc1 s w, or1 s w, oo s w) := ⟨S', j1, j2, j3, j4, k2⟩
      have h3 := OC_7 (or1 s w * 256) (OC_8 ((oc1 s w * 256 + x) % 4294967296) h2)
      refine ⟨_, vc_Plain_openBit_75 _ _ _ _ ?_, h3⟩
      rw [e71, wr1, w24, e81]
      refine cNo (by decide) (cNo (by omega) ⟨x, A2, k1, fun S4 f4 S5 f5 => ?_⟩)
      rw [wx, lO_by (by omega) tr] at f4
      have e4 : S4.2.1 22 7 = or1 s w := by
        rw [f4]
        show (if 22 = 22 ∧ (7 : Int) = 8 then ((oc1 s w * 256 + x) % 4294967296) else A2.2.1 22 7) = or1 s w
        rw [if_neg (by decide)]
        exact (OC_rd (k := 0) ho h2).2.1
      rw [e4] at f5
      subst f4 f5
      refine vc_Plain_openBit_75 _ _ _ _ ?_
      have e7' := (OC_rd (k := 0) ho h3).2.1
      rw [e7']
      have wr2 : w64 (or1 s w * 256) = or1 s w * 256 := w64_of (by omega)
      show (4 ≤ w32 (0 + 1) → _) ∧ (¬ 4 ≤ w32 (0 + 1) → (w64 16777216 ≤ w64 (or1 s w * 256) → _) ∧ _)
      rw [wr2, w24]
      exact cNo (by decide) (cY (by omega) ⟨rfl, rfl⟩)
    · rw [if_neg c]
      refine ⟨A1, vc_Plain_openBit_75 _ _ _ _ ?_, h1⟩
      rw [e71, wr1, w24]
      exact cNo (by decide) (cY (by omega) ⟨rfl, rfl⟩)
  by_cases c : obd s w ≤ s.2.1
  · have eb : obt s w = 1 := by unfold obt; rw [if_pos c]
    have ec : oc1 s w = s.2.1 - obd s w := by unfold oc1; rw [if_pos c]
    have er : or1 s w = s.2.2.1 - obd s w := by unfold or1; rw [if_pos c]
    have ev : ov s w = s.2.2.2 w - s.2.2.2 w / 32 := by unfold ov; rw [if_pos c]
    have h1 : OC S (wJ (wJ A 22 8 (oc1 s w)) 22 7 (or1 s w)) o en (s.1, oc1 s w, or1 s w, s.2.2.2) := OC_7 (or1 s w) (OC_8 (oc1 s w) h)
    have h2 : OC S (wI (wJ (wJ A 22 8 (oc1 s w)) 22 7 (or1 s w)) 28 w (ov s w)) o en (s.1, oc1 s w, or1 s w, oo s w) := OC_o w (ov s w) ho h1
    obtain ⟨A', k1, k2⟩ := tail _ (obd s w) 1 h2
    refine ⟨A', vc_Plain_openBit _ ?_, k2⟩
    rw [ebd, wbd, e8, wcd, eb, ww]
    refine ⟨by omega, cY c (vc_Plain_openBit_30 _ _ _ (cY (by decide) (fun S1 f1 S2 f2 => ?_)))⟩
    rw [e8, ← ec] at f1
    have e4 : S1.2.1 22 7 = s.2.2.1 := by
      rw [f1]
      show (if 22 = 22 ∧ (7 : Int) = 8 then oc1 s w else A.2.1 22 7) = s.2.2.1
      rw [if_neg (by decide), e7]
    rw [e4, ← er] at f2
    subst f1 f2
    refine vc_Plain_openBit_65 _ _ _ ⟨_, vc_Plain_moveOdds _ _ (cY (by decide) ?_), k1⟩
    have e5 : (wJ (wJ A 22 8 (oc1 s w)) 22 7 (or1 s w)).1 28 w = s.2.2.2 w := eo hw.1 hw.2
    rw [ww, e5, wod, w32', Int.tdiv_eq_ediv_of_nonneg (by omega), ← ev]
    exact ⟨by omega, by omega, by omega, fun S4 f4 => ⟨rfl, f4.symm⟩⟩
  · have eb : obt s w = 0 := by unfold obt; rw [if_neg c]
    have ec : oc1 s w = s.2.1 := by unfold oc1; rw [if_neg c]
    have er : or1 s w = obd s w := by unfold or1; rw [if_neg c]
    have ev : ov s w = s.2.2.2 w + (2048 - s.2.2.2 w) / 32 := by unfold ov; rw [if_neg c]
    have h1 : OC S (wJ A 22 7 (or1 s w)) o en (s.1, s.2.1, or1 s w, s.2.2.2) := OC_7 (or1 s w) h
    rw [← ec] at h1
    have h2 : OC S (wI (wJ A 22 7 (or1 s w)) 28 w (ov s w)) o en (s.1, oc1 s w, or1 s w, oo s w) := OC_o w (ov s w) ho h1
    obtain ⟨A', k1, k2⟩ := tail _ (obd s w) 0 h2
    refine ⟨A', vc_Plain_openBit _ ?_, k2⟩
    rw [ebd, wbd, e8, wcd, eb, ww]
    refine ⟨by omega, cNo c (vc_Plain_openBit_30 _ _ _ (cNN (by decide) (fun S1 f1 => ?_)))⟩
    rw [← er] at f1
    subst f1
    refine vc_Plain_openBit_65 _ _ _ ⟨_, vc_Plain_moveOdds _ _ (cNN (by decide) ?_), k1⟩
    have e5 : (wJ A 22 7 (or1 s w)).1 28 w = s.2.2.2 w := eo hw.1 hw.2
    have w20 : w32 (2048 - s.2.2.2 w) = 2048 - s.2.2.2 w := w32_of (by omega)
    rw [ww, e5, w20, w32', Int.tdiv_eq_ediv_of_nonneg (by omega), ← ev]
    exact ⟨by omega, by omega, by omega, fun S4 f4 => ⟨rfl, f4.symm⟩⟩
end OddsP
