/-! open, kind 10: ODDS, the reference's bit; an octet, all -/
section OddsQ
variable {q : Nat × (Nat → Int32)} {en : Int}
theorem om_bit {S B : ms} {t : Int → Int} {s : Ob} {bf nd x1 x6 : Int} {k : Nat} {P : ms → Prop} (he : en ≤ 6000) (hC : RdM S en t) (ht : ∀ k : Int, 0 ≤ k → k < en → 0 ≤ t k ∧ t k < 256) (hw : 0 ≤ 256 * bf + nd ∧ 256 * bf + nd < 65536) (hk : k < 8) (hb : obR s) (hr : rdR en s.1) (c0 : s.1.1 = 0) (h : OM S B en s.1 s.2.2.1 s.2.2.2) (nx : ∀ B', OM S B' en (onx t en s (256 * bf + nd)).1 (onx t en s (256 * bf + nd)).2.2.1 (onx t en s (256 * bf + nd)).2.2.2 → ∃ T, EV q 367 71 [some (.ref 367), some (vL x1), none, some (vL (onx t en s (256 * bf + nd)).2.1), none, some (vI bf), some (vL x6), none, some (vI (2 * nd + obt s (256 * bf + nd))), some (vI ((k : Int) + 1)), none, none, none, none] [] B' none T ∧ P T) : ∃ T, EV q 367 71 [some (.ref 367), some (vL x1), none, some (vL s.2.1), none, some (vI bf), some (vL x6), none, some (vI nd), some (vI k), none, none, none, none] [] B none T ∧ P T := by
  obtain ⟨w, ew⟩ : ∃ w : Int, w = 256 * bf + nd := ⟨_, rfl⟩
  rw [← ew] at hw nx
  obtain ⟨e7, eo⟩ := OM_rd (k := w) h
  obtain ⟨g1, g2, g3⟩ := ob_rg (w := w) hb
  have b1 := hb.1
  have b2 := hb.2.1
  have b3 := hb.2.2 w
  have ww : w32 w = w := w32_of (by omega)
  have wod : w32 (s.2.2.2 w) = s.2.2.2 w := w32_of (by omega)
  have w20 : w64 2048 = 2048 := by decide
  have wrr : w64 s.2.2.1 = s.2.2.1 := w64_of (by omega)
  have ebd : Int.tdiv (w64 (B.2.1 367 64)) (w64 2048) * w32 (B.1 405 w) = obd s w := by
    rw [e7, eo hw.1 hw.2, wod, wrr, w20, Int.tdiv_eq_ediv_of_nonneg (by omega)]
    rfl
  have wbd : w64 (obd s w) = obd s w := w64_of (by omega)
  have wcd : w64 s.2.1 = s.2.1 := w64_of (by omega)
  have w32' : w32 32 = 32 := by decide
  have wk : Unit → w32 (k : Int) = k := fun _ => w32_of (by omega)
  have k8 : ¬ 8 ≤ (k : Int) := by omega
  obtain ⟨S', i1, i2, i3, i4⟩ := id h
  have kf := md_fine (q := q) hr i4
  rw [if_pos c0] at kf
  -- behind the odds
  have tail : ∀ (B1 : ms), OM S B1 en s.1 (or1 s w) (oo s w) → ∃ T, EV q 367 203 [some (.ref 367), some (vL x1), none, some (vL (oc1 s w)), none, some (vI bf), some (vL x6), none, some (vI nd), some (vI k), some (vI w), some (vL (obd s w)), none, some (vI (obt s w))] [] B1 none T ∧ P T := by
    intro B1 h1
    have wr1 : w64 (or1 s w) = or1 s w := w64_of (by omega)
    have w24 : w64 16777216 = 16777216 := by decide
    have e71 : B1.2.1 367 64 = or1 s w := (OM_rd (k := 0) h1).1
    unfold onx at nx
    by_cases c : or1 s w < 16777216
    · rw [if_pos c] at nx
      obtain ⟨S1, j1, j2, j3, j4⟩ := id h1
      obtain ⟨B2, k1, k2⟩ := md_take (q := q) (RdM_ey hC j1 (fun _ => by decide)) hr j4
      have tr := rdTake_rg hr ht
      obtain ⟨x, ex⟩ : ∃ x : Int, x = (rdTake t en s.1).1 := ⟨_, rfl⟩
      rw [← ex] at tr k1 nx
      have wx : w32 x = x := w32_of (by omega)
      have h2 : OM S B2 en (rdTake t en s.1).2 (or1 s w) (oo s w) := ⟨S1, j1, j2, j3, k2⟩
      have h3 := OM_r (or1 s w * 256) h2
      obtain ⟨T, l1, l2⟩ := nx _ h3
      have kf1 := md_fine (q := q) hr j4
      rw [if_pos c0] at kf1
      refine ⟨T, vc_MD_openOdds_203 _ _ _ _ _ _ _ _ _ ?_, l2⟩
      rw [e71, wr1, w24]
      refine cNo (by omega) ⟨1, B1, kf1, cNo (by decide) ⟨x, B2, k1, fun S7 f7 => ?_⟩⟩
      rw [(OM_rd (k := 0) h2).1] at f7
      subst f7
      have el : lO (oc1 s w * 256 % 4294967296) (w32 x) = (oc1 s w * 256 + x) % 4294967296 := by
        rw [wx, show oc1 s w * 256 % 4294967296 = oc1 s w % 16777216 * 256 by omega, lO_by (by omega) tr]
        omega
      rw [el]
      refine vc_MD_openOdds_203 _ _ _ _ _ _ _ _ _ ?_
      have wr2 : w64 (or1 s w * 256) = or1 s w * 256 := w64_of (by omega)
      rw [(OM_rd (k := 0) h3).1, wr2, w24]
      exact cY (by omega) (vc_MD_openOdds_250 _ _ _ _ _ _ _ _ _ l1)
    · rw [if_neg c] at nx
      obtain ⟨T, l1, l2⟩ := nx B1 h1
      refine ⟨T, vc_MD_openOdds_203 _ _ _ _ _ _ _ _ _ ?_, l2⟩
      rw [e71, wr1, w24]
      exact cY (by omega) (vc_MD_openOdds_250 _ _ _ _ _ _ _ _ _ l1)
  by_cases c : obd s w ≤ s.2.1
  · have eb : obt s w = 1 := by unfold obt; rw [if_pos c]
    have ec : oc1 s w = s.2.1 - obd s w := by unfold oc1; rw [if_pos c]
    have er : or1 s w = s.2.2.1 - obd s w := by unfold or1; rw [if_pos c]
    have ev : ov s w = s.2.2.2 w - s.2.2.2 w / 32 := by unfold ov; rw [if_pos c]
    have h1 := OM_o w (ov s w) (OM_r (or1 s w) h)
    obtain ⟨T, k1, k2⟩ := tail _ h1
    refine ⟨T, vc_MD_openOdds_71 _ _ _ _ _ _ ?_, k2⟩
    rw [wk (), ← ew, ww, wcd]
    refine cNo k8 ⟨1, B, kf, cNo (by decide) ⟨by omega, ?_⟩⟩
    rw [ebd, wbd]
    refine cY c (vc_MD_openOdds_127 _ _ _ _ _ _ _ _ _ (cY (by decide) (fun S1 f1 => ?_)))
    rw [e7, ← er] at f1
    subst f1
    have e5 : (wJ B 367 64 (or1 s w)).1 405 w = s.2.2.2 w := eo hw.1 hw.2
    rw [ww, e5, wod, w32', Int.tdiv_eq_ediv_of_nonneg (by omega), ← ev, ← ec]
    refine ⟨by omega, by omega, by omega, fun S5 f5 => ?_⟩
    subst f5
    rw [← eb]
    exact k1
  · have eb : obt s w = 0 := by unfold obt; rw [if_neg c]
    have ec : oc1 s w = s.2.1 := by unfold oc1; rw [if_neg c]
    have er : or1 s w = obd s w := by unfold or1; rw [if_neg c]
    have ev : ov s w = s.2.2.2 w + (2048 - s.2.2.2 w) / 32 := by unfold ov; rw [if_neg c]
    have h1 := OM_o w (ov s w) (OM_r (or1 s w) h)
    obtain ⟨T, k1, k2⟩ := tail _ h1
    rw [ec] at k1
    refine ⟨T, vc_MD_openOdds_71 _ _ _ _ _ _ ?_, k2⟩
    rw [wk (), ← ew, ww, wcd]
    refine cNo k8 ⟨1, B, kf, cNo (by decide) ⟨by omega, ?_⟩⟩
    rw [ebd, wbd]
    refine cNo c (vc_MD_openOdds_127 _ _ _ _ _ _ _ _ _ (cNN (by decide) (fun S1 f1 => ?_)))
    rw [← er] at f1
    subst f1
    have e5 : (wJ B 367 64 (or1 s w)).1 405 w = s.2.2.2 w := eo hw.1 hw.2
    have w21 : w32 (2048 - s.2.2.2 w) = 2048 - s.2.2.2 w := w32_of (by omega)
    rw [ww, e5, w21, w32', Int.tdiv_eq_ediv_of_nonneg (by omega), ← ev]
    refine ⟨by omega, by omega, by omega, fun S5 f5 => ?_⟩
    subst f5
    rw [← eb]
    exact k1
/-- the bits of an octet: both sides -/
theorem od_oct {t : Int → Int} {bf : Int} (he : en ≤ 6000) (ht : ∀ k : Int, 0 ≤ k → k < en → 0 ≤ t k ∧ t k < 256) (hbf : 0 ≤ bf ∧ bf < 256) : ∀ (m k : Nat) (nd : Int) (s : Ob), k + m = 8 → (1 ≤ nd ∧ nd < (2 : Int) ^ (k + 1)) → obR s → rdR en s.1 → ∃ (s' : Ob) (nd' : Int), (obR s' ∧ rdR en s'.1 ∧ Fw s.1 s'.1) ∧ (∀ (S A : ms) (o : Nat) (x2 x4 : Int) (P : ms → Prop), RdC S o en t → OC S A o en s → (∀ A1, OC S A1 o en s' → ∃ A', EV q 171 57 [some (.ref 22), some (.ref 9), some (vI x2), some (vI bf), some (vI x4), some (vI nd'), some (vI 8)] [] A1 none A' ∧ P A') → ∃ A', EV q 171 57 [some (.ref 22), some (.ref 9), some (vI x2), some (vI bf), some (vI x4), some (vI nd), some (vI k)] [] A none A' ∧ P A') ∧ ∀ (S B : ms) (x1 x6 : Int) (P : ms → Prop), RdM S en t → OM S B en s.1 s.2.2.1 s.2.2.2 → (∀ B1 r od, OM S B1 en s'.1 r od → ∀ c9 n9 k9 : Int, (s'.1.1 = 0 → r = s'.2.2.1 ∧ od = s'.2.2.2 ∧ c9 = s'.2.1 ∧ n9 = nd' ∧ k9 = 8) → ∃ T, EV q 367 265 [some (.ref 367), some (vL x1), none, some (vL c9), none, some (vI bf), some (vL x6), none, some (vI n9), some (vI k9), none, none, none, none] [] B1 none T ∧ P T) → ∃ T, EV q 367 71 [some (.ref 367), some (vL x1), none, some (vL s.2.1), none, some (vI bf), some (vL x6), none, some (vI nd), some (vI k), none, none, none, none] [] B none T ∧ P T := by
  intro m
  induction m with
  | zero =>
    intro k nd s hk hn hb hr
    have ek : k = 8 := by omega
    subst ek
    refine ⟨s, nd, ⟨hb, hr, Fw_r _⟩, fun S A o x2 x4 P hC h nx => nx A h, fun S B x1 x6 P hC h nx => ?_⟩
    obtain ⟨T, k1, k2⟩ := nx B _ _ h s.2.1 nd 8 (fun _ => ⟨rfl, rfl, rfl, rfl, rfl⟩)
    exact ⟨T, vc_MD_openOdds_71 _ _ _ _ _ _ (cY (by decide) k1), k2⟩
  | succ m ih =>
    intro k nd s hk hn hb hr
    have p8 : (2 : Int) ^ (k + 1) ≤ 256 := by
      have hi : k = 0 ∨ k = 1 ∨ k = 2 ∨ k = 3 ∨ k = 4 ∨ k = 5 ∨ k = 6 ∨ k = 7 := by omega
      rcases hi with e | e | e | e | e | e | e | e <;> subst e <;> decide
    have ps : (2 : Int) ^ (k + 1 + 1) = (2 : Int) ^ (k + 1) * 2 := Int.pow_succ _ _
    obtain ⟨w, ew⟩ : ∃ w : Int, w = 256 * bf + nd := ⟨_, rfl⟩
    obtain ⟨g1, g2, g3⟩ := obR_nx (w := w) hb hr ht
    have bt : 0 ≤ obt s w ∧ obt s w ≤ 1 := by
      unfold obt
      split <;> omega
    obtain ⟨s', nd', ⟨a1, a2, a3⟩, a4, a5⟩ := ih (k + 1) (2 * nd + obt s w) (onx t en s w) (by omega) (by rw [ps]; omega) g1 g2
    have wk : Unit → w32 (k : Int) = k := fun _ => w32_of (by omega)
    have k8 : ¬ 8 ≤ (k : Int) := by omega
    refine ⟨s', nd', ⟨a1, a2, Fw_t g3 a3⟩, fun S A o x2 x4 P hC h nx => ?_, fun S B x1 x6 P hC h nx => ?_⟩
    · obtain ⟨A1, k1, k2⟩ := oc_bit (q := q) (w := w) hC ht (by omega) hb hr h
      obtain ⟨A', k3, k4⟩ := a4 S A1 o x2 x4 P hC k2 nx
      rw [show ((k + 1 : Nat) : Int) = (k : Int) + 1 by omega] at k3
      refine ⟨A', vc_Plain_openOdds_57 _ _ _ _ _ ?_, k4⟩
      rw [wk (), show bf * 256 + nd = w by omega]
      refine cNo k8 ⟨_, A1, k1, ?_⟩
      rw [show nd * 2 + obt s w = 2 * nd + obt s w by omega]
      exact k3
    · by_cases c0 : s.1.1 = 0
      · refine om_bit (q := q) (s := s) (t := t) he hC ht (by omega) (by omega) hb hr c0 h (fun B' h' => ?_)
        rw [← ew] at h' ⊢
        obtain ⟨T, k3, k4⟩ := a5 S B' x1 x6 P hC h' nx
        rw [show ((k + 1 : Nat) : Int) = (k : Int) + 1 by omega] at k3
        exact ⟨T, k3, k4⟩
      · have es : s'.1 = s.1 := (Fw_t g3 a3).1 c0
        obtain ⟨S', i1, i2, i3, i4⟩ := id h
        have kf := md_fine (q := q) hr i4
        rw [if_neg c0] at kf
        obtain ⟨T, k3, k4⟩ := nx B s.2.2.1 s.2.2.2 (by rw [es]; exact h) s.2.1 nd k (fun y => absurd (by rw [← es]; exact y) c0)
        refine ⟨T, vc_MD_openOdds_71 _ _ _ _ _ _ ?_, k4⟩
        rw [wk ()]
        exact cNo k8 ⟨0, B, kf, cY (by decide) k3⟩
/-- all octets -/
theorem od_all {t : Int → Int} {n : Nat} (he : 0 ≤ en ∧ en ≤ 6000) (ht : ∀ k : Int, 0 ≤ k → k < en → 0 ≤ t k ∧ t k < 256) (hn : n < 65536) : ∀ (m i : Nat) (bf : Int) (s : Ob), i + m = n → (0 ≤ bf ∧ bf < 256) → obR s → rdR en s.1 → ∃ stf : Rd, rdR en stf ∧ (∀ (S A : ms) (o : Nat), RdC S o en t → OC S A o en s → ∃ (S' A' : ms), EY (fun a _ => a = 28) S S' ∧ EV q 171 38 [some (.ref 22), some (.ref 9), some (vI n), some (vI bf), some (vI i), none, none] [] A none A' ∧ CR S' A' o en stf) ∧ ∀ S B : ms, RdM S en t → OM S B en s.1 s.2.2.1 s.2.2.2 → ∃ (S' B' : ms), EY (fun a _ => a = 405) S S' ∧ EV q 367 51 [some (.ref 367), some (vL n), none, some (vL s.2.1), none, some (vI bf), some (vL i), none, none, none, none, none, none, none] [] B none B' ∧ MR S' B' en stf := by
  -- the end
  have fc : ∀ (S A : ms) (o : Nat) (s : Ob) (x2 x3 x4 : Int), rdR en s.1 → RdC S o en t → OC S A o en s → ∃ (S' A' : ms), EY (fun a _ => a = 28) S S' ∧ EV q 171 108 [some (.ref 22), some (.ref 9), some (vI x2), some (vI x3), some (vI x4), none, none] [] A none A' ∧ CR S' A' o en (rdEnd en s.1) := by
    intro S A o s x2 x3 x4 hr hC h
    obtain ⟨S', i1, i2, i3, i4, i5⟩ := h
    obtain ⟨A', k1, k2⟩ := sp_end (q := q) (RdC_ey hC i1 (fun _ => by decide)) hr i5
    exact ⟨S', A', i1, vc_Plain_openOdds_108 _ _ _ ⟨A', k1, rfl, rfl⟩, k2⟩
  have fm : ∀ (S B : ms) (st : Rd) (r : Int) (od : Int → Int) (x1 x3 x5 x6 : Int), rdR en st → OM S B en st r od → ∃ (S' B' : ms), EY (fun a _ => a = 405) S S' ∧ EV q 367 288 [some (.ref 367), some (vL x1), none, some (vL x3), none, some (vI x5), some (vL x6), none, none, none, none, none, none, none] [] B none B' ∧ MR S' B' en (rdEnd en st) := by
    intro S B st r od x1 x3 x5 x6 hr h
    obtain ⟨S', i1, i2, i3, i4⟩ := h
    obtain ⟨B', k1, k2⟩ := md_end (q := q) he.2 hr i4
    exact ⟨S', B', i1, vc_MD_openOdds_288 _ _ _ _ ⟨B', k1, rfl, rfl⟩, k2⟩
  intro m
  induction m with
  | zero =>
    intro i bf s hi hbf hb hr
    have e : i = n := by omega
    subst e
    refine ⟨rdEnd en s.1, rdR_end hr, fun S A o hC h => ?_, fun S B hC h => ?_⟩
    · obtain ⟨S', A', k1, k2, k3⟩ := fc S A o s i bf i hr hC h
      exact ⟨S', A', k1, vc_Plain_openOdds_38 _ _ _ (cY (Int.le_refl _) k2), k3⟩
    · obtain ⟨S', B', k1, k2, k3⟩ := fm S B _ _ _ i s.2.1 bf i hr h
      exact ⟨S', B', k1, vc_MD_openOdds_51 _ _ _ _ (cY (Int.le_refl _) k2), k3⟩
  | succ m ih =>
    intro i bf s hi hbf hb hr
    have wn : Unit → w32 ((n : Nat) : Int) = n := fun _ => w32_of (by omega)
    have wi : Unit → w32 ((i : Nat) : Int) = i := fun _ => w32_of (by omega)
    have wn2 : Unit → w64 ((n : Nat) : Int) = n := fun _ => w64_of (by omega)
    have wi2 : Unit → w64 ((i : Nat) : Int) = i := fun _ => w64_of (by omega)
    have z0 : ¬ (n : Int) ≤ i := by omega
    have wr : w32 s.1.1 = s.1.1 := w32_of (by have := hr.1; omega)
    by_cases c0 : s.1.1 ≠ 0
    · refine ⟨rdEnd en s.1, rdR_end hr, fun S A o hC h => ?_, fun S B hC h => ?_⟩
      · obtain ⟨S', A', k1, k2, k3⟩ := fc S A o s n bf i hr hC h
        refine ⟨S', A', k1, vc_Plain_openOdds_38 _ _ _ ?_, k3⟩
        obtain ⟨S1, _, _, _, _, i5⟩ := h
        rw [wn (), wi (), i5.2.1.2.1, wr]
        exact cNo z0 (cY c0 k2)
      · obtain ⟨S', B', k1, k2, k3⟩ := fm S B _ _ _ n s.2.1 bf i hr h
        obtain ⟨S1, _, _, _, i4⟩ := h
        have kf := md_fine (q := q) hr i4
        rw [if_neg c0] at kf
        refine ⟨S', B', k1, vc_MD_openOdds_51 _ _ _ _ ?_, k3⟩
        rw [wn2 (), wi2 ()]
        exact cNo z0 ⟨0, B, kf, cY (by decide) k2⟩
    · have c1 : s.1.1 = 0 := by omega
      obtain ⟨s', nd', ⟨a1, a2, a3⟩, a4, a5⟩ := od_oct (q := q) he.2 ht hbf 8 0 1 s (by omega) (by show (1 : Int) ≤ 1 ∧ (1 : Int) < 2; decide) hb hr
      obtain ⟨s2, es2⟩ : ∃ s2 : Ob, s2 = (rdEmit (nd' % 256) s'.1, s'.2.1, s'.2.2.1, s'.2.2.2) := ⟨_, rfl⟩
      have hr2 : rdR en s2.1 := by rw [es2]; exact rdR_emit a2
      have hb2 : obR s2 := by rw [es2]; exact a1
      -- what follows the octet
      obtain ⟨stf, rf, l1, l2, l3⟩ : ∃ stf : Rd, rdR en stf ∧ (∀ (S A : ms) (o : Nat), RdC S o en t → OC S A o en s2 → ∃ (S' A' : ms), EY (fun a _ => a = 28) S S' ∧ EV q 171 38 [some (.ref 22), some (.ref 9), some (vI n), some (vI (nd' % 256)), some (vI ((i + 1 : Nat) : Int)), none, none] [] A none A' ∧ CR S' A' o en stf) ∧ (∀ S B : ms, RdM S en t → OM S B en s2.1 s2.2.2.1 s2.2.2.2 → ∃ (S' B' : ms), EY (fun a _ => a = 405) S S' ∧ EV q 367 51 [some (.ref 367), some (vL n), none, some (vL s2.2.1), none, some (vI (nd' % 256)), some (vL ((i + 1 : Nat) : Int)), none, none, none, none, none, none, none] [] B none B' ∧ MR S' B' en stf) ∧ (s2.1.1 ≠ 0 → stf = rdEnd en s2.1) := by
        by_cases c2 : s2.1.1 ≠ 0
        · have wr2 : w32 s2.1.1 = s2.1.1 := w32_of (by have := hr2.1; omega)
          refine ⟨rdEnd en s2.1, rdR_end hr2, fun S A o hC h => ?_, fun S B hC h => ?_, fun _ => rfl⟩
          · obtain ⟨S', A', k1, k2, k3⟩ := fc S A o s2 n (nd' % 256) ((i + 1 : Nat) : Int) hr2 hC h
            refine ⟨S', A', k1, vc_Plain_openOdds_38 _ _ _ ⟨fun _ => k2, fun _ => ?_⟩, k3⟩
            obtain ⟨S1, _, _, _, _, i5⟩ := h
            rw [i5.2.1.2.1, wr2]
            exact cY c2 k2
          · obtain ⟨S', B', k1, k2, k3⟩ := fm S B _ _ _ n s2.2.1 (nd' % 256) ((i + 1 : Nat) : Int) hr2 h
            obtain ⟨S1, _, _, _, i4⟩ := h
            have kf := md_fine (q := q) hr2 i4
            rw [if_neg c2] at kf
            exact ⟨S', B', k1, vc_MD_openOdds_51 _ _ _ _ ⟨fun _ => k2, fun _ => ⟨0, B, kf, cY (by decide) k2⟩⟩, k3⟩
        · obtain ⟨stf, rf, l1, l2⟩ := ih (i + 1) (nd' % 256) s2 (by omega) (by omega) hb2 hr2
          exact ⟨stf, rf, l1, l2, fun y => absurd y c2⟩
      rw [show ((i + 1 : Nat) : Int) = (i : Int) + 1 by omega] at l1 l2
      refine ⟨stf, rf, fun S A o hC h => ?_, fun S B hC h => ?_⟩
      · obtain ⟨A', k1, S2, k2, k3⟩ := a4 S A o n i (fun A' => ∃ S', EY (fun a _ => a = 28) S S' ∧ CR S' A' o en stf) hC h (fun A1 h1 => by
          obtain ⟨S1, i1, i2, i3, i4, i5⟩ := id h1
          obtain ⟨A2, j1, j2⟩ := sp_emit (q := q) (v := nd' % 256) (RdC_ey hC i1 (fun _ => by decide)) a2 i5
          obtain ⟨S', A', j3, j4, j5⟩ := l1 S A2 o hC (by rw [es2]; exact ⟨S1, i1, i2, i3, i4, j2⟩)
          exact ⟨A', vc_Plain_openOdds_57 _ _ _ _ _ (cY (by decide) ⟨A2, j1, j4⟩), S', j3, j5⟩)
        refine ⟨S2, A', k2, vc_Plain_openOdds_38 _ _ _ ?_, k3⟩
        obtain ⟨S1, _, _, _, _, i5⟩ := h
        rw [wn (), wi (), i5.2.1.2.1, wr]
        exact cNo z0 (cNN c1 k1)
      · obtain ⟨B', k1, S2, k2, k3⟩ := a5 S B n i (fun B' => ∃ S', EY (fun a _ => a = 405) S S' ∧ MR S' B' en stf) hC h (fun B1 r od h1 c9 n9 k9 hc => by
          obtain ⟨S1, i1, i2, i3, i4⟩ := id h1
          obtain ⟨B2, j1, j2⟩ := md_emit (q := q) (v := n9 % 256) a2 he.2 i4
          by_cases c2 : s'.1.1 = 0
          · obtain ⟨y1, y2, y3, y4, y5⟩ := hc c2
            subst y1 y2 y3 y4 y5
            obtain ⟨S', B', j3, j4, j5⟩ := l2 S B2 hC (by rw [es2]; exact ⟨S1, i1, i2, i3, j2⟩)
            rw [show s2.2.1 = s'.2.1 by rw [es2]] at j4
            exact ⟨B', vc_MD_openOdds_265 _ _ _ _ _ _ ⟨B2, j1, j4⟩, S', j3, j5⟩
          · have e2 : s2.1 = s'.1 := by
              rw [es2]
              exact rdEmit_r c2
            rw [rdEmit_r c2] at j2
            have ef := l3 (by rw [e2]; exact c2)
            rw [e2] at ef
            obtain ⟨S', B', j3, j4, j5⟩ := fm S B2 s'.1 r od n c9 (n9 % 256) ((i : Int) + 1) a2 ⟨S1, i1, i2, i3, j2⟩
            have kf := md_fine (q := q) a2 j2
            rw [if_neg c2] at kf
            refine ⟨B', vc_MD_openOdds_265 _ _ _ _ _ _ ⟨B2, j1, vc_MD_openOdds_51 _ _ _ _ ⟨fun _ => j4, fun _ => ⟨0, B2, kf, cY (by decide) j4⟩⟩⟩, S', j3, ?_⟩
            rw [ef]
            exact j5)
        obtain ⟨S1, _, _, _, i4⟩ := h
        have kf := md_fine (q := q) hr i4
        rw [if_pos c1] at kf
        refine ⟨S2, B', k2, vc_MD_openOdds_51 _ _ _ _ ?_, k3⟩
        rw [wn2 (), wi2 ()]
        exact cNo z0 ⟨1, B, kf, cNo (by decide) k1⟩
/-- open(10) -/
theorem oj_odds {t : Int → Int} (he : 0 ≤ en ∧ en ≤ 6000) (ht : ∀ k : Int, 0 ≤ k → k < en → 0 ≤ t k ∧ t k < 256) : ∃ stf : Rd, rdR en stf ∧ OJ q en t 171 0 367 0 [some (.ref 22), some (.ref 9), none, none, none, none, none] [none, none, none, none, none, none, none, none, none, none, none, none, none] (fun a _ => a = 28) (fun a _ => a = 405) st0 stf := by
  obtain ⟨D, s1, ⟨a1, a1'⟩, a3, a4, a5⟩ := jhigh0 (q := q) ht (n := 2) (by omega) (rdR_0 he.1)
  obtain ⟨C, s2, ⟨b1, b1'⟩, b3, b4, b5⟩ := jhigh0 (q := q) ht (n := 4) (by omega) a1
  have a3' : 0 ≤ D ∧ D < 65536 := a3
  have b3' : 0 ≤ C ∧ C < 4294967296 := b3
  obtain ⟨n, en'⟩ : ∃ n : Nat, D = n := ⟨D.toNat, by omega⟩
  subst en'
  have hb : obR (s2, C, 4294967295, fun _ => 1024) := ⟨b3', (by decide : (16777216 : Int) ≤ 4294967295 ∧ (4294967295 : Int) < 4294967296), fun _ => (by decide : (31 : Int) ≤ 1024 ∧ (1024 : Int) ≤ 2017)⟩
  obtain ⟨stf, rf, l1, l2⟩ := od_all (q := q) (n := n) he ht (by omega) n 0 0 (s2, C, 4294967295, fun _ => 1024) (by omega) (by decide) hb b1
  refine ⟨stf, rf, fun S A o hC h => ?_, fun S B hC h => ?_⟩
  · obtain ⟨A1, k1, k2⟩ := a4 S A o hC h
    obtain ⟨A2, k3, k4⟩ := b4 S A1 o hC k2
    have ho := hC.2.2.1
    -- the odds are set
    have k5 := CR_J 22 7 4294967295 (CR_J 22 8 C k4)
    have kfill := sp_fillI (q := q) (S := wJ (wJ A2 22 8 C) 22 7 4294967295) (c := 28) (n1 := 65536) rfl (by decide) 1024
    obtain ⟨S1, eS1⟩ : ∃ S1, S1 = wC (wJ (wJ S 22 8 C) 22 7 4294967295) 28 0 (65536 : Nat) (fun _ => 1024) := ⟨_, rfl⟩
    obtain ⟨A3, eA3⟩ : ∃ A3, A3 = wC (wJ (wJ A2 22 8 C) 22 7 4294967295) 28 0 (65536 : Nat) (fun _ => 1024) := ⟨_, rfl⟩
    rw [← eA3] at kfill
    have k6 : CR S1 A3 o en s2 := by
      obtain ⟨h1, ⟨c1, c2, c3, c4, c5⟩, ⟨c6, c7⟩, h4⟩ := k5
      have q2 : ∀ (b : Nat) (j : Int), b ≠ 28 → A3.1 b j = (wJ (wJ A2 22 8 C) 22 7 4294967295).1 b j := fun b j n => by rw [eA3, wC_ne _ _ _ _ n]
      refine ⟨by rw [eA3, eS1]; exact h1, ⟨fun y => by rw [q2 _ _ (by decide)]; exact c1 y, by rw [q2 _ _ (by decide)]; exact c2, by rw [q2 _ _ (by decide)]; exact c3, fun y => by rw [q2 _ _ (by decide)]; exact c4 y, fun y => by rw [q2 _ _ (by decide), q2 _ _ (by decide), q2 _ _ (by decide)]; exact c5 y⟩, ⟨by rw [q2 _ _ (by omega)]; exact c6, fun j j0 j1 => by rw [q2 _ _ (by omega)]; exact c7 j j0 j1⟩, fun b j n1 n2 n3 => ?_⟩
      rw [eA3, eS1]
      show (if b = 28 ∧ 0 ≤ j ∧ j < 0 + ((65536 : Nat) : Int) then (1024 : Int) else (wJ (wJ A2 22 8 C) 22 7 4294967295).1 b j) = if b = 28 ∧ 0 ≤ j ∧ j < 0 + ((65536 : Nat) : Int) then (1024 : Int) else (wJ (wJ S 22 8 C) 22 7 4294967295).1 b j
      rw [h4 b j n1 n2 n3]
    obtain ⟨S', A', j1, j2, j3⟩ := l1 S A3 o hC ⟨S1, ⟨by rw [eS1]; rfl, fun a k n => by rw [eS1, wC_ne _ _ _ _ n]; rfl⟩, by rw [eS1]; show (if 22 = 22 ∧ (8 : Int) = 7 then 4294967295 else if 22 = 22 ∧ (8 : Int) = 8 then C else S.2.1 22 8) = C; rw [if_neg (by decide), if_pos ⟨rfl, rfl⟩], by rw [eS1]; show (if 22 = 22 ∧ (7 : Int) = 7 then 4294967295 else if 22 = 22 ∧ (7 : Int) = 8 then C else S.2.1 22 7) = 4294967295; rw [if_pos ⟨rfl, rfl⟩], fun k k0 k1 => by rw [eS1, wC_in _ (by omega) (by omega)], k6⟩
    exact ⟨S', A', j1, vc_Plain_openOdds ⟨_, A1, k1, _, A2, k3, fun S7 f7 S8 f8 => by subst f7 f8; exact ⟨A3, kfill, j2⟩⟩, _, _, j3⟩
  · obtain ⟨B1, k1, k2⟩ := a5 S B hC h
    obtain ⟨B2, k3, k4⟩ := b5 S B1 hC k2
    have lp : ∀ (m i : Nat) (U : ms), i + m = 65536 → (∃ S', EY (fun a _ => a = 405) S S' ∧ (∀ k : Int, 0 ≤ k → k < i → S'.1 405 k = 1024) ∧ MR S' U en s2) → ∃ (S' B' : ms), EY (fun a _ => a = 405) S S' ∧ EV q 367 15 [some (.ref 367), some (vL n), none, some (vL C), none, some (vI i), none, none, none, none, none, none, none, none] [] U none B' ∧ MR S' B' en stf := by
      intro m
      induction m with
      | zero =>
        intro i U hi hU
        have ei : i = 65536 := by omega
        subst ei
        obtain ⟨S1, i1, i2, i3⟩ := hU
        obtain ⟨S', B', j1, j2, j3⟩ := l2 S (wJ U 367 64 4294967295) hC ⟨wJ S1 367 64 4294967295, ⟨i1.1, i1.2⟩, by show (if 367 = 367 ∧ (64 : Int) = 64 then 4294967295 else S1.2.1 367 64) = 4294967295; rw [if_pos ⟨rfl, rfl⟩], fun k k0 k1 => i2 k k0 (by omega), MR_J _ _ _ i3⟩
        exact ⟨S', B', j1, vc_MD_openOdds_15 _ _ _ (cY (by decide) (fun S1 f1 => by subst f1; exact j2)), j3⟩
      | succ m ih =>
        intro i U hi hU
        obtain ⟨S1, i1, i2, i3⟩ := hU
        have wi : Unit → w32 ((i : Nat) : Int) = i := fun _ => w32_of (by omega)
        have z0 : ¬ 65536 ≤ (i : Int) := by omega
        obtain ⟨S', B', j1, j2, j3⟩ := ih (i + 1) (wI U 405 i 1024) (by omega) ⟨wI S1 405 i 1024, ⟨i1.1, fun a k n => by rw [rI_I, if_neg (fun y => n y.1)]; exact i1.2 a k n⟩, fun k k0 k1 => by
          rw [rI_I]
          by_cases c : k = i
          · rw [if_pos ⟨rfl, c⟩]
          · rw [if_neg (fun y => c y.2)]
            exact i2 k k0 (by omega), MR_I _ _ (by decide) (by decide) i3⟩
        rw [show ((i + 1 : Nat) : Int) = (i : Int) + 1 by omega] at j2
        refine ⟨S', B', j1, vc_MD_openOdds_15 _ _ _ ?_, j3⟩
        rw [wi ()]
        exact cNo z0 ⟨by omega, fun S3 f3 => by subst f3; exact j2⟩
    obtain ⟨S', B', j1, j2, j3⟩ := lp 65536 0 B2 (by omega) ⟨S, EY.refl _ _, fun k k0 k1 => absurd k1 (by omega), k4⟩
    exact ⟨S', B', j1, vc_MD_openOdds ⟨_, B1, k1, _, B2, k3, j2⟩, _, j3⟩
end OddsQ
