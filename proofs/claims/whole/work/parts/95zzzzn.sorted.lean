/-! open, kind 9: SORTED -/
section SrtK
variable {q : Nat × (Nat → Int32)} {en : Int}
theorem rdEnd_told {st : Rd} (c : st.1 ≠ 0) : rdEnd en st = st := by
  unfold rdEnd rdTellAt
  rw [if_pos c]
  split <;> rfl
theorem w32_sum {z s : Int} (hz : 0 ≤ z ∧ z < 4294967296) : w64 z = w64 (w32 s % 4294967296) ↔ w32 z = w32 s := by
  have a : w64 z = z := w64_of (by omega)
  have b : w64 (w32 s % 4294967296) = w32 s % 4294967296 := w64_of (by omega)
  rw [a, b]
  unfold w32
  omega
theorem xSM_T {S S1 : ms} (e : EX xSM S S1) (h : Tb3 S) : Tb3 S1 := fun t ht => by rw [e.2 373 _ (by unfold xSM; omega)]; exact h t ht
theorem CB_CF {S A : ms} {o : Nat} {t : Int → Int} {st : Rd} {u : Int} (h : CB S A o en t st u) : CF S A o en st := ⟨t, u, h⟩
theorem MB_MF {S B : ms} {st : Rd} {u : Int} (h : MB S B en st u) : MF S B en st := ⟨u, h⟩
/-- a rule told: the class -/
theorem so_125t {t : Int → Int} (he : 0 ≤ en ∧ en ≤ 6000) (ht : ∀ k : Int, 0 ≤ k → k < en → 0 ≤ t k ∧ t k < 256) {S A : ms} {o : Nat} {st : Rd} {h : Int} (c : st.1 ≠ 0) (hr : rdR en st) (hh : hR st h) (hS : S.1 9 7 = 1) (hC : RdC S o en t) (hA : CB S A o en t st h) : ∃ S1 A1, EX xSC S S1 ∧ CF S1 A1 o en st ∧ ∀ x2 x3 x4 x5 : Int, EV q 161 125 [some (.ref 94), some (.ref 9), some (vI x2), some (vI x3), some (vI x4), some (vL x5), none] [] A none A1 := by
  have wr : w32 st.1 = st.1 := w32_of (by have := hr.1; omega)
  obtain ⟨z, z', st', h', ⟨a1, a2, a3⟩, _, _, a6, _⟩ := jbkS (q := q) he ht hr hh
  have e := a2.1 c
  subst e
  obtain ⟨S1, A1, k1, k2, k3⟩ := a6 S A o hS hC hA
  refine ⟨S1, A1, k1, CB_CF k2, fun x2 x3 x4 x5 => vc_Sorted_openSorted_125 _ _ _ _ ⟨_, A, vc_Row_rotated _ _ ⟨rfl, rfl⟩, z, A1, k3, vc_Sorted_openSorted_52 _ _ _ ⟨fun _ => ⟨rfl, rfl⟩, fun _ => ?_⟩⟩⟩
  rw [k2.2.1.2.1, wr]
  exact cY c ⟨rfl, rfl⟩
/-- a rule told: the reference -/
theorem so_62t {t : Int → Int} (he : 0 ≤ en ∧ en ≤ 6000) (ht : ∀ k : Int, 0 ≤ k → k < en → 0 ≤ t k ∧ t k < 256) {S B : ms} {st : Rd} {h : Int} (c : st.1 ≠ 0) (hr : rdR en st) (hh : hR st h) (hS : S.1 367 18 = 1) (hC : RdM S en t) (hB : MB S B en st h) : ∃ B1, MF S B1 en st ∧ ∀ x1 x2 x3 : Int, EV q 362 62 [some (.ref 367), some (vI x1), some (vI x2), some (vI x3), none, none, none, none] [] B none B1 := by
  obtain ⟨z, z', st', h', ⟨a1, a2, a3, _⟩, _, _, _, a7⟩ := jbitsR0 (q := q) (hi := 1) he.2 ht (Or.inr rfl) (n := 32) (by omega) hr hh
  have e := a2.1 c
  subst e
  obtain ⟨B1, k1, k2⟩ := a7 S B hS hC hB
  obtain ⟨B2, k3, k4⟩ := mb_end (q := q) he.2 a1 a3 k2
  rw [rdEnd_told c] at k4
  have kf := md_fine (q := q) hr hB
  rw [if_neg c] at kf
  have kg := md_fine (q := q) a1 k2
  rw [if_neg c] at kg
  refine ⟨B2, MB_MF k4, fun x1 x2 x3 => ?_⟩
  have k187 : EV q 362 187 [some (.ref 367), some (vI x1), some (vI x2), some (vI x3), none, none, none, none] [] B none B2 := vc_MD_openSorted_187 _ _ _ ⟨z', B1, k1, 0, B1, kg, cY (by decide) (vc_MD_openSorted_215 _ _ _ _ ⟨B2, k3, rfl, rfl⟩)⟩
  exact vc_MD_openSorted_62 _ _ _ ⟨fun _ => k187, fun _ => ⟨0, B, kf, cY (by decide) k187⟩⟩
theorem jsrt {t : Int → Int} (he : 0 ≤ en ∧ en ≤ 6000) (ht : ∀ k : Int, 0 ≤ k → k < en → 0 ≤ t k ∧ t k < 256) : ∀ (fu i : Nat) (su : Int) (st : Rd) (h : Int), 8 * en - rdP st h < fu → i + fu ≤ 60000 → rdR en st → hR st h → ∃ st' : Rd, rdR en st' ∧ (∀ (S A : ms) (o : Nat), S.1 9 7 = 1 → RdC S o en t → CB S A o en t st h → ∃ S1 A1, EX xSC S S1 ∧ CF S1 A1 o en st' ∧ ∀ x2 : Int, EV q 161 52 [some (.ref 94), some (.ref 9), some (vI x2), some (vI su), some (vI i), none, none] [] A none A1) ∧ ∀ S B : ms, S.1 367 18 = 1 → RdM S en t → Tb3 S → MB S B en st h → ∃ S1 B1, EX xSM S S1 ∧ MF S1 B1 en st' ∧ ∀ x1 : Int, EV q 362 62 [some (.ref 367), some (vI x1), some (vI su), some (vI 1), none, none, none, none] [] B none B1 := by
  have wE : w64 25779555029136 = 25779555029136 := by decide
  have wB : w64 54156738319193 = 54156738319193 := by decide
  have tc : ∀ (S A : ms) (o : Nat) (st : Rd), st.1 ≠ 0 → rdR en st → CF S A o en st → ∀ x2 x3 x4 : Int, EV q 161 52 [some (.ref 94), some (.ref 9), some (vI x2), some (vI x3), some (vI x4), none, none] [] A none A := by
    intro S A o st c hr hA x2 x3 x4
    obtain ⟨_, _, hA⟩ := hA
    have wr : w32 st.1 = st.1 := w32_of (by have := hr.1; omega)
    refine vc_Sorted_openSorted_52 _ _ _ ⟨fun _ => ⟨rfl, rfl⟩, fun _ => ?_⟩
    rw [hA.2.1.2.1, wr]
    exact cY c ⟨rfl, rfl⟩
  intro fu
  induction fu with
  | zero =>
    intro i su st h hfu _ hr hh
    have a1 := hr.2.1
    have a2 := hh.1
    unfold rdP at hfu
    omega
  | succ fu ih =>
    intro i su st h hfu hi hr hh
    by_cases c0 : st.1 = 0
    case neg =>
      refine ⟨st, hr, fun S A o hS hC hA => ⟨S, A, EX.refl _ S, CB_CF hA, fun x2 => tc S A o st c0 hr (CB_CF hA) _ _ _⟩, fun S B hS hC hQ hB => ?_⟩
      obtain ⟨B1, k1, k2⟩ := so_62t (q := q) he ht c0 hr hh hS hC hB
      exact ⟨S, B1, EX.refl _ S, k1, fun x1 => k2 _ _ _⟩
    have wi : Unit → w32 ((i : Nat) : Int) = i := fun _ => w32_of (by omega)
    have ei : ((i + 1 : Nat) : Int) = (i : Int) + 1 := by omega
    obtain ⟨z, z', st1, h1, ⟨a1, a2, a3, _⟩, aR, a5, a6, a7⟩ := jbitsR0 (q := q) (hi := 1) he.2 ht (Or.inr rfl) (n := 48) (by omega) hr hh
    rw [show (2 : Int) ^ 48 = 281474976710656 by decide] at aR
    have wz : w64 z = z := w64_of (by omega)
    have wz' : w64 z' = z' := w64_of (by omega)
    have h5 : ∀ (S A : ms) (o : Nat), CB S A o en t st h → A.1 9 5 = 0 := fun S A o hA => by rw [hA.2.1.2.1]; exact c0
    -- the sum behind the END
    obtain ⟨v, v', st2, h2, ⟨b1, b2, b3, _⟩, bR, b5, b6, b7⟩ := jbitsR0 (q := q) (hi := 1) he.2 ht (Or.inr rfl) (n := 32) (by omega) a1 a3
    rw [show (2 : Int) ^ 32 = 4294967296 by decide] at bR
    have t3 := rd_gt (c := w32 v = w32 su) (k := 91) (by decide) b1
    obtain ⟨st3, e3⟩ : ∃ x : Rd, x = if w32 v = w32 su then st2 else rdTell 91 st2 := ⟨_, rfl⟩
    rw [← e3] at t3
    have h3 := hR_n b3 t3.2
    have cEnd : z = 25779555029136 → ∀ (S A : ms) (o : Nat), S.1 9 7 = 1 → RdC S o en t → CB S A o en t st h → ∃ A1, CF S A1 o en (rdEnd en st3) ∧ ∀ x2 : Int, EV q 161 52 [some (.ref 94), some (.ref 9), some (vI x2), some (vI su), some (vI i), none, none] [] A none A1 := by
      intro zE S A o hS hC hA
      have ho := hC.2.2.1
      obtain ⟨A1, k1, k2⟩ := a6 S A o hS hC hA
      obtain ⟨A2, k3, k4⟩ := b6 S A1 o hS hC k2
      obtain ⟨A3, k5, k6⟩ := gC (q := q) (c := w32 v = w32 su) (k := 91) b1 ho k4
      rw [← e3] at k5
      obtain ⟨A4, k7, k8⟩ := sb_end (q := q) hC t3.1 k5
      refine ⟨A4, CB_CF k8, fun x2 => vc_Sorted_openSorted_52 _ _ _ ?_⟩
      have k105 : EV q 161 105 [some (.ref 94), some (.ref 9), some (vI x2), some (vI su), some (vI i), some (vL z), none] [] A3 none A4 := vc_Sorted_openSorted_105 _ _ _ _ ⟨A4, k7, rfl, rfl⟩
      rw [wi (), h5 S A o hA]
      refine cNo (by omega) (cNN (by decide) ⟨z, A1, k1, ?_⟩)
      rw [wz, wE]
      refine cNN zE ⟨v, A2, k3, ?_⟩
      rcases k6 with ⟨u1, u2⟩ | ⟨u1, u2⟩
      · rw [u2] at k105; exact cY ((w32_sum bR.1).2 u1) k105
      · exact cNo (fun y => u1 ((w32_sum bR.1).1 y)) ⟨A3, u2, k105⟩
    -- a mark that is none
    have cBad : z ≠ 25779555029136 → z ≠ 54156738319193 → ∀ (S A : ms) (o : Nat), S.1 9 7 = 1 → RdC S o en t → CB S A o en t st h → ∃ S1 A1, EX xSC S S1 ∧ CF S1 A1 o en (rdTell 81 st1) ∧ ∀ x2 : Int, EV q 161 52 [some (.ref 94), some (.ref 9), some (vI x2), some (vI su), some (vI i), none, none] [] A none A1 := by
      intro zE zB S A o hS hC hA
      have ho := hC.2.2.1
      have ct : (rdTell 81 st1).1 ≠ 0 := rdTell_1 (by decide)
      obtain ⟨A1, k1, k2⟩ := a6 S A o hS hC hA
      obtain ⟨A2, k3, k4⟩ := sb_tell (q := q) (k := 81) a1 ho k2
      obtain ⟨S3, A3, k5, k6, k7⟩ := so_125t (q := q) he ht ct (rdR_tell a1 (by decide)) (hR_n a3 Fw_tellAt) hS hC k4
      refine ⟨S3, A3, k5, k6, fun x2 => vc_Sorted_openSorted_52 _ _ _ ?_⟩
      rw [wi (), h5 S A o hA]
      refine cNo (by omega) (cNN (by decide) ⟨z, A1, k1, ?_⟩)
      rw [wz, wE, wB]
      exact cY zE (cNo zB ⟨A2, k3, k7 _ _ _ _⟩)
    by_cases c1 : st1.1 = 0
    case neg =>
      have es2 : st2 = st1 := b2.1 c1
      have es3 : st3 = st1 := by
        rw [e3, es2, rdTell_r c1]
        split <;> rfl
      refine ⟨st1, a1, fun S A o hS hC hA => ?_, fun S B hS hC hQ hB => ?_⟩
      · by_cases zE : z = 25779555029136
        · obtain ⟨A1, k1, k2⟩ := cEnd zE S A o hS hC hA
          rw [es3, rdEnd_told c1] at k1
          exact ⟨S, A1, EX.refl _ S, k1, k2⟩
        · by_cases zB : z = 54156738319193
          · obtain ⟨A1, k1, k2⟩ := a6 S A o hS hC hA
            obtain ⟨S3, A3, k5, k6, k7⟩ := so_125t (q := q) he ht c1 a1 a3 hS hC k2
            refine ⟨S3, A3, k5, k6, fun x2 => vc_Sorted_openSorted_52 _ _ _ ?_⟩
            rw [wi (), h5 S A o hA]
            refine cNo (by omega) (cNN (by decide) ⟨z, A1, k1, ?_⟩)
            rw [wz, wE, wB]
            exact cY zE (cY zB (k7 _ _ _ _))
          · obtain ⟨S1, A1, k1, k2, k3⟩ := cBad zE zB S A o hS hC hA
            rw [rdTell_r c1] at k2
            exact ⟨S1, A1, k1, k2, k3⟩
      · obtain ⟨B1, k1, k2⟩ := a7 S B hS hC hB
        have kf := md_fine (q := q) hr hB
        rw [if_pos c0] at kf
        have kg := md_fine (q := q) a1 k2
        rw [if_neg c1] at kg
        exact ⟨S, B1, EX.refl _ S, MB_MF k2, fun x1 => vc_MD_openSorted_62 _ _ _ (cNo (by decide) ⟨1, B, kf, cNo (by decide) ⟨z', B1, k1, 0, B1, kg, cNN (by decide) ⟨rfl, rfl⟩⟩⟩)⟩
    obtain ⟨ez, _, pz⟩ := a5 c1
    subst ez
    -- the reference as far as the mark
    have m62 : ∀ (S B : ms), S.1 367 18 = 1 → RdM S en t → MB S B en st h → ∃ B1, MB S B1 en st1 h1 ∧ ∀ (x1 : Int) (T : ms), (((¬ z = 25779555029136) → ((z = 54156738319193) → bkM q x1 su 1 z B1 none T) ∧ ((¬ z = 54156738319193) → ∃ (S23 : ms), EV q 337 0 [some (.ref 367), some (vI 81)] [] B1 none S23 ∧ EV q 362 184 [some (.ref 367), some (vI x1), some (vI su), some (vI 1), some (vL z), none, none, none] [] S23 none T)) ∧ ((¬ (¬ z = 25779555029136)) → EV q 362 184 [some (.ref 367), some (vI x1), some (vI su), some (vI 0), some (vL z), none, none, none] [] B1 none T)) → EV q 362 62 [some (.ref 367), some (vI x1), some (vI su), some (vI 1), none, none, none, none] [] B none T := by
      intro S B hS hC hB
      obtain ⟨B1, k1, k2⟩ := a7 S B hS hC hB
      have kf := md_fine (q := q) hr hB
      rw [if_pos c0] at kf
      have kg := md_fine (q := q) a1 k2
      rw [if_pos c1] at kg
      refine ⟨B1, k2, fun x1 T y => vc_MD_openSorted_62 _ _ _ (cNo (by decide) ⟨1, B, kf, cNo (by decide) ⟨z, B1, k1, 1, B1, kg, cY (by decide) ?_⟩⟩)⟩
      rw [wz, wE, wB]
      exact y
    by_cases zE : z = 25779555029136
    · refine ⟨rdEnd en st3, rdR_end t3.1, fun S A o hS hC hA => ?_, fun S B hS hC hQ hB => ?_⟩
      · obtain ⟨A1, k1, k2⟩ := cEnd zE S A o hS hC hA
        exact ⟨S, A1, EX.refl _ S, k1, k2⟩
      · obtain ⟨B1, k1, k2⟩ := m62 S B hS hC hB
        obtain ⟨B2, k3, k4⟩ := b7 S B1 hS hC k1
        obtain ⟨B3, k5, k6⟩ := gMg (q := q) (c := w32 v = w32 su) (k := 91) b1 he.2 b3 k4
        rw [← e3] at k5
        obtain ⟨B4, k7, k8⟩ := mb_end (q := q) he.2 t3.1 h3 k5
        refine ⟨S, B4, EX.refl _ S, MB_MF k8, fun x1 => k2 x1 B4 (cNN zE (vc_MD_openSorted_184 _ _ _ _ (vc_MD_openSorted_62 _ _ _ (cY (by decide) (vc_MD_openSorted_187 _ _ _ ⟨v', B2, k3, ?_⟩)))))⟩
        have k215 : EV q 362 215 [some (.ref 367), some (vI x1), some (vI su), some (vI 0), some (vI v'), none, none, none] [] B3 none B4 := vc_MD_openSorted_215 _ _ _ _ ⟨B4, k7, rfl, rfl⟩
        rcases k6 with ⟨u0, u1, u2⟩ | ⟨u0, u1, u2, u3⟩ | ⟨u0, u1, u2, u3⟩
        · rw [u2] at k215; exact ⟨0, B2, u1, cY (by decide) k215⟩
        · rw [u3] at k215
          rw [← (b5 u0).1] at k215 ⊢
          exact ⟨1, B2, u1, cNo (by decide) (cY u2 k215)⟩
        · rw [← (b5 u0).1] at k215 ⊢
          exact ⟨1, B2, u1, cNo (by decide) (cNo u2 ⟨B3, u3, k215⟩)⟩
    by_cases zB : z = 54156738319193
    case neg =>
      have ct : (rdTell 81 st1).1 ≠ 0 := rdTell_1 (by decide)
      have hrt : rdR en (rdTell 81 st1) := rdR_tell a1 (by decide)
      refine ⟨rdTell 81 st1, hrt, cBad zE zB, fun S B hS hC hQ hB => ?_⟩
      obtain ⟨B1, k1, k2⟩ := m62 S B hS hC hB
      obtain ⟨B2, k3, k4⟩ := mb_tell (q := q) (k := 81) a1 he.2 a3 k1
      obtain ⟨B3, k5, k6⟩ := so_62t (q := q) he ht ct hrt (hR_n a3 Fw_tellAt) hS hC k4
      exact ⟨S, B3, EX.refl _ S, k5, fun x1 => k2 x1 B3 (cY zE (cNo zB ⟨B2, k3, vc_MD_openSorted_184 _ _ _ _ (k6 _ _ _)⟩))⟩
    obtain ⟨s, s', st4, h4, ⟨d1, d2, d3⟩, dR, d5, d6, d7⟩ := jbkS (q := q) he ht a1 a3
    -- the class's block
    obtain ⟨R, eR⟩ : ∃ R : Int, R = bO (su * ((2 : Int) ^ ((1 : Int) % 32).toNat)) (su % 4294967296 / ((2 : Int) ^ ((32 - (1 : Int)) % 32).toNat)) := ⟨_, rfl⟩
    have cbk : ∀ (S A : ms) (o : Nat), S.1 9 7 = 1 → RdC S o en t → CB S A o en t st h → ∃ S1 A1, EX xSC S S1 ∧ CB S1 A1 o en t st4 h4 ∧ ∀ (x2 : Int) (T : ms), EV q 161 52 [some (.ref 94), some (.ref 9), some (vI x2), some (vI (bX R s)), some (vI ((i : Int) + 1)), none, none] [] A1 none T → EV q 161 52 [some (.ref 94), some (.ref 9), some (vI x2), some (vI su), some (vI i), none, none] [] A none T := by
      intro S A o hS hC hA
      obtain ⟨A1, k1, k2⟩ := a6 S A o hS hC hA
      obtain ⟨S2, A2, k3, k4, k5⟩ := d6 S A1 o hS hC k2
      refine ⟨S2, A2, k3, k4, fun x2 T y => vc_Sorted_openSorted_52 _ _ _ ?_⟩
      rw [wi (), h5 S A o hA]
      refine cNo (by omega) (cNN (by decide) ⟨z, A1, k1, ?_⟩)
      rw [wz, wE, wB]
      exact cY zE (cY zB (vc_Sorted_openSorted_125 _ _ _ _ ⟨R, A1, vc_Row_rotated _ _ ⟨by rw [eR], rfl⟩, s, A2, k5, y⟩))
    have mbk : ∀ S B : ms, S.1 367 18 = 1 → RdM S en t → Tb3 S → MB S B en st h → ∃ S1 B1, EX xSM S S1 ∧ MB S1 B1 en st4 h4 ∧ ∀ (x1 : Int) (T : ms), EV q 362 62 [some (.ref 367), some (vI x1), some (vI (bX R s')), some (vI 1), none, none, none, none] [] B1 none T → EV q 362 62 [some (.ref 367), some (vI x1), some (vI su), some (vI 1), none, none, none, none] [] B none T := by
      intro S B hS hC hQ hB
      obtain ⟨B1, k1, k2⟩ := m62 S B hS hC hB
      obtain ⟨S2, B2, k3, k4, k5⟩ := d7 S B1 hS hC hQ k1
      exact ⟨S2, B2, k3, k4, fun x1 T y => k2 x1 T (cY zE (cY zB (k5 x1 su 1 z none T (fun x7 => vc_MD_openSorted_175 _ _ _ _ _ _ ⟨R, B2, vc_MD_rotated _ _ ⟨by rw [eR], rfl⟩, vc_MD_openSorted_184 _ _ _ _ y⟩))))⟩
    by_cases c4 : st4.1 = 0
    · obtain ⟨es, p4⟩ := d5 c4
      subst es
      obtain ⟨st', j1, j2, j3⟩ := ih (i + 1) (bX R s) st4 h4 (by omega) (by omega) d1 d3
      refine ⟨st', j1, fun S A o hS hC hA => ?_, fun S B hS hC hQ hB => ?_⟩
      · obtain ⟨S1, A1, k1, k2, k3⟩ := cbk S A o hS hC hA
        obtain ⟨S2, A2, k4, k5, k6⟩ := j2 S1 A1 o ((xSC_97 k1).trans hS) (xSC_rd k1 hC) k2
        rw [ei] at k6
        exact ⟨S2, A2, EX.trans k1 k4, k5, fun x2 => k3 x2 A2 (k6 x2)⟩
      · obtain ⟨S1, B1, k1, k2, k3⟩ := mbk S B hS hC hQ hB
        obtain ⟨S2, B2, k4, k5, k6⟩ := j3 S1 B1 ((xSM_18 k1).trans hS) (xSM_rd k1 hC) (xSM_T k1 hQ) k2
        exact ⟨S2, B2, EX.trans k1 k4, k5, fun x1 => k3 x1 B2 (k6 x1)⟩
    · refine ⟨st4, d1, fun S A o hS hC hA => ?_, fun S B hS hC hQ hB => ?_⟩
      · obtain ⟨S1, A1, k1, k2, k3⟩ := cbk S A o hS hC hA
        exact ⟨S1, A1, k1, CB_CF k2, fun x2 => k3 x2 A1 (tc S1 A1 o st4 c4 d1 (CB_CF k2) _ _ _)⟩
      · obtain ⟨S1, B1, k1, k2, k3⟩ := mbk S B hS hC hQ hB
        obtain ⟨B2, k4, k5⟩ := so_62t (q := q) he ht c4 d1 d3 ((xSM_18 k1).trans hS) (xSM_rd k1 hC) k2
        exact ⟨S1, B2, k1, k4, fun x1 => k3 x1 B2 (k5 _ _ _)⟩
def xSN (a : Nat) (k : Int) : Prop := xSM a k ∨ (a = 367 ∧ k = 18)
theorem oj_sorted {t : Int → Int} (he : 0 ≤ en ∧ en ≤ 6000) (ht : ∀ k : Int, 0 ≤ k → k < en → 0 ≤ t k ∧ t k < 256) : ∃ stf : Rd, rdR en stf ∧ (∀ (S A : ms) (o : Nat), S.1 9 7 = 1 → RdC S o en t → CR S A o en st0 → ∃ S1 A1, EY xSC S S1 ∧ EV q 161 0 [some (.ref 94), some (.ref 9), none, none, none, none, none] [] A none A1 ∧ CF S1 A1 o en stf) ∧ ∀ S B : ms, Tb3 S → RdM S en t → MR S B en st0 → ∃ S1 B1, EY xSN S S1 ∧ EV q 362 0 [some (.ref 367), none, none, none, none, none, none, none] [] B none B1 ∧ MF S1 B1 en stf := by
  have hr0 : rdR en st0 := rdR_0 he.1
  have x1 := rdExp_r (t := t) (v := 66) (k := 80) (by decide) hr0
  have x2 := rdExp_r (t := t) (v := 90) (k := 80) (by decide) x1.1
  have x3 := rdExp_r (t := t) (v := 104) (k := 80) (by decide) x2.1
  obtain ⟨s3, es3⟩ : ∃ s : Rd, s = rdExp t en 104 80 (rdExp t en 90 80 (rdExp t en 66 80 st0)) := ⟨_, rfl⟩
  rw [← es3] at x3
  obtain ⟨y, ey⟩ : ∃ y : Int, y = (rdTake t en s3).1 := ⟨_, rfl⟩
  have hy := rdTake_rg x3.1 ht
  rw [← ey] at hy
  obtain ⟨s4, es4⟩ : ∃ s : Rd, s = (rdTake t en s3).2 := ⟨_, rfl⟩
  have r4 : rdR en s4 := by rw [es4]; exact rdR_take x3.1
  have wy : w32 y = y := w32_of (by omega)
  have t5 := rd_gt (c := 49 ≤ y ∧ y ≤ 57) (k := 80) (by decide) r4
  obtain ⟨s5, es5⟩ : ∃ s : Rd, s = if 49 ≤ y ∧ y ≤ 57 then s4 else rdTell 80 s4 := ⟨_, rfl⟩
  rw [← es5] at t5
  obtain ⟨stf, g1, g2, g3⟩ := jsrt (q := q) he ht 50000 0 0 s5 0 (by
    have q1 := t5.1.2.1
    unfold rdP
    omega) (by omega) t5.1 (hR_0 _)
  refine ⟨stf, g1, fun S A o hS hC hA => ?_, fun S B hQ hC hB => ?_⟩
  · have ho := hC.2.2.1
    obtain ⟨A1, k1, k2⟩ := sp_exp (q := q) (v := 66) (k := 80) hC hr0 hA
    obtain ⟨A2, k3, k4⟩ := sp_exp (q := q) (v := 90) (k := 80) hC x1.1 k2
    obtain ⟨A3, k5, k6⟩ := sp_exp (q := q) (v := 104) (k := 80) hC x2.1 k4
    rw [← es3] at k6
    obtain ⟨A4, k7, k8⟩ := sp_take (q := q) hC x3.1 k6
    rw [← ey] at k7
    rw [← es4] at k8
    obtain ⟨A5, k9, k10⟩ := gC (q := q) (c := 49 ≤ y ∧ y ≤ 57) (k := 80) r4 ho (CB_0 t k8)
    rw [← es5] at k9
    obtain ⟨S6, A6, k11, k12, k13⟩ := g2 S A5 o hS hC k9
    refine ⟨S6, A6, k11.ey, vc_Sorted_openSorted ⟨A1, k1, A2, k3, A3, k5, y, A4, k7, ?_⟩, k12⟩
    have k47 := vc_Sorted_openSorted_47 (q := q) y (k13 y)
    rw [wy]
    rcases k10 with ⟨u1, u2⟩ | ⟨u1, u2⟩
    · rw [u2] at k47
      exact cNo (by omega) (cY u1.2 k47)
    · have k41 := vc_Sorted_openSorted_41 (q := q) y ⟨A5, u2, k47⟩
      by_cases v : y < 49
      · exact cY v k41
      · exact cNo v (cNo (fun v' => u1 ⟨by omega, v'⟩) k41)
  · obtain ⟨B1, k1, k2⟩ := md_exp (q := q) (v := 66) (k := 80) he.2 hC hr0 hB
    obtain ⟨B2, k3, k4⟩ := md_exp (q := q) (v := 90) (k := 80) he.2 hC x1.1 k2
    obtain ⟨B3, k5, k6⟩ := md_exp (q := q) (v := 104) (k := 80) he.2 hC x2.1 k4
    rw [← es3] at k6
    obtain ⟨B4, k7, k8⟩ := md_take (q := q) hC x3.1 k6
    rw [← ey] at k7
    rw [← es4] at k8
    obtain ⟨B5, k9, k10⟩ := gMg (q := q) (c := 49 ≤ y ∧ y ≤ 57) (k := 80) r4 he.2 (hR_0 _) k8
    rw [← es5] at k9
    obtain ⟨S5, s1, s2, s3⟩ := MB_X (X := fun a k => a = 367 ∧ k = 18) (fun a k z => by omega) k9 (EX.wr (EX.refl _ B5) (v := 1) ⟨rfl, rfl⟩)
    have s1' : EX xSN S S5 := EX.mono s1 (fun a k z => Or.inr z)
    obtain ⟨S6, B6, k11, k12, k13⟩ := g3 S5 _ (by rw [s2 367 18 ⟨rfl, rfl⟩, wI_at]) (RdM_ey hC s1.ey (fun k => show ¬ ((368 : Nat) = 367 ∧ k = 18) by omega)) (fun j hj => by rw [s1.2 373 _ (by omega)]; exact hQ j hj) s3
    refine ⟨S6, B6, (EX.trans s1' (EX.mono k11 (fun a k z => Or.inl z))).ey, vc_MD_openSorted ⟨B1, k1, B2, k3, B3, k5, y, B4, k7, ?_⟩, k12⟩
    have k53 : EV q 362 53 [some (.ref 367), some (vI y), none, none, none, none, none, none] [] B5 none B6 := vc_MD_openSorted_53 _ (fun S1 e1 => by rw [e1]; exact k13 y)
    rcases k10 with ⟨u0, u1, u2⟩ | ⟨u0, u1, u2, u3⟩ | ⟨u0, u1, u2, u3⟩
    · rw [u2] at k53; exact ⟨0, B4, u1, cY (by decide) k53⟩
    · rw [u3] at k53
      refine ⟨1, B4, u1, cNo (by decide) ⟨1, B4, vc_MD_in _ _ _ ?_, cY (by decide) k53⟩⟩
      rw [wy, show w32 49 = 49 by decide, show w32 57 = 57 by decide]
      exact cNo (by omega) (cNo (by omega) ⟨rfl, rfl⟩)
    · refine ⟨1, B4, u1, cNo (by decide) ⟨0, B4, vc_MD_in _ _ _ ?_, cNN (by decide) ⟨B5, u3, k53⟩⟩⟩
      rw [wy, show w32 49 = 49 by decide, show w32 57 = 57 by decide]
      by_cases v : y < 49
      · exact cY v ⟨rfl, rfl⟩
      · exact cNo v (cY (by
          have : ¬ y ≤ 57 := fun v' => u2 ⟨by omega, v'⟩
          omega) ⟨rfl, rfl⟩)
end SrtK
