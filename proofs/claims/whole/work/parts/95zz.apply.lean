/-! apply: a turn of the loop, and the loop -/
section Apply2
variable {q : Nat × (Nat → Int32)} {en : Int}
/-- the class's loop comes from st (at turn i) to stf; the reference's too -/
def apC (q : Nat × (Nat → Int32)) (en : Int) (t g : Int → Int) (sz D : Int) (i : Nat) (st stf : Rd) : Prop := ∀ (S A : ms) (o a2 : Nat) (x5 : Int), RdC S o en t → FiC S o a2 sz g → CR S A o en st → ∃ A', EV q 221 59 [some (.ref 29), some (.ref 9), some (.ref a2), some (vL D), none, some (vL x5), none, some (vI i), none, none, none] [] A none A' ∧ CR S A' o en stf
def apM (q : Nat × (Nat → Int32)) (en : Int) (t g : Int → Int) (sz D : Int) (st stf : Rd) : Prop := ∀ (S B : ms) (x1 x4 : Int) (rr : Option Value) (P : ms → Prop), RdM S en t → FiM S x1 sz g → MR S B en st → (∀ B, MR S B en stf → ∃ B', EV q 406 387 [some (.ref 367), some (vI x1), some (vL D), none, some (vL x4), none, none, none, none, none, none, none, none] [] B rr B' ∧ P B') → ∃ B', EV q 406 106 [some (.ref 367), some (vI x1), some (vL D), none, some (vL x4), none, none, none, none, none, none, none, none] [] B rr B' ∧ P B'
theorem ap_stop {t g : Int → Int} {sz D : Int} {st : Rd} (i : Nat) (he : en ≤ 6000) (hr : rdR en st) (hs : st.1 ≠ 0 ∨ en ≤ st.2.2.1) : apC q en t g sz D i st (apE D en st) ∧ apM q en t g sz D st (apE D en st) := ⟨fun S A o a2 x5 hC hF h => ap_stopC hF.1 i hC hr h hs, fun S B x1 x4 rr P hC hF h nx => ap_stopM he hr h hs nx⟩
/-- behind the number of a piece: the class at 120, the reference at 164, to the two next turns -/
theorem ap_piece {t g : Int → Int} {sz D z x8 : Int} {st : Rd} (he : en ≤ 6000) (ht : ∀ k : Int, 0 ≤ k → k < en → 0 ≤ t k ∧ t k < 256) (hsz : 0 ≤ sz ∧ sz ≤ 12000) (hD : 0 ≤ D ∧ D ≤ 12000) (hr : rdR en st) (hz : 0 ≤ z ∧ z < 34359738368) (hx : (x8 = 0 ∧ z < 256) ∨ x8 = 1) : ∃ stn : Rd, rdR en stn ∧ Fw st stn ∧ (∀ (S A : ms) (o a2 : Nat) (x5 x7 : Int) (P : ms → Prop), RdC S o en t → FiC S o a2 sz g → CR S A o en st → (∀ A1, CR S A1 o en stn → ∃ A', EV q 221 59 [some (.ref 29), some (.ref 9), some (.ref a2), some (vL D), none, some (vL x5), none, some (vI (x7 + 1)), none, none, none] [] A1 none A' ∧ P A') → ∃ A', EV q 221 120 [some (.ref 29), some (.ref 9), some (.ref a2), some (vL D), none, some (vL x5), none, some (vI x7), some (vI x8), none, none] [vL z] A none A' ∧ P A') ∧ (∀ (S B : ms) (x1 x4 : Int) (rr : Option Value) (P : ms → Prop), RdM S en t → FiM S x1 sz g → MR S B en st → (∀ B, MR S B en stn → ∃ B', EV q 406 106 [some (.ref 367), some (vI x1), some (vL D), none, some (vL x4), none, none, none, none, none, none, none, none] [] B rr B' ∧ P B') → ∃ B', EV q 406 164 [some (.ref 367), some (vI x1), some (vL D), none, some (vL x4), none, some (vI x8), none, none, none, none, none, none] [vL z] B rr B' ∧ P B') := by
  obtain ⟨s3, e3⟩ : ∃ s3 : Rd, s3 = if (¬ w64 z = w64 0) then st else rdTell 133 st := ⟨_, rfl⟩
  have h3 : rdR en s3 ∧ Fw st s3 := by
    rw [e3]
    exact rd_gt (by decide) hr
  obtain ⟨s4, e4⟩ : ∃ s4 : Rd, s4 = if (w64 z ≤ w64 (D - w32 s3.2.2.2.1)) then s3 else rdTell 134 s3 := ⟨_, rfl⟩
  have h4 : rdR en s4 ∧ Fw s3 s4 := by
    rw [e4]
    exact rd_gt (by decide) h3.1
  have c4 : s4.1 = 0 → z ≤ 12000 := by
    intro y
    apply Classical.byContradiction
    intro n
    have r3 := h3.1.2.2.1
    have w1 : w32 s3.2.2.2.1 = s3.2.2.2.1 := w32_of (by omega)
    have w2 : w64 z = z := w64_of (by omega)
    have w3 : w64 (D - s3.2.2.2.1) = D - s3.2.2.2.1 := w64_of (by omega)
    rw [w1, w2, w3, if_neg (by omega)] at e4
    rw [e4] at y
    exact rdTell_1 (by decide) y
  -- the class as far as 159, the reference as far as 214
  have hc : ∀ (S A : ms) (o a2 : Nat) (x5 x7 : Int) (P : ms → Prop), RdC S o en t → FiC S o a2 sz g → CR S A o en st → (∀ A1, CR S A1 o en s4 → ∃ A', EV q 221 159 [some (.ref 29), some (.ref 9), some (.ref a2), some (vL D), none, some (vL x5), none, some (vI x7), some (vI x8), some (vL z), none] [] A1 none A' ∧ P A') → ∃ A', EV q 221 120 [some (.ref 29), some (.ref 9), some (.ref a2), some (vL D), none, some (vL x5), none, some (vI x7), some (vI x8), none, none] [vL z] A none A' ∧ P A' := by
    intro S A o a2 x5 x7 P hC hF h nx
    obtain ⟨A', f, p⟩ := gTellC (q := q) (k := 133) (c := ¬ w64 z = w64 0) (X := fun U V => EV q 221 136 [some (.ref 29), some (.ref 9), some (.ref a2), some (vL D), none, some (vL x5), none, some (vI x7), some (vI x8), some (vL z), none] [] U none V) (P := P) hr hC.2.2.1 h (fun A1 k1 => by
      rw [← e3] at k1
      obtain ⟨A', f, p⟩ := gTellC (q := q) (k := 134) (c := w64 z ≤ w64 (D - w32 s3.2.2.2.1)) (X := fun U V => EV q 221 159 [some (.ref 29), some (.ref 9), some (.ref a2), some (vL D), none, some (vL x5), none, some (vI x7), some (vI x8), some (vL z), none] [] U none V) (P := P) h3.1 hC.2.2.1 k1 (fun A2 k2 => by
        rw [← e4] at k2
        exact nx A2 k2)
      exact ⟨A', vc_Copies_openDelta_136 _ _ _ _ _ _ _ hF.1 ⟨o, 12000, by rw [k1.1]; exact hC.1, hC.2.1, by rw [k1.2.2.1.1]; exact f⟩, p⟩)
    exact ⟨A', vc_Copies_openDelta_120 _ _ _ _ _ _ _ hF.1 f, p⟩
  have hm : ∀ (S B : ms) (x1 x4 : Int) (rr : Option Value) (P : ms → Prop), RdM S en t → FiM S x1 sz g → MR S B en st → (∀ B, MR S B en s4 → ∃ B', EV q 406 214 [some (.ref 367), some (vI x1), some (vL D), none, some (vL x4), none, some (vI x8), some (vL z), none, none, none, none, none] [] B rr B' ∧ P B') → ∃ B', EV q 406 164 [some (.ref 367), some (vI x1), some (vL D), none, some (vL x4), none, some (vI x8), none, none, none, none, none, none] [vL z] B rr B' ∧ P B' := by
    intro S B x1 x4 rr P hC hF h nx
    obtain ⟨B', f, p⟩ := gTellM (q := q) (k := 133) (C := fun _ => ¬ w64 z = w64 0) (c := ¬ w64 z = w64 0) (X := fun U V => EV q 406 187 [some (.ref 367), some (vI x1), some (vL D), none, some (vL x4), none, some (vI x8), some (vL z), none, none, none, none, none] [] U rr V) (P := P) hr he h Iff.rfl (fun B1 k1 => by
      rw [← e3] at k1
      obtain ⟨B', f, p⟩ := gTellM (q := q) (k := 134) (C := fun U => w64 z ≤ w64 (D - w32 (U.1 367 22))) (c := w64 z ≤ w64 (D - w32 s3.2.2.2.1)) (X := fun U V => EV q 406 214 [some (.ref 367), some (vI x1), some (vL D), none, some (vL x4), none, some (vI x8), some (vL z), none, none, none, none, none] [] U rr V) (P := P) h3.1 he k1 (by rw [k1.2.2.1.1]) (fun B2 k2 => by
        rw [← e4] at k2
        exact nx B2 k2)
      exact ⟨B', vc_MD_apply_187 _ _ _ _ _ f, p⟩)
    exact ⟨B', vc_MD_apply_164 _ _ _ _ _ f, p⟩
  rcases hx with ⟨x0, z2⟩ | x1
  · -- so many octets come from here
    obtain ⟨n, en'⟩ : ∃ n : Nat, z = n := ⟨z.toNat, by omega⟩
    subst x0 en'
    refine ⟨rdCopy t en n s4, rdR_copy n h4.1, Fw_t h3.2 (Fw_t h4.2 (Fw_copy n)), fun S A o a2 x5 x7 P hC hF h nx => hc S A o a2 x5 x7 P hC hF h (fun A1 k1 => ?_), fun S B x1 x4 rr P hC hF h nx => hm S B x1 x4 rr P hC hF h (fun B1 k1 => ?_)⟩
    · obtain ⟨A2, k2, k3⟩ := sp_copy (q := q) hC (n := n) (by omega) h4.1 k1
      obtain ⟨A', k4, k5⟩ := nx A2 k3
      exact ⟨A', vc_Copies_openDelta_159 _ _ _ _ _ _ _ hF.1 (cNN (by decide) ⟨A2, k2, vc_Copies_openDelta_180 _ _ _ _ _ _ _ hF.1 k4⟩), k5⟩
    · obtain ⟨B', k2, k3⟩ := lp_copyM (q := q) hC (n := n) (by omega) (x1 := x1) (x2 := D) (x4 := x4) (x6 := 0) (stf := rdCopy t en n s4) (rr := rr) (P := P) (fun B2 x9 j1 => by
        obtain ⟨B', j2, j3⟩ := nx B2 j1
        exact ⟨B', vc_MD_apply_258 _ _ _ _ _ _ j2, j3⟩) n 0 B1 s4 (by omega) rfl h4.1 k1
      exact ⟨B', vc_MD_apply_214 _ _ _ _ _ (cNN (by decide) k2), k3⟩
  · -- so many from the standing text
    subst x1
    have o1 : ¬ w32 1 = 0 := by decide
    by_cases d : s4.1 ≠ 0
    · -- a rule is told
      refine ⟨s4, h4.1, Fw_t h3.2 h4.2, fun S A o a2 x5 x7 P hC hF h nx => hc S A o a2 x5 x7 P hC hF h (fun A1 k1 => ?_), fun S B x1 x4 rr P hC hF h nx => hm S B x1 x4 rr P hC hF h (fun B1 k1 => ?_)⟩
      · obtain ⟨A2, k2, k3⟩ := sp_ff0 (q := q) (z := z) hF.1 ht hC h4.1 k1 d
        obtain ⟨A', k4, k5⟩ := nx A2 k3
        exact ⟨A', vc_Copies_openDelta_159 _ _ _ _ _ _ _ hF.1 (cY o1 ⟨A2, k2, vc_Copies_openDelta_180 _ _ _ _ _ _ _ hF.1 k4⟩), k5⟩
      · obtain ⟨B', j1, j2⟩ := nx B1 k1
        have kf := md_fine (q := q) h4.1 k1
        rw [if_neg d] at kf
        have k311 : EV q 406 311 [some (.ref 367), some (vI x1), some (vL D), none, some (vL x4), none, some (vI 1), some (vL z), none, some (vL 0), none, some (vL 0), none] [] B1 rr B' := vc_MD_apply_311 _ _ _ _ _ _ _ ⟨fun _ => vc_MD_apply_356 _ _ _ _ _ _ _ j1, fun _ => ⟨0, B1, kf, cY (by decide) (vc_MD_apply_356 _ _ _ _ _ _ _ j1)⟩⟩
        exact ⟨B', vc_MD_apply_214 _ _ _ _ _ (cY o1 ⟨0, B1, kf, cY (by decide) (vc_MD_apply_276 _ _ _ _ _ _ ⟨0, B1, kf, cY (by decide) (vc_MD_apply_308 _ _ _ _ _ _ k311)⟩)⟩), j2⟩
    · have d0 : s4.1 = 0 := by omega
      have z12 := c4 d0
      obtain ⟨n, en'⟩ : ∃ n : Nat, z = n := ⟨z.toNat, by omega⟩
      obtain ⟨pl, s5, ⟨g1, g2⟩, g3, g4, g5⟩ := jsev (q := q) he ht 5 0 0 s4 (by omega) h4.1 (by decide)
      obtain ⟨s6, e6⟩ : ∃ s6 : Rd, s6 = if (w64 (z + pl) ≤ w64 (w32 sz)) then s5 else rdTell 133 s5 := ⟨_, rfl⟩
      have h6 : rdR en s6 ∧ Fw s5 s6 := by
        rw [e6]
        exact rd_gt (by decide) g1
      have c6 : s6.1 = 0 → pl + n ≤ sz := by
        intro y
        apply Classical.byContradiction
        intro nn
        have w1 : w32 sz = sz := w32_of (by omega)
        have w2 : w64 (z + pl) = z + pl := w64_of (by omega)
        have w3 : w64 sz = sz := w64_of (by omega)
        rw [w1, w2, w3, if_neg (by omega)] at e6
        rw [e6] at y
        exact rdTell_1 (by decide) y
      subst en'
      have ep : pl + ((0 : Nat) : Int) = pl := by omega
      refine ⟨rdPut g n pl s6, rdR_put n pl h6.1, Fw_t h3.2 (Fw_t h4.2 (Fw_t g2 (Fw_t h6.2 (Fw_put n pl)))), fun S A o a2 x5 x7 P hC hF h nx => hc S A o a2 x5 x7 P hC hF h (fun A1 k1 => ?_), fun S B x1 x4 rr P hC hF h nx => hm S B x1 x4 rr P hC hF h (fun B1 k1 => ?_)⟩
      · obtain ⟨A2, k2, k3⟩ := g4 S A1 o hC k1
        have es : A2.1 a2 1 = sz := by
          rw [k3.2.2.2 a2 1 (fun y => hF.2.2.1 y.1) (fun y => hF.2.1.1 y.1) hF.2.1.2.2.1]
          exact hF.2.2.2.1
        obtain ⟨A3, f, p⟩ := gTellC (q := q) (k := 133) (c := w64 ((n : Int) + pl) ≤ w64 (w32 sz)) (X := fun U V => EV q 222 26 [some (.ref 9), some (.ref a2), some (vL n), none, some (vL pl), none, none] [] U none V) (P := fun U => CR S U o en (rdPut g n pl s6)) g1 hC.2.2.1 k3 (fun A3 j1 => by
          rw [← e6] at j1
          obtain ⟨A4, j2, j3⟩ := lp_putC (q := q) hC hF.1 hF.2.1 hsz.2 hF.2.2.2.2 g3 (n := n) (by omega) n 0 A3 s6 (by omega) c6 h6.1 j1
          rw [ep] at j3
          exact ⟨A4, vc_Copies_openFromFirst_26 _ _ _ _ hF.1 j2, j3⟩)
        obtain ⟨A', k4, k5⟩ := nx A3 p
        refine ⟨A', vc_Copies_openDelta_159 _ _ _ _ _ _ _ hF.1 (cY o1 ⟨A3, vc_Copies_openFromFirst _ _ _ hF.1 ⟨pl, A2, vc_Source_takeSevens k2, ?_⟩, vc_Copies_openDelta_180 _ _ _ _ _ _ _ hF.1 k4⟩), k5⟩
        rw [es]
        exact f
      · obtain ⟨B2, k2, k3⟩ := g5 S B1 hC k1
        have wx : w32 x1 = x1 := w32_of (by have := hF.1; omega)
        obtain ⟨B', f, p⟩ := gTellM (q := q) (k := 133) (C := fun U => w64 (pl + (n : Int)) ≤ w64 (w32 (U.1 370 (w32 x1)))) (c := w64 ((n : Int) + pl) ≤ w64 (w32 sz)) (X := fun U V => EV q 406 308 [some (.ref 367), some (vI x1), some (vL D), none, some (vL x4), none, some (vI 1), some (vL n), none, some (vL pl), none, none, none] [] U rr V) (P := P) g1 he k3 (by
            rw [k3.2.2.2 370 _ (by omega) (by decide), wx, hF.2.1, Int.add_comm]) (fun B3 j1 => by
          rw [← e6] at j1
          obtain ⟨B', j2, j3⟩ := lp_putM (q := q) hC hF.1 hsz.2 hF.2.2 g3 (n := n) (by omega) (x2 := D) (x4 := x4) (x6 := 1) (stf := rdPut g n pl s6) (rr := rr) (P := P) (fun B2 x9 i1 => by
            obtain ⟨B', i2, i3⟩ := nx B2 i1
            exact ⟨B', vc_MD_apply_356 _ _ _ _ _ _ _ i2, i3⟩) n 0 B3 s6 (by omega) (by rw [ep]) c6 h6.1 j1
          exact ⟨B', vc_MD_apply_308 _ _ _ _ _ _ j2, j3⟩)
        have kf := md_fine (q := q) h4.1 k1
        rw [if_pos d0] at kf
        refine ⟨B', vc_MD_apply_214 _ _ _ _ _ (cY o1 ⟨1, B1, kf, cNo (by decide) ⟨pl, B2, vc_MD_readSevens k2, vc_MD_apply_276 _ _ _ _ _ _ ?_⟩⟩), p⟩
        obtain ⟨zf, Bf, f1, f2, f3⟩ := f
        exact ⟨zf, Bf, f1, f2, fun y => ⟨by rw [wx]; have := hF.1; omega, f3 y⟩⟩
/-- the loop -/
theorem ap_loop {t g : Int → Int} {sz D : Int} (he : 0 ≤ en ∧ en ≤ 6000) (ht : ∀ k : Int, 0 ≤ k → k < en → 0 ≤ t k ∧ t k < 256) (hsz : 0 ≤ sz ∧ sz ≤ 12000) (hD : 0 ≤ D ∧ D ≤ 12000) : ∀ (m i : Nat) (st : Rd), en - st.2.2.1 ≤ m → i + m ≤ 6000 → rdR en st → ∃ stf : Rd, rdR en stf ∧ apC q en t g sz D i st stf ∧ apM q en t g sz D st stf := by
  have hE : ∀ st : Rd, rdR en st → rdR en (apE D en st) := by
    intro st hr
    unfold apE
    split
    · exact hr
    · exact rdR_tellAt hr (by decide)
  intro m
  induction m with
  | zero =>
    intro i st hm hi hr
    exact ⟨_, hE st hr, ap_stop i he.2 hr (Or.inr (by omega))⟩
  | succ m ih =>
    intro i st hm hi hr
    by_cases cs : st.1 ≠ 0 ∨ en ≤ st.2.2.1
    · exact ⟨_, hE st hr, ap_stop i he.2 hr cs⟩
    have c0 : st.1 = 0 := Classical.byContradiction fun y => cs (Or.inl y)
    have cn : st.2.2.1 < en := Classical.byContradiction fun y => cs (Or.inr (by omega))
    have wr : w32 st.1 = st.1 := w32_of (by omega)
    have we : w32 en = en := w32_of (by omega)
    have wn : w32 st.2.2.1 = st.2.2.1 := w32_of (by have := hr.2.1; omega)
    have wi : Unit → w32 (i : Int) = i := fun _ => w32_of (by omega)
    have i0 : ¬ 1000000 ≤ (i : Int) := by omega
    obtain ⟨x, ex⟩ : ∃ x : Int, x = (rdTake t en st).1 := ⟨_, rfl⟩
    obtain ⟨s1, es⟩ : ∃ s1 : Rd, s1 = (rdTake t en st).2 := ⟨_, rfl⟩
    have tr := rdTake_rg hr ht
    have hr1 : rdR en s1 := by rw [es]; exact rdR_take hr
    have n1 : s1.2.2.1 = st.2.2.1 + 1 := by
      rw [es]
      unfold rdTake
      rw [if_neg (by omega), if_pos cn]
    rw [← ex] at tr
    have wx : w32 x = x := w32_of (by omega)
    -- the two heads
    have hc : ∀ (S A : ms) (o a2 : Nat) (x5 : Int) (P : ms → Prop), RdC S o en t → FiC S o a2 sz g → CR S A o en st → (∀ A1, CR S A1 o en (if x ≤ 1 then s1 else rdTell 132 s1) → ∃ A', EV q 221 103 [some (.ref 29), some (.ref 9), some (.ref a2), some (vL D), none, some (vL x5), none, some (vI i), some (vI x), none, none] [] A1 none A' ∧ P A') → ∃ A', EV q 221 59 [some (.ref 29), some (.ref 9), some (.ref a2), some (vL D), none, some (vL x5), none, some (vI i), none, none, none] [] A none A' ∧ P A' := by
      intro S A o a2 x5 P hC hF h nx
      obtain ⟨A1, k1, k2⟩ := sp_take (q := q) hC hr h
      rw [← ex] at k1
      rw [← es] at k2
      obtain ⟨A', f, p⟩ := gTellC (q := q) (k := 132) (c := x ≤ 1) (X := fun U V => EV q 221 103 [some (.ref 29), some (.ref 9), some (.ref a2), some (vL D), none, some (vL x5), none, some (vI i), some (vI x), none, none] [] U none V) (P := P) hr1 hC.2.2.1 k2 nx
      refine ⟨A', vc_Copies_openDelta_59 _ _ _ _ _ hF.1 ?_, p⟩
      rw [h.2.1.2.1, wr, h.2.1.1 c0, we, h.2.1.2.2.2.1 c0, wn, wi ()]
      refine cNo i0 (cNN c0 (cNo (by omega) ⟨x, A1, k1, ?_⟩))
      rw [wx]
      exact f
    have hm0 : ∀ (S B : ms), RdM S en t → MR S B en st → ∃ B1, EV q 334 0 [some (.ref 367)] [] B (some (vI x)) B1 ∧ MR S B1 en s1 := by
      intro S B hC h
      obtain ⟨B1, k1, k2⟩ := md_take (q := q) hC hr h
      rw [← ex] at k1
      rw [← es] at k2
      exact ⟨B1, k1, k2⟩
    by_cases c1 : x ≤ 1
    · rw [if_pos c1] at hc
      -- the number, and the piece
      have step : ∀ (z : Int) (s2 : Rd) (x8 : Int), (0 ≤ z ∧ z < 34359738368) → (x8 = 0 ∧ z < 256) ∨ x8 = 1 → x = x8 → rdR en s2 → Fw s1 s2 → (∀ (S A : ms) (o a2 : Nat) (x5 : Int) (P : ms → Prop), RdC S o en t → FiC S o a2 sz g → CR S A o en s1 → (∀ A1, CR S A1 o en s2 → ∃ A', EV q 221 120 [some (.ref 29), some (.ref 9), some (.ref a2), some (vL D), none, some (vL x5), none, some (vI i), some (vI x8), none, none] [vL z] A1 none A' ∧ P A') → ∃ A', EV q 221 103 [some (.ref 29), some (.ref 9), some (.ref a2), some (vL D), none, some (vL x5), none, some (vI i), some (vI x8), none, none] [] A none A' ∧ P A') → (∀ (S B : ms) (x1 x4 : Int) (rr : Option Value) (P : ms → Prop), RdM S en t → MR S B en st → (∀ B1, MR S B1 en s2 → ∃ B', EV q 406 164 [some (.ref 367), some (vI x1), some (vL D), none, some (vL x4), none, some (vI x8), none, none, none, none, none, none] [vL z] B1 rr B' ∧ P B') → ∃ B', EV q 406 106 [some (.ref 367), some (vI x1), some (vL D), none, some (vL x4), none, none, none, none, none, none, none, none] [] B rr B' ∧ P B') → ∃ stf : Rd, rdR en stf ∧ apC q en t g sz D i st stf ∧ apM q en t g sz D st stf := by
        intro z s2 x8 hz hx e8 hr2 f2 pc pm
        obtain ⟨s3, r3, f3, p3, p4⟩ := ap_piece (q := q) (g := g) he.2 ht hsz hD hr2 hz hx
        obtain ⟨stf, rf, l1, l2⟩ := ih (i + 1) s3 (by have := f2.2; have := f3.2; omega) (by omega) r3
        have ei : ((i + 1 : Nat) : Int) = (i : Int) + 1 := by omega
        refine ⟨stf, rf, fun S A o a2 x5 hC hF h => hc S A o a2 x5 _ hC hF h (fun A1 k1 => ?_), fun S B x1 x4 rr P hC hF h nx => pm S B x1 x4 rr P hC h (fun B1 k1 => p4 S B1 x1 x4 rr P hC hF k1 (fun B2 k2 => l2 S B2 x1 x4 rr P hC hF k2 nx))⟩
        rw [e8]
        refine pc S A1 o a2 x5 _ hC hF k1 (fun A2 k2 => p3 S A2 o a2 x5 i _ hC hF k2 (fun A3 k3 => ?_))
        obtain ⟨A', j1, j2⟩ := l1 S A3 o a2 x5 hC hF k3
        rw [ei] at j1
        exact ⟨A', j1, j2⟩
      have hx01 : x = 0 ∨ x = 1 := by omega
      rcases hx01 with x0 | x1
      · have tr2 := rdTake_rg hr1 ht
        have w2 : w32 (rdTake t en s1).1 = (rdTake t en s1).1 := w32_of (by omega)
        refine step (rdTake t en s1).1 (rdTake t en s1).2 0 (by omega) (Or.inl ⟨rfl, tr2.2⟩) x0 (rdR_take hr1) Fw_take ?_ ?_
        · intro S A o a2 x5 P hC hF h nx
          obtain ⟨A1, k1, k2⟩ := sp_take (q := q) hC hr1 h
          obtain ⟨A', j1, j2⟩ := nx A1 k2
          refine ⟨A', vc_Copies_openDelta_103 _ _ _ _ _ _ hF.1 (cNN (by decide) ⟨_, A1, k1, ?_⟩), j2⟩
          rw [w2]
          exact j1
        · intro S B x1 x4 rr P hC h nx
          obtain ⟨B1, k1, k2⟩ := hm0 S B hC h
          obtain ⟨B2, k3, k4⟩ := md_take (q := q) hC hr1 k2
          obtain ⟨B', j1, j2⟩ := nx B2 k4
          have kf := md_fine (q := q) hr h
          rw [if_pos c0] at kf
          refine ⟨B', vc_MD_apply_106 _ _ _ ⟨1, B, kf, cNo (by decide) ?_⟩, j2⟩
          rw [h.2.1.1 c0, we, h.2.1.2.2.2.2 c0, if_pos rfl, Int.sub_zero, wn]
          refine cNo (by omega) ⟨x, B1, k1, ?_⟩
          rw [wx]
          refine cY c1 (cY (by omega) ⟨_, B2, k3, ?_⟩)
          rw [w2, x0]
          exact j1
      · obtain ⟨z, s2, ⟨g1, g2⟩, g3, g4, g5⟩ := jsev (q := q) he.2 ht 5 0 0 s1 (by omega) hr1 (by decide)
        refine step z s2 1 g3 (Or.inr rfl) x1 g1 g2 ?_ ?_
        · intro S A o a2 x5 P hC hF h nx
          obtain ⟨A1, k1, k2⟩ := g4 S A o hC h
          obtain ⟨A', j1, j2⟩ := nx A1 k2
          exact ⟨A', vc_Copies_openDelta_103 _ _ _ _ _ _ hF.1 (cY (by decide) ⟨_, A1, vc_Source_takeSevens k1, j1⟩), j2⟩
        · intro S B y1 x4 rr P hC h nx
          obtain ⟨B1, k1, k2⟩ := hm0 S B hC h
          obtain ⟨B2, k3, k4⟩ := g5 S B1 hC k2
          obtain ⟨B', j1, j2⟩ := nx B2 k4
          have kf := md_fine (q := q) hr h
          rw [if_pos c0] at kf
          refine ⟨B', vc_MD_apply_106 _ _ _ ⟨1, B, kf, cNo (by decide) ?_⟩, j2⟩
          rw [h.2.1.1 c0, we, h.2.1.2.2.2.2 c0, if_pos rfl, Int.sub_zero, wn]
          refine cNo (by omega) ⟨x, B1, k1, ?_⟩
          rw [wx]
          refine cY c1 (cNN x1 ⟨_, B2, vc_MD_readSevens k3, ?_⟩)
          rw [x1]
          exact j1
    · -- no such piece
      rw [if_neg c1] at hc
      obtain ⟨s2, e2⟩ : ∃ s2 : Rd, s2 = rdTell 132 s1 := ⟨_, rfl⟩
      have d2 : s2.1 ≠ 0 := by rw [e2]; exact rdTell_1 (by decide)
      have hr2 : rdR en s2 := by rw [e2]; exact rdR_tell hr1 (by decide)
      rw [← e2] at hc
      refine ⟨apE D en s2, hE s2 hr2, fun S A o a2 x5 hC hF h => hc S A o a2 x5 _ hC hF h (fun A1 k1 => ?_), fun S B x1 x4 rr P hC hF h nx => ?_⟩
      · obtain ⟨z, s3, ⟨g1, g2⟩, g3, g4, g5⟩ := jsev (q := q) he.2 ht 5 0 0 s2 (by omega) hr2 (by decide)
        have e3 : s3 = s2 := g2.1 d2
        subst e3
        obtain ⟨A2, k2, k3⟩ := g4 S A1 o hC k1
        have last : ∀ A3, CR S A3 o en s3 → ∃ A', EV q 221 159 [some (.ref 29), some (.ref 9), some (.ref a2), some (vL D), none, some (vL x5), none, some (vI i), some (vI x), some (vL z), none] [] A3 none A' ∧ CR S A' o en (apE D en s3) := by
          intro A3 j1
          obtain ⟨A4, j2, j3⟩ := sp_ff0 (q := q) (z := z) hF.1 ht hC hr2 j1 d2
          obtain ⟨A', j4, j5⟩ := ap_stopC (q := q) (D := D) (x5 := x5) hF.1 (i + 1) hC hr2 j3 (Or.inl d2)
          rw [show ((i + 1 : Nat) : Int) = (i : Int) + 1 by omega] at j4
          exact ⟨A', vc_Copies_openDelta_159 _ _ _ _ _ _ _ hF.1 (cY (by rw [wx]; omega) ⟨A4, j2, vc_Copies_openDelta_180 _ _ _ _ _ _ _ hF.1 j4⟩), j5⟩
        have e5 : ∀ (c : Prop) [Decidable c] (k : Int), (if c then s3 else rdTell k s3) = s3 := by
          intro c _ k
          split
          · rfl
          · exact rdTell_r d2
        obtain ⟨A', f, p⟩ := gTellC (q := q) (k := 133) (c := ¬ w64 z = w64 0) (X := fun U V => EV q 221 136 [some (.ref 29), some (.ref 9), some (.ref a2), some (vL D), none, some (vL x5), none, some (vI i), some (vI x), some (vL z), none] [] U none V) (P := fun U => CR S U o en (apE D en s3)) hr2 hC.2.2.1 k3 (fun A3 j1 => by
          rw [e5] at j1
          obtain ⟨A', f, p⟩ := gTellC (q := q) (k := 134) (c := w64 z ≤ w64 (D - w32 s3.2.2.2.1)) (X := fun U V => EV q 221 159 [some (.ref 29), some (.ref 9), some (.ref a2), some (vL D), none, some (vL x5), none, some (vI i), some (vI x), some (vL z), none] [] U none V) (P := fun U => CR S U o en (apE D en s3)) hr2 hC.2.2.1 j1 (fun A4 j2 => by
            rw [e5] at j2
            exact last A4 j2)
          exact ⟨A', vc_Copies_openDelta_136 _ _ _ _ _ _ _ hF.1 ⟨o, 12000, by rw [j1.1]; exact hC.1, hC.2.1, by rw [j1.2.2.1.1]; exact f⟩, p⟩)
        exact ⟨A', vc_Copies_openDelta_103 _ _ _ _ _ _ hF.1 (cY (by rw [wx]; omega) ⟨_, A2, vc_Source_takeSevens k2, vc_Copies_openDelta_120 _ _ _ _ _ _ _ hF.1 f⟩), p⟩
      · obtain ⟨B1, k1, k2⟩ := hm0 S B hC h
        obtain ⟨B2, k3, k4⟩ := md_tell (q := q) (k := 132) hr1 he.2 k2
        rw [← e2] at k4
        obtain ⟨B', j1, j2⟩ := ap_endM (q := q) hr2 k4 nx
        have kf := md_fine (q := q) hr h
        rw [if_pos c0] at kf
        refine ⟨B', vc_MD_apply_106 _ _ _ ⟨1, B, kf, cNo (by decide) ?_⟩, j2⟩
        rw [h.2.1.1 c0, we, h.2.1.2.2.2.2 c0, if_pos rfl, Int.sub_zero, wn]
        refine cNo (by omega) ⟨x, B1, k1, ?_⟩
        rw [wx]
        exact cNo c1 ⟨B2, k3, j1⟩
end Apply2
