/-! open, kind 8: COPIES -/
section CopiesO
variable {q : Nat × (Nat → Int32)} {en : Int}
/-- not c tells the rule, on the class's side: as gTellC, with a reader's state for c -/
theorem jlow0 {t : Int → Int} (ht : ∀ k : Int, 0 ≤ k → k < en → 0 ≤ t k ∧ t k < 256) {n : Nat} (hn : n ≤ 4) {st : Rd} (hr : rdR en st) : ∃ (z : Int) (st' : Rd), (rdR en st' ∧ Fw st st') ∧ (0 ≤ z ∧ z < 34359738368) ∧ (∀ (S A : ms) (o : Nat), RdC S o en t → CR S A o en st → ∃ A', EV q 132 0 [some (.ref 9), some (vI n), none, none, none] [] A (some (vL z)) A' ∧ CR S A' o en st') ∧ ∀ S B : ms, RdM S en t → MR S B en st → ∃ B', EV q 345 0 [some (.ref 367), some (vI n), none, none, none] [] B (some (vL z)) B' ∧ MR S B' en st' := by
  obtain ⟨z, st', g1, g2, g3, g4⟩ := jlow (q := q) ht hn n 0 0 st (by omega) hr (by decide)
  refine ⟨z, st', g1, g2, fun S A o hC h => ?_, fun S B hC h => ?_⟩
  · obtain ⟨A', k1, k2⟩ := g3 S A o hC h
    exact ⟨A', vc_Source_takeLow _ k1, k2⟩
  · obtain ⟨B', k1, k2⟩ := g4 S B hC h
    exact ⟨B', vc_MD_lowNumber _ k1, k2⟩
theorem jsev0 {t : Int → Int} (he : en ≤ 6000) (ht : ∀ k : Int, 0 ≤ k → k < en → 0 ≤ t k ∧ t k < 256) {st : Rd} (hr : rdR en st) : ∃ (z : Int) (st' : Rd), (rdR en st' ∧ Fw st st') ∧ (0 ≤ z ∧ z < 34359738368) ∧ (∀ (S A : ms) (o : Nat), RdC S o en t → CR S A o en st → ∃ A', EV q 158 0 [some (.ref 9), none, none, none, none] [] A (some (vL z)) A' ∧ CR S A' o en st') ∧ ∀ S B : ms, RdM S en t → MR S B en st → ∃ B', EV q 361 0 [some (.ref 367), none, none, none, none] [] B (some (vL z)) B' ∧ MR S B' en st' := by
  obtain ⟨z, st', g1, g2, g3, g4⟩ := jsev (q := q) he ht 5 0 0 st (by omega) hr (by decide)
  refine ⟨z, st', g1, g2, fun S A o hC h => ?_, fun S B hC h => ?_⟩
  · obtain ⟨A', k1, k2⟩ := g3 S A o hC h
    exact ⟨A', vc_Source_takeSevens k1, k2⟩
  · obtain ⟨B', k1, k2⟩ := g4 S B hC h
    exact ⟨B', vc_MD_readSevens k1, k2⟩
def cpE (D en : Int) (st : Rd) : Rd := if w64 D ≤ w64 (w32 st.2.2.2.1) then st else rdTellAt 54 en st
theorem cpE_r {D : Int} {st : Rd} (h : st.1 ≠ 0) : cpE D en st = st := by
  unfold cpE rdTellAt
  by_cases c : w64 D ≤ w64 (w32 st.2.2.2.1)
  · rw [if_pos c]
  · rw [if_neg c, if_pos h]
theorem rdR_cpE {D : Int} {st : Rd} (h : rdR en st) : rdR en (cpE D en st) := by
  unfold cpE
  split
  · exact h
  · exact rdR_tellAt h (by decide)
theorem cp_stopC {S A : ms} {o : Nat} {t : Int → Int} {D : Int} {st : Rd} (i : Nat) (hC : RdC S o en t) (hr : rdR en st) (h : CR S A o en st) (hs : st.1 ≠ 0 ∨ en ≤ st.2.2.1) : ∃ A', EV q 157 22 [some (.ref 29), some (.ref 9), some (vL D), none, some (vI i), none] [] A none A' ∧ CR S A' o en (cpE D en st) := by
  have eo : A.2.2 9 1 = o := by rw [h.1]; exact hC.1
  have ec : A.1 o 1 = st.2.2.2.1 := h.2.2.1.1
  have last : ∃ A', EV q 157 85 [some (.ref 29), some (.ref 9), some (vL D), none, some (vI i), none] [] A none A' ∧ CR S A' o en (cpE D en st) := by
    unfold cpE
    by_cases c : w64 D ≤ w64 (w32 st.2.2.2.1)
    · rw [if_pos c]
      exact ⟨A, vc_Copies_openCopies_85 _ _ ⟨o, 12000, eo, hC.2.1, by rw [ec]; exact cY c ⟨rfl, rfl⟩⟩, h⟩
    · rw [if_neg c]
      obtain ⟨A1, k1, k2⟩ := sp_tellAt (q := q) (k := 54) (p := A.1 9 2) hr hC.2.2.1 h
      have ep : rdTellAt 54 (A.1 9 2) st = rdTellAt 54 en st := by
        unfold rdTellAt
        by_cases d : st.1 ≠ 0
        · rw [if_pos d, if_pos d]
        · rw [h.2.1.1 (by omega)]
      rw [ep] at k2
      exact ⟨A1, vc_Copies_openCopies_85 _ _ ⟨o, 12000, eo, hC.2.1, by rw [ec]; exact cNo c ⟨A1, k1, rfl, rfl⟩⟩, k2⟩
  obtain ⟨A', k1, k2⟩ := last
  have wr : w32 st.1 = st.1 := w32_of (by have := hr.1; omega)
  have we : w32 en = en := w32_of (by have := hC.2.2.2.1; omega)
  have wn : w32 st.2.2.1 = st.2.2.1 := w32_of (by have := hr.2.1; have := hC.2.2.2.1; omega)
  refine ⟨A', vc_Copies_openCopies_22 _ _ ⟨fun _ => k1, fun _ => ?_⟩, k2⟩
  rw [h.2.1.2.1, wr]
  refine ⟨fun _ => k1, fun n => ?_⟩
  have d : st.1 = 0 := by omega
  rw [h.2.1.1 d, we, h.2.1.2.2.2.1 d, wn]
  exact cY (by rcases hs with y | y; exact absurd y n; exact y) k1
theorem cp_stopM {S B : ms} {D : Int} {st : Rd} (he : en ≤ 6000) (hr : rdR en st) (h : MR S B en st) (hs : st.1 ≠ 0 ∨ en ≤ st.2.2.1) : ∃ B', EV q 360 26 [some (.ref 367), some (vL D), none, none, none, none, none, none, none, none] [] B none B' ∧ MR S B' en (cpE D en st) := by
  have kf := md_fine (q := q) hr h
  have we : w32 en = en := w32_of (by have := hr.2.1; omega)
  have wn : w32 st.2.2.1 = st.2.2.1 := w32_of (by have := hr.2.1; omega)
  have ec : B.1 367 22 = st.2.2.2.1 := h.2.2.1.1
  have last : ∃ B', EV q 360 270 [some (.ref 367), some (vL D), none, none, none, none, none, none, none, none] [] B none B' ∧ MR S B' en (cpE D en st) := by
    by_cases d : st.1 = 0
    · rw [if_pos d] at kf
      unfold cpE
      by_cases c : w64 D ≤ w64 (w32 st.2.2.2.1)
      · rw [if_pos c]
        exact ⟨B, vc_MD_openCopies_270 _ ⟨1, B, kf, cNo (by decide) (by rw [ec]; exact cY c ⟨rfl, rfl⟩)⟩, h⟩
      · rw [if_neg c]
        obtain ⟨B1, j1, j2⟩ := md_tellAt (q := q) (k := 54) (p := en) hr h
        exact ⟨B1, vc_MD_openCopies_270 _ ⟨1, B, kf, cNo (by decide) (by rw [ec, h.2.1.1 d]; exact cNo c ⟨B1, j1, rfl, rfl⟩)⟩, j2⟩
    · rw [if_neg d] at kf
      rw [cpE_r d]
      exact ⟨B, vc_MD_openCopies_270 _ ⟨0, B, kf, cY (by decide) ⟨rfl, rfl⟩⟩, h⟩
  obtain ⟨B', k1, k2⟩ := last
  refine ⟨B', vc_MD_openCopies_26 _ ⟨_, B, kf, fun _ => k1, fun n => ?_⟩, k2⟩
  have d : st.1 = 0 := by
    apply Classical.byContradiction
    intro d
    rw [if_neg d] at n
    exact n (by decide)
  rw [h.2.1.1 d, we, h.2.1.2.2.2.2 d, if_pos rfl, Int.sub_zero, wn]
  exact cY (by rcases hs with y | y; exact absurd d y; exact y) k1
/-- literals: the class at 159 19 (with what is on the stack), the reference at 360 108 -/
theorem cp_lit {t : Int → Int} {D z : Int} {st : Rd} (he : en ≤ 6000) (hD : 0 ≤ D ∧ D ≤ 12000) (hz : 0 ≤ z ∧ z < 34359738368) (hr : rdR en st) : ∃ stn : Rd, rdR en stn ∧ Fw st stn ∧ (∀ (S A : ms) (o : Nat) (x1 : Int), RdC S o en t → CR S A o en st → ∃ A', EV q 159 19 [some (.ref 9), some (vI x1), some (vL D), none, none, none] [vL z] A none A' ∧ CR S A' o en stn) ∧ ∀ (S B : ms) (x3 : Int) (P : ms → Prop), RdM S en t → MR S B en st → ((stn.1 ≠ 0 → ∀ B, MR S B en stn → P B) ∧ ∀ B, MR S B en stn → ∃ B', EV q 360 26 [some (.ref 367), some (vL D), none, none, none, none, none, none, none, none] [] B none B' ∧ P B') → ∃ B', EV q 360 108 [some (.ref 367), some (vL D), none, some (vI x3), some (vI 0), some (vL (z + 1)), none, none, none, none] [] B none B' ∧ P B' := by
  obtain ⟨s3, e3⟩ : ∃ s3 : Rd, s3 = if (w64 (z + 1) ≤ w64 (D - w32 st.2.2.2.1)) then st else rdTell 53 st := ⟨_, rfl⟩
  have h3 : rdR en s3 ∧ Fw st s3 := by
    rw [e3]
    exact rd_gt (by decide) hr
  have c3 : s3.1 = 0 → z + 1 ≤ 12000 := by
    intro y
    apply Classical.byContradiction
    intro n
    have r3 := hr.2.2.1
    have w1 : w32 st.2.2.2.1 = st.2.2.2.1 := w32_of (by omega)
    have w2 : w64 (z + 1) = z + 1 := w64_of (by omega)
    have w3 : w64 (D - st.2.2.2.1) = D - st.2.2.2.1 := w64_of (by omega)
    rw [w1, w2, w3, if_neg (by omega)] at e3
    rw [e3] at y
    exact rdTell_1 (by decide) y
  have hc : ∀ (S A : ms) (o : Nat) (x1 : Int) (P : ms → Prop), RdC S o en t → CR S A o en st → (∀ A1, CR S A1 o en s3 → ∃ A', EV q 119 0 [some (.ref 9), some (vL (z + 1)), none, none, none] [] A1 none A' ∧ P A') → ∃ A', EV q 159 19 [some (.ref 9), some (vI x1), some (vL D), none, none, none] [vL z] A none A' ∧ P A' := by
    intro S A o x1 P hC h nx
    obtain ⟨A', f, p⟩ := gTellC (q := q) (k := 53) (c := w64 (z + 1) ≤ w64 (D - w32 st.2.2.2.1)) (X := fun U V => EV q 159 45 [some (.ref 9), some (vI x1), some (vL D), none, some (vL z), none] [] U none V) (P := P) hr hC.2.2.1 h (fun A1 k1 => by
      rw [← e3] at k1
      obtain ⟨A', j1, j2⟩ := nx A1 k1
      exact ⟨A', vc_Copies_openLiterals_45 _ _ _ ⟨A', j1, rfl, rfl⟩, j2⟩)
    exact ⟨A', vc_Copies_openLiterals_19 _ _ _ ⟨o, 12000, by rw [h.1]; exact hC.1, hC.2.1, by rw [h.2.2.1.1]; exact f⟩, p⟩
  have hm : ∀ (S B : ms) (x3 : Int) (P : ms → Prop), RdM S en t → MR S B en st → (∀ B, MR S B en s3 → ∃ B', EV q 360 134 [some (.ref 367), some (vL D), none, some (vI x3), some (vI 0), some (vL (z + 1)), none, none, none, none] [] B none B' ∧ P B') → ∃ B', EV q 360 108 [some (.ref 367), some (vL D), none, some (vI x3), some (vI 0), some (vL (z + 1)), none, none, none, none] [] B none B' ∧ P B' := by
    intro S B x3 P hC h nx
    obtain ⟨B', f, p⟩ := gTellM (q := q) (k := 53) (C := fun U => w64 (z + 1) ≤ w64 (D - w32 (U.1 367 22))) (c := w64 (z + 1) ≤ w64 (D - w32 st.2.2.2.1)) (X := fun U V => EV q 360 134 [some (.ref 367), some (vL D), none, some (vI x3), some (vI 0), some (vL (z + 1)), none, none, none, none] [] U none V) (P := P) hr he h (by rw [h.2.2.1.1]) (fun B2 k2 => by
      rw [← e3] at k2
      exact nx B2 k2)
    exact ⟨B', vc_MD_openCopies_108 _ _ _ _ f, p⟩
  by_cases d : s3.1 ≠ 0
  · refine ⟨s3, h3.1, h3.2, fun S A o x1 hC h => hc S A o x1 _ hC h (fun A1 k1 => ⟨A1, sp_copy0 d h3.1 k1, k1⟩), fun S B x3 P hC h nx => hm S B x3 P hC h (fun B1 k1 => ?_)⟩
    have kf := md_fine (q := q) h3.1 k1
    rw [if_neg d] at kf
    exact ⟨B1, vc_MD_openCopies_134 _ _ _ _ ⟨0, B1, kf, cNN (by decide) ⟨rfl, rfl⟩⟩, nx.1 d B1 k1⟩
  · have d0 : s3.1 = 0 := by omega
    obtain ⟨n, en'⟩ : ∃ n : Nat, z + 1 = n := ⟨(z + 1).toNat, by omega⟩
    have n12 := c3 d0
    refine ⟨rdCopy t en n s3, rdR_copy n h3.1, Fw_t h3.2 (Fw_copy n), fun S A o x1 hC h => hc S A o x1 _ hC h (fun A1 k1 => ?_), fun S B x3 P hC h nx => hm S B x3 P hC h (fun B1 k1 => ?_)⟩
    · rw [en']
      exact sp_copy hC (by omega) h3.1 k1
    · have lp : ∀ (m i : Nat) (B : ms) (st : Rd), i + m = n → rdCopy t en m st = rdCopy t en n s3 → rdR en st → MR S B en st → ∃ B', EV q 360 150 [some (.ref 367), some (vL D), none, some (vI x3), some (vI 0), some (vL (z + 1)), none, some (vL i), none, none] [] B none B' ∧ P B' := by
        rw [en']
        intro m
        induction m with
        | zero =>
          intro i B st hi hst hr h
          have e : i = n := by omega
          subst e
          have hst' : st = _ := hst
          obtain ⟨B', k1, k2⟩ := nx.2 B (by rw [← hst']; exact h)
          exact ⟨B', vc_MD_openCopies_150 _ _ _ _ _ (cY (Int.le_refl _) (vc_MD_openCopies_186 _ _ _ _ _ k1)), k2⟩
        | succ m ih =>
          intro i B st hi hst hr h
          have wn : Unit → w64 ((n : Nat) : Int) = n := fun _ => w64_of (by omega)
          have wi : Unit → w64 ((i : Nat) : Int) = i := fun _ => w64_of (by omega)
          have z0 : ¬ (n : Int) ≤ i := by omega
          have kf := md_fine (q := q) hr h
          rw [rdCopy_s] at hst
          by_cases c : st.1 ≠ 0
          · rw [if_pos c] at hst
            rw [if_neg c] at kf
            obtain ⟨B', k1, k2⟩ := nx.2 B (by rw [← hst]; exact h)
            refine ⟨B', vc_MD_openCopies_150 _ _ _ _ _ ?_, k2⟩
            rw [wn (), wi ()]
            exact cNo z0 ⟨0, B, kf, cY (by decide) (vc_MD_openCopies_186 _ _ _ _ _ k1)⟩
          · rw [if_neg c] at hst
            rw [if_pos (by omega)] at kf
            obtain ⟨B1, k1, k2⟩ := md_take (q := q) hC hr h
            obtain ⟨B2, k3, k4⟩ := md_emit (q := q) (v := (rdTake t en st).1) (rdR_take hr) he k2
            obtain ⟨B3, k5, k6⟩ := ih (i + 1) B2 _ (by omega) hst (rdR_emit (rdR_take hr)) k4
            rw [show ((i + 1 : Nat) : Int) = (i : Int) + 1 by omega] at k5
            refine ⟨B3, vc_MD_openCopies_150 _ _ _ _ _ ?_, k6⟩
            rw [wn (), wi ()]
            exact cNo z0 ⟨1, B, kf, cNo (by decide) ⟨_, B1, k1, B2, k3, k5⟩⟩
      obtain ⟨B', j1, j2⟩ := lp n 0 B1 s3 (by omega) rfl h3.1 k1
      have kf := md_fine (q := q) h3.1 k1
      rw [if_pos d0] at kf
      exact ⟨B', vc_MD_openCopies_134 _ _ _ _ ⟨1, B1, kf, cY (by decide) (cNN (by decide) j1)⟩, j2⟩
/-- a copy, behind its distance: the class at 160 89, the reference at 360 226 -/
theorem cp_dist {t : Int → Int} {D d : Int} {n : Nat} {st : Rd} (he : en ≤ 6000) (hn : n < 1000) (hd : 0 ≤ d ∧ d < 40000000000) (hr : rdR en st) : ∃ stn : Rd, rdR en stn ∧ Fw st stn ∧ (∀ (S A : ms) (o : Nat) (x1 x4 : Int), RdC S o en t → CR S A o en st → ∃ A', EV q 160 89 [some (.ref 9), some (vI x1), some (vL D), none, some (vI x4), some (vI n), none, none] [vL d] A none A' ∧ CR S A' o en stn) ∧ ∀ (S B : ms) (x3 x4 : Int) (P : ms → Prop), RdM S en t → MR S B en st → (∀ B, MR S B en stn → ∃ B', EV q 360 26 [some (.ref 367), some (vL D), none, none, none, none, none, none, none, none] [] B none B' ∧ P B') → ∃ B', EV q 360 226 [some (.ref 367), some (vL D), none, some (vI x3), some (vI x4), some (vL n), none, none, none, none] [vL d] B none B' ∧ P B' := by
  obtain ⟨s3, e3⟩ : ∃ s3 : Rd, s3 = if (1 ≤ d ∧ d ≤ st.2.2.2.1) then st else rdTell 52 st := ⟨_, rfl⟩
  have h3 : rdR en s3 ∧ Fw st s3 := by
    rw [e3]
    exact rd_gt (by decide) hr
  have c3 : s3.1 = 0 → 1 ≤ d ∧ d ≤ s3.2.2.2.1 := by
    intro y
    by_cases c : 1 ≤ d ∧ d ≤ st.2.2.2.1
    · rw [if_pos c] at e3
      rw [e3]
      exact c
    · rw [if_neg c] at e3
      rw [e3] at y
      exact absurd y (rdTell_1 (by decide))
  have r3 := hr.2.2.1
  have w1 : w32 st.2.2.2.1 = st.2.2.2.1 := w32_of (by omega)
  have w2 : w64 st.2.2.2.1 = st.2.2.2.1 := w64_of (by omega)
  have wd : w64 d = d := w64_of (by omega)
  have w0 : w64 0 = 0 := by decide
  have wn : Unit → w32 ((n : Nat) : Int) = n := fun _ => w32_of (by omega)
  refine ⟨rdBack d n s3, rdR_back n h3.1, Fw_t h3.2 (Fw_back n), fun S A o x1 x4 hC h => ?_, fun S B x3 x4 P hC h nx => ?_⟩
  · have fin : ∀ A1, CR S A1 o en s3 → ∃ A', EV q 160 118 [some (.ref 9), some (vI x1), some (vL D), none, some (vI x4), some (vI n), some (vL d), none] [] A1 none A' ∧ CR S A' o en (rdBack d n s3) := by
      intro A1 k1
      obtain ⟨A', j1, j2⟩ := sp_back (q := q) (d := d) (by omega) hC (n := n) (by omega) c3 h3.1 k1
      exact ⟨A', vc_Copies_openBack_118 _ _ _ _ _ ⟨A', by rw [wn ()]; exact j1, rfl, rfl⟩, j2⟩
    have ro : A.2.2 9 1 = o := by rw [h.1]; exact hC.1
    by_cases c : 1 ≤ d ∧ d ≤ st.2.2.2.1
    · rw [if_pos c] at e3
      obtain ⟨A', k1, k2⟩ := fin A (by rw [e3]; exact h)
      refine ⟨A', vc_Copies_openBack_89 _ _ _ _ _ ?_, k2⟩
      rw [wd, w0]
      refine cNo (by omega) ⟨o, 12000, ro, hC.2.1, ?_⟩
      rw [h.2.2.1.1, w1, w2]
      exact cY c.2 k1
    · rw [if_neg c] at e3
      obtain ⟨A1, j1, j2⟩ := sp_tell (q := q) (k := 52) hr hC.2.2.1 h
      obtain ⟨A', k1, k2⟩ := fin A1 (by rw [e3]; exact j2)
      have k112 := vc_Copies_openBack_112 _ _ _ _ _ ⟨A1, j1, k1⟩
      refine ⟨A', vc_Copies_openBack_89 _ _ _ _ _ ?_, k2⟩
      rw [wd, w0]
      refine ⟨fun _ => k112, fun y => ⟨o, 12000, ro, hC.2.1, ?_⟩⟩
      rw [h.2.2.1.1, w1, w2]
      exact cNo (by omega) k112
  · have fin : ∀ B1, MR S B1 en s3 → ∃ B', EV q 360 259 [some (.ref 367), some (vL D), none, some (vI x3), some (vI x4), some (vL n), none, some (vL d), none, none] [] B1 none B' ∧ P B' := by
      intro B1 k1
      obtain ⟨B2, j1, j2⟩ := md_back (q := q) (d := d) (by omega) he (n := n) (by omega) c3 h3.1 k1
      obtain ⟨B', i1, i2⟩ := nx B2 j2
      exact ⟨B', vc_MD_openCopies_259 _ _ _ _ _ ⟨B2, j1, i1⟩, i2⟩
    have kf := md_fine (q := q) hr h
    by_cases cr : st.1 = 0
    · rw [if_pos cr] at kf
      by_cases c : 1 ≤ d ∧ d ≤ st.2.2.2.1
      · rw [if_pos c] at e3
        obtain ⟨B', k1, k2⟩ := fin B (by rw [e3]; exact h)
        refine ⟨B', vc_MD_openCopies_226 _ _ _ _ _ ⟨1, B, kf, cNo (by decide) ?_⟩, k2⟩
        rw [wd, w0, h.2.2.1.1, w1, w2]
        exact cNo (by omega) (cY c.2 k1)
      · rw [if_neg c] at e3
        obtain ⟨B1, j1, j2⟩ := md_tell (q := q) (k := 52) hr he h
        obtain ⟨B', k1, k2⟩ := fin B1 (by rw [e3]; exact j2)
        have k253 := vc_MD_openCopies_253 _ _ _ _ _ ⟨B1, j1, k1⟩
        refine ⟨B', vc_MD_openCopies_226 _ _ _ _ _ ⟨1, B, kf, cNo (by decide) ?_⟩, k2⟩
        rw [wd, w0, h.2.2.1.1, w1, w2]
        exact ⟨fun _ => k253, fun y => cNo (by omega) k253⟩
    · rw [if_neg cr] at kf
      have e4 : s3 = st := by
        rw [e3]
        split
        · rfl
        · exact rdTell_r cr
      obtain ⟨B', k1, k2⟩ := fin B (by rw [e4]; exact h)
      exact ⟨B', vc_MD_openCopies_226 _ _ _ _ _ ⟨0, B, kf, cY (by decide) k1⟩, k2⟩
/-- the loop -/
theorem jcp {t : Int → Int} {D : Int} (he : 0 ≤ en ∧ en ≤ 6000) (ht : ∀ k : Int, 0 ≤ k → k < en → 0 ≤ t k ∧ t k < 256) (hD : 0 ≤ D ∧ D ≤ 12000) : ∀ (m i : Nat) (st : Rd), en - st.2.2.1 ≤ m → i + m ≤ 6000 → rdR en st → ∃ stf : Rd, rdR en stf ∧ (∀ (S A : ms) (o : Nat), RdC S o en t → CR S A o en st → ∃ A', EV q 157 22 [some (.ref 29), some (.ref 9), some (vL D), none, some (vI i), none] [] A none A' ∧ CR S A' o en stf) ∧ ∀ S B : ms, RdM S en t → MR S B en st → ∃ B', EV q 360 26 [some (.ref 367), some (vL D), none, none, none, none, none, none, none, none] [] B none B' ∧ MR S B' en stf := by
  have stop : ∀ (i : Nat) (st : Rd), rdR en st → (st.1 ≠ 0 ∨ en ≤ st.2.2.1) → ∃ stf : Rd, rdR en stf ∧ (∀ (S A : ms) (o : Nat), RdC S o en t → CR S A o en st → ∃ A', EV q 157 22 [some (.ref 29), some (.ref 9), some (vL D), none, some (vI i), none] [] A none A' ∧ CR S A' o en stf) ∧ ∀ S B : ms, RdM S en t → MR S B en st → ∃ B', EV q 360 26 [some (.ref 367), some (vL D), none, none, none, none, none, none, none, none] [] B none B' ∧ MR S B' en stf := fun i st hr hs => ⟨cpE D en st, rdR_cpE hr, fun S A o hC h => cp_stopC i hC hr h hs, fun S B hC h => cp_stopM he.2 hr h hs⟩
  intro m
  induction m with
  | zero =>
    intro i st hm hi hr
    exact stop i st hr (Or.inr (by omega))
  | succ m ih =>
    intro i st hm hi hr
    by_cases cs : st.1 ≠ 0 ∨ en ≤ st.2.2.1
    · exact stop i st hr cs
    have c0 : st.1 = 0 := Classical.byContradiction fun y => cs (Or.inl y)
    have cn : st.2.2.1 < en := Classical.byContradiction fun y => cs (Or.inr (by omega))
    have wr : w32 st.1 = st.1 := w32_of (by omega)
    have we : w32 en = en := w32_of (by omega)
    have wn : w32 st.2.2.1 = st.2.2.1 := w32_of (by have := hr.2.1; omega)
    have wi : Unit → w32 (i : Int) = i := fun _ => w32_of (by omega)
    have i0 : ¬ 1000000 ≤ (i : Int) := by omega
    obtain ⟨x, ex⟩ : ∃ x : Int, x = (rdTake t en st).1 := ⟨_, rfl⟩
    obtain ⟨s1, es⟩ : ∃ s1 : Rd, s1 = (rdTake t en st).2 := ⟨_, rfl⟩
    have tr := rdTake_rg hr ht
    have hr1 : rdR en s1 := by rw [es]; exact rdR_take hr
    have n1 : s1.2.2.1 = st.2.2.1 + 1 := by
      rw [es]
      unfold rdTake
      rw [if_neg (by omega), if_pos cn]
    rw [← ex] at tr
    have wx : w32 x = x := w32_of (by omega)
    have wx4 : w32 (x % 4) = x % 4 := w32_of (by omega)
    have ei : ((i + 1 : Nat) : Int) = (i : Int) + 1 := by omega
    -- both heads, given what one piece does
    have turn : ∀ stn : Rd, rdR en stn → Fw s1 stn → (∀ (S A : ms) (o : Nat), RdC S o en t → CR S A o en s1 → ∃ A', ((¬ w32 (x % 4) = 0) → EV q 160 0 [some (.ref 9), some (vI x), some (vL D), none, none, none, none, none] [] A none A') ∧ ((¬ (¬ w32 (x % 4) = 0)) → EV q 159 0 [some (.ref 9), some (vI (w32 x / 4)), some (vL D), none, none, none] [] A none A') ∧ CR S A' o en stn) → (∀ (S B : ms) (P : ms → Prop), RdM S en t → MR S B en s1 → ((stn.1 ≠ 0 → ∀ B, MR S B en stn → P B) ∧ ∀ B, MR S B en stn → ∃ B', EV q 360 26 [some (.ref 367), some (vL D), none, none, none, none, none, none, none, none] [] B none B' ∧ P B') → ∃ B', ((¬ w32 (x % 4) = 1) → EV q 360 78 [some (.ref 367), some (vL D), none, some (vI x), some (vI (x % 4)), none, none, none, none, none] [vL (w32 ((w32 x / 4) + 1))] B none B') ∧ ((¬ (¬ w32 (x % 4) = 1)) → EV q 360 78 [some (.ref 367), some (vL D), none, some (vI x), some (vI (x % 4)), none, none, none, none, none] [vL (w32 (((w32 x / 4) % 8) + 4))] B none B') ∧ P B') → ∃ stf : Rd, rdR en stf ∧ (∀ (S A : ms) (o : Nat), RdC S o en t → CR S A o en st → ∃ A', EV q 157 22 [some (.ref 29), some (.ref 9), some (vL D), none, some (vI i), none] [] A none A' ∧ CR S A' o en stf) ∧ ∀ S B : ms, RdM S en t → MR S B en st → ∃ B', EV q 360 26 [some (.ref 367), some (vL D), none, none, none, none, none, none, none, none] [] B none B' ∧ MR S B' en stf := by
      intro stn rn fn pc pm
      obtain ⟨stf, rf, l1, l2, l3⟩ : ∃ stf : Rd, rdR en stf ∧ (∀ (S A : ms) (o : Nat), RdC S o en t → CR S A o en stn → ∃ A', EV q 157 22 [some (.ref 29), some (.ref 9), some (vL D), none, some (vI ((i + 1 : Nat) : Int)), none] [] A none A' ∧ CR S A' o en stf) ∧ (∀ S B : ms, RdM S en t → MR S B en stn → ∃ B', EV q 360 26 [some (.ref 367), some (vL D), none, none, none, none, none, none, none, none] [] B none B' ∧ MR S B' en stf) ∧ (stn.1 ≠ 0 → stf = stn) := by
        by_cases d : stn.1 ≠ 0
        · refine ⟨cpE D en stn, rdR_cpE rn, fun S A o hC h => cp_stopC (i + 1) hC rn h (Or.inl d), fun S B hC h => cp_stopM he.2 rn h (Or.inl d), fun _ => cpE_r d⟩
        · obtain ⟨stf, rf, l1, l2⟩ := ih (i + 1) stn (by have := fn.2; omega) (by omega) rn
          exact ⟨stf, rf, l1, l2, fun y => absurd y d⟩
      refine ⟨stf, rf, fun S A o hC h => ?_, fun S B hC h => ?_⟩
      · obtain ⟨A1, k1, k2⟩ := sp_take (q := q) hC hr h
        rw [← ex] at k1
        rw [← es] at k2
        obtain ⟨A2, k3, k4, k5⟩ := pc S A1 o hC k2
        obtain ⟨A', k6, k7⟩ := l1 S A2 o hC k5
        rw [ei] at k6
        refine ⟨A', vc_Copies_openCopies_22 _ _ ?_, k7⟩
        rw [h.2.1.2.1, wr, h.2.1.1 c0, we, h.2.1.2.2.2.1 c0, wn, wi ()]
        exact cNo i0 (cNN c0 (cNo (by omega) ⟨x, A1, k1, fun y => ⟨A2, k3 y, vc_Copies_openCopies_79 _ _ _ k6⟩, fun y => ⟨A2, k4 y, vc_Copies_openCopies_79 _ _ _ k6⟩⟩))
      · obtain ⟨B1, k1, k2⟩ := md_take (q := q) hC hr h
        rw [← ex] at k1
        rw [← es] at k2
        obtain ⟨B', k3, k4, k5⟩ := pm S B1 (fun U => MR S U en stf) hC k2 ⟨fun y B2 j => by rw [l3 y]; exact j, fun B2 j => l2 S B2 hC j⟩
        have kf := md_fine (q := q) hr h
        rw [if_pos c0] at kf
        refine ⟨B', vc_MD_openCopies_26 _ ⟨1, B, kf, cNo (by decide) ?_⟩, k5⟩
        rw [h.2.1.1 c0, we, h.2.1.2.2.2.2 c0, if_pos rfl, Int.sub_zero, wn]
        exact cNo (by omega) ⟨x, B1, k1, k3, k4⟩
    by_cases ck : x % 4 = 0
    · -- literals
      have w4 : w32 (x / 4) = x / 4 := w32_of (by omega)
      have w41 : w32 (x / 4 + 1) = x / 4 + 1 := w32_of (by omega)
      have w60 : w64 60 = 60 := by decide
      have w641 : w64 (x / 4 + 1) = x / 4 + 1 := w64_of (by omega)
      by_cases c6 : x / 4 < 60
      · obtain ⟨stn, rn, fn, pc, pm⟩ := cp_lit (q := q) (t := t) (D := D) (z := x / 4) he.2 hD (by omega) hr1
        refine turn stn rn fn (fun S A o hC h => ?_) (fun S B P hC h nx => ?_)
        · obtain ⟨A', k1, k2⟩ := pc S A o (x / 4) hC h
          refine ⟨A', fun y => absurd (by rw [wx4]; exact ck) y, fun _ => ?_, k2⟩
          rw [wx]
          refine vc_Copies_openLiterals _ _ ?_
          rw [w4]
          exact cNo (by omega) k1
        · obtain ⟨B', k1, k2⟩ := pm S B x P hC h nx
          refine ⟨B', fun _ => ?_, fun y => absurd (by rw [wx4, ck]; decide) y, k2⟩
          rw [wx, w41, ck]
          refine vc_MD_openCopies_78 _ _ _ _ ?_
          rw [w641, w60]
          exact cNN (by decide) (cY (by omega) k1)
      · obtain ⟨n, en'⟩ : ∃ n : Nat, x / 4 - 59 = n := ⟨(x / 4 - 59).toNat, by omega⟩
        obtain ⟨z, s2, ⟨g1, g2⟩, g3, g4, g5⟩ := jlow0 (q := q) ht (n := n) (by omega) hr1
        obtain ⟨stn, rn, fn, pc, pm⟩ := cp_lit (q := q) (t := t) (D := D) (z := z) he.2 hD g3 g1
        refine turn stn rn (Fw_t g2 fn) (fun S A o hC h => ?_) (fun S B P hC h nx => ?_)
        · obtain ⟨A1, k1, k2⟩ := g4 S A o hC h
          obtain ⟨A', k3, k4⟩ := pc S A1 o (x / 4) hC k2
          refine ⟨A', fun y => absurd (by rw [wx4]; exact ck) y, fun _ => ?_, k4⟩
          rw [wx]
          refine vc_Copies_openLiterals _ _ ?_
          rw [w4, en']
          exact cY (by omega) ⟨z, A1, k1, k3⟩
        · obtain ⟨B1, k1, k2⟩ := g5 S B hC h
          obtain ⟨B', k3, k4⟩ := pm S B1 x P hC k2 nx
          refine ⟨B', fun _ => ?_, fun y => absurd (by rw [wx4, ck]; decide) y, k4⟩
          rw [wx, w41, ck]
          refine vc_MD_openCopies_78 _ _ _ _ ?_
          rw [w641, w60, show x / 4 + 1 - 60 = n by omega]
          exact cNN (by decide) (cNo (by omega) ⟨z, B1, k1, k3⟩)
    · -- a copy of so many
      obtain ⟨n, en', hn⟩ : ∃ n : Nat, ((x % 4 = 1 ∧ x / 4 % 8 + 4 = n) ∨ (x % 4 ≠ 1 ∧ x / 4 + 1 = n)) ∧ n < 1000 := by
        by_cases c : x % 4 = 1
        · exact ⟨(x / 4 % 8 + 4).toNat, Or.inl ⟨c, by omega⟩, by omega⟩
        · exact ⟨(x / 4 + 1).toNat, Or.inr ⟨c, by omega⟩, by omega⟩
      have wnn : Unit → w32 ((n : Nat) : Int) = n := fun _ => w32_of (by omega)
      obtain ⟨s3, e3⟩ : ∃ s3 : Rd, s3 = if (w64 ((n : Nat) : Int) ≤ w64 (D - w32 s1.2.2.2.1)) then s1 else rdTell 53 s1 := ⟨_, rfl⟩
      have h3 : rdR en s3 ∧ Fw s1 s3 := by
        rw [e3]
        exact rd_gt (by decide) hr1
      -- the class to 52, the reference to 134
      have hc : ∀ (S A : ms) (o : Nat) (P : ms → Prop), RdC S o en t → CR S A o en s1 → (∀ A1, CR S A1 o en s3 → ∃ A', EV q 160 52 [some (.ref 9), some (vI x), some (vL D), none, some (vI (x % 4)), some (vI n), none, none] [] A1 none A' ∧ P A') → ∃ A', EV q 160 0 [some (.ref 9), some (vI x), some (vL D), none, none, none, none, none] [] A none A' ∧ P A' := by
        intro S A o P hC h nx
        obtain ⟨A', f, p⟩ := gTellC (q := q) (k := 53) (c := w64 ((n : Nat) : Int) ≤ w64 (D - w32 s1.2.2.2.1)) (X := fun U V => EV q 160 52 [some (.ref 9), some (vI x), some (vL D), none, some (vI (x % 4)), some (vI n), none, none] [] U none V) (P := P) hr1 hC.2.2.1 h (fun A1 k1 => by
          rw [← e3] at k1
          exact nx A1 k1)
        have k27 : EV q 160 27 [some (.ref 9), some (vI x), some (vL D), none, some (vI (x % 4)), none, none, none] [vI n] A none A' := vc_Copies_openBack_27 _ _ _ _ ⟨o, 12000, by rw [h.1]; exact hC.1, hC.2.1, by rw [h.2.2.1.1, wnn ()]; exact f⟩
        refine ⟨A', vc_Copies_openBack _ _ ?_, p⟩
        rw [wx4, wx]
        rcases en' with ⟨y1, y2⟩ | ⟨y1, y2⟩
        · rw [y2]
          exact cNN y1 k27
        · rw [y2]
          exact cY y1 k27
      have hm : ∀ (S B : ms) (P : ms → Prop), RdM S en t → MR S B en s1 → (∀ B, MR S B en s3 → ∃ B', EV q 360 134 [some (.ref 367), some (vL D), none, some (vI x), some (vI (x % 4)), some (vL n), none, none, none, none] [] B none B' ∧ P B') → ∃ B', ((¬ w32 (x % 4) = 1) → EV q 360 78 [some (.ref 367), some (vL D), none, some (vI x), some (vI (x % 4)), none, none, none, none, none] [vL (w32 ((w32 x / 4) + 1))] B none B') ∧ ((¬ (¬ w32 (x % 4) = 1)) → EV q 360 78 [some (.ref 367), some (vL D), none, some (vI x), some (vI (x % 4)), none, none, none, none, none] [vL (w32 (((w32 x / 4) % 8) + 4))] B none B') ∧ P B' := by
        intro S B P hC h nx
        obtain ⟨B', f, p⟩ := gTellM (q := q) (k := 53) (C := fun U => w64 ((n : Nat) : Int) ≤ w64 (D - w32 (U.1 367 22))) (c := w64 ((n : Nat) : Int) ≤ w64 (D - w32 s1.2.2.2.1)) (X := fun U V => EV q 360 134 [some (.ref 367), some (vL D), none, some (vI x), some (vI (x % 4)), some (vL n), none, none, none, none] [] U none V) (P := P) hr1 he.2 h (by rw [h.2.2.1.1]) (fun B2 k2 => by
          rw [← e3] at k2
          exact nx B2 k2)
        have k78 : EV q 360 78 [some (.ref 367), some (vL D), none, some (vI x), some (vI (x % 4)), none, none, none, none, none] [vL n] B none B' := vc_MD_openCopies_78 _ _ _ _ (cY (by rw [wx4]; exact ck) (vc_MD_openCopies_108 _ _ _ _ f))
        refine ⟨B', fun y => ?_, fun y => ?_, p⟩
        · rw [wx4] at y
          rcases en' with ⟨y1, y2⟩ | ⟨y1, y2⟩
          · exact absurd y1 y
          · rw [wx, y2, wnn ()]
            exact k78
        · rw [wx4] at y
          rcases en' with ⟨y1, y2⟩ | ⟨y1, y2⟩
          · rw [wx, y2, wnn ()]
            exact k78
          · exact absurd y1 y
      by_cases d : s3.1 ≠ 0
      · -- a rule is told: nothing more
        refine turn s3 h3.1 h3.2 (fun S A o hC h => ?_) (fun S B P hC h nx => hm S B P hC h (fun B1 k1 => ?_))
        · have all : ∀ A1, CR S A1 o en s3 → ∃ A', EV q 160 52 [some (.ref 9), some (vI x), some (vL D), none, some (vI (x % 4)), some (vI n), none, none] [] A1 none A' ∧ CR S A' o en s3 := by
            intro A1 k1
            have tail : ∀ (A2 : ms) (y : Int), (0 ≤ y ∧ y < 40000000000) → CR S A2 o en s3 → ∃ A', EV q 160 89 [some (.ref 9), some (vI x), some (vL D), none, some (vI (x % 4)), some (vI n), none, none] [vL y] A2 none A' ∧ CR S A' o en s3 := by
              intro A2 y hy k2
              obtain ⟨stn, rn, fn, pc, _⟩ := cp_dist (q := q) (t := t) (D := D) (d := y) (n := n) he.2 hn hy h3.1
              obtain ⟨A', j1, j2⟩ := pc S A2 o x (x % 4) hC k2
              rw [fn.1 d] at j2
              exact ⟨A', j1, j2⟩
            by_cases c1 : x % 4 = 1
            · obtain ⟨A2, j1, j2⟩ := sp_take (q := q) hC h3.1 k1
              have tr2 := rdTake_rg h3.1 ht
              have w2 : w32 (x / 32 * 256 + (rdTake t en s3).1) = x / 32 * 256 + (rdTake t en s3).1 := w32_of (by omega)
              rw [(Fw_take (en := en) (t := t) (st := s3)).1 d] at j2
              obtain ⟨A', i1, i2⟩ := tail A2 (x / 32 * 256 + (rdTake t en s3).1) (by omega) j2
              refine ⟨A', vc_Copies_openBack_52 _ _ _ _ ?_, i2⟩
              rw [wx4, wx]
              refine cNN c1 ⟨_, A2, j1, ?_⟩
              rw [w2]
              exact i1
            · obtain ⟨k, ek, hk⟩ : ∃ k : Nat, ((x % 4 = 2 ∧ k = 2) ∨ (x % 4 ≠ 2 ∧ k = 4)) ∧ k ≤ 4 := by
                by_cases c2 : x % 4 = 2
                · exact ⟨2, Or.inl ⟨c2, rfl⟩, by decide⟩
                · exact ⟨4, Or.inr ⟨c2, rfl⟩, by decide⟩
              obtain ⟨z, s4, ⟨g1, g2⟩, g3, g4, g5⟩ := jlow0 (q := q) ht (n := k) hk h3.1
              obtain ⟨A2, j1, j2⟩ := g4 S A1 o hC k1
              rw [g2.1 d] at j2
              obtain ⟨A', i1, i2⟩ := tail A2 z (by omega) j2
              have k86 := vc_Copies_openBack_86 _ _ _ _ _ ⟨z, A2, j1, i1⟩
              refine ⟨A', vc_Copies_openBack_52 _ _ _ _ ?_, i2⟩
              rw [wx4]
              rcases ek with ⟨y1, y2⟩ | ⟨y1, y2⟩
              · subst y2
                exact cY c1 (cNN y1 k86)
              · subst y2
                exact cY c1 (cY y1 k86)
          obtain ⟨A', k1, k2⟩ := hc S A o _ hC h all
          exact ⟨A', fun _ => k1, fun y => absurd (by rw [wx4]; exact ck) y, k2⟩
        · have kf := md_fine (q := q) h3.1 k1
          rw [if_neg d] at kf
          exact ⟨B1, vc_MD_openCopies_134 _ _ _ _ ⟨0, B1, kf, cNN (by decide) ⟨rfl, rfl⟩⟩, nx.1 d B1 k1⟩
      · have d0 : s3.1 = 0 := by omega
        by_cases c1 : x % 4 = 1
        · have tr2 := rdTake_rg h3.1 ht
          have w2 : w32 (x / 32 * 256 + (rdTake t en s3).1) = x / 32 * 256 + (rdTake t en s3).1 := w32_of (by omega)
          have w3 : w32 (x / 32) = x / 32 := w32_of (by omega)
          have w5 : w32 (rdTake t en s3).1 = (rdTake t en s3).1 := w32_of (by omega)
          obtain ⟨stn, rn, fn, pc, pm⟩ := cp_dist (q := q) (t := t) (D := D) (d := x / 32 * 256 + (rdTake t en s3).1) (n := n) he.2 hn (by omega) (rdR_take (t := t) h3.1)
          refine turn stn rn (Fw_t h3.2 (Fw_t Fw_take fn)) (fun S A o hC h => ?_) (fun S B P hC h nx => hm S B P hC h (fun B1 k1 => ?_))
          · obtain ⟨A', k1, k2⟩ := hc S A o (fun U => CR S U o en stn) hC h (fun A1 k1 => by
              obtain ⟨A2, j1, j2⟩ := sp_take (q := q) hC h3.1 k1
              obtain ⟨A', i1, i2⟩ := pc S A2 o x (x % 4) hC j2
              refine ⟨A', vc_Copies_openBack_52 _ _ _ _ ?_, i2⟩
              rw [wx4, wx]
              refine cNN c1 ⟨_, A2, j1, ?_⟩
              rw [w2]
              exact i1)
            exact ⟨A', fun _ => k1, fun y => absurd (by rw [wx4]; exact ck) y, k2⟩
          · obtain ⟨B2, j1, j2⟩ := md_take (q := q) hC h3.1 k1
            obtain ⟨B', i1, i2⟩ := pm S B2 x (x % 4) P hC j2 nx.2
            have kf := md_fine (q := q) h3.1 k1
            rw [if_pos d0] at kf
            refine ⟨B', vc_MD_openCopies_134 _ _ _ _ ⟨1, B1, kf, cY (by decide) ?_⟩, i2⟩
            rw [wx4, wx, w3]
            refine cY ck (cNN c1 ⟨_, B2, j1, ?_⟩)
            rw [w5, lO_256 (by omega) tr2]
            exact i1
        · obtain ⟨k, ek, hk⟩ : ∃ k : Nat, ((x % 4 = 2 ∧ k = 2) ∨ (x % 4 ≠ 2 ∧ k = 4)) ∧ k ≤ 4 := by
            by_cases c2 : x % 4 = 2
            · exact ⟨2, Or.inl ⟨c2, rfl⟩, by decide⟩
            · exact ⟨4, Or.inr ⟨c2, rfl⟩, by decide⟩
          obtain ⟨z, s4, ⟨g1, g2⟩, g3, g4, g5⟩ := jlow0 (q := q) ht (n := k) hk h3.1
          obtain ⟨stn, rn, fn, pc, pm⟩ := cp_dist (q := q) (t := t) (D := D) (d := z) (n := n) he.2 hn (by omega) g1
          refine turn stn rn (Fw_t h3.2 (Fw_t g2 fn)) (fun S A o hC h => ?_) (fun S B P hC h nx => hm S B P hC h (fun B1 k1 => ?_))
          · obtain ⟨A', k1, k2⟩ := hc S A o (fun U => CR S U o en stn) hC h (fun A1 k1 => by
              obtain ⟨A2, j1, j2⟩ := g4 S A1 o hC k1
              obtain ⟨A', i1, i2⟩ := pc S A2 o x (x % 4) hC j2
              have k86 := vc_Copies_openBack_86 _ _ _ _ _ ⟨z, A2, j1, i1⟩
              refine ⟨A', vc_Copies_openBack_52 _ _ _ _ ?_, i2⟩
              rw [wx4]
              rcases ek with ⟨y1, y2⟩ | ⟨y1, y2⟩
              · subst y2
                exact cY c1 (cNN y1 k86)
              · subst y2
                exact cY c1 (cY y1 k86))
            exact ⟨A', fun _ => k1, fun y => absurd (by rw [wx4]; exact ck) y, k2⟩
          · obtain ⟨B2, j1, j2⟩ := g5 S B1 hC k1
            obtain ⟨B', i1, i2⟩ := pm S B2 x (x % 4) P hC j2 nx.2
            have kf := md_fine (q := q) h3.1 k1
            rw [if_pos d0] at kf
            have k223 := vc_MD_openCopies_223 _ _ _ _ _ ⟨z, B2, j1, i1⟩
            refine ⟨B', vc_MD_openCopies_134 _ _ _ _ ⟨1, B1, kf, cY (by decide) ?_⟩, i2⟩
            rw [wx4]
            rcases ek with ⟨y1, y2⟩ | ⟨y1, y2⟩
            · subst y2
              exact cY ck (cY c1 (cNN y1 k223))
            · subst y2
              exact cY ck (cY c1 (cY y1 k223))
/-- open(8) -/
theorem oj_copies {t : Int → Int} (he : 0 ≤ en ∧ en ≤ 6000) (ht : ∀ k : Int, 0 ≤ k → k < en → 0 ≤ t k ∧ t k < 256) : ∃ stf : Rd, rdR en stf ∧ OJ q en t 157 0 360 0 [some (.ref 29), some (.ref 9), none, none, none, none] [none, none, none, none, none, none, none, none, none] X0 X0 st0 stf := by
  obtain ⟨D, s1, ⟨a1, a2⟩, a3, a4, a5⟩ := jsev0 (q := q) he.2 ht (rdR_0 he.1)
  obtain ⟨s2, e2⟩ : ∃ s2 : Rd, s2 = if (w64 D ≤ w64 12000) then s1 else rdTell 13 s1 := ⟨_, rfl⟩
  have h2 : rdR en s2 ∧ Fw s1 s2 := by
    rw [e2]
    exact rd_gt (by decide) a1
  have lp : ∃ stf : Rd, rdR en stf ∧ (∀ (S A : ms) (o : Nat), RdC S o en t → CR S A o en s2 → ∃ A', EV q 157 22 [some (.ref 29), some (.ref 9), some (vL D), none, some (vI ((0 : Nat) : Int)), none] [] A none A' ∧ CR S A' o en stf) ∧ ∀ S B : ms, RdM S en t → MR S B en s2 → ∃ B', EV q 360 26 [some (.ref 367), some (vL D), none, none, none, none, none, none, none, none] [] B none B' ∧ MR S B' en stf := by
    by_cases cD : D ≤ 12000
    · exact jcp he ht ⟨a3.1, cD⟩ 6000 0 s2 (by have := h2.1.2.1; omega) (by omega) h2.1
    · have w1 : w64 D = D := w64_of (by omega)
      have w2 : w64 12000 = 12000 := by decide
      rw [w1, w2, if_neg cD] at e2
      have d2 : s2.1 ≠ 0 := by
        rw [e2]
        exact rdTell_1 (by decide)
      exact ⟨cpE D en s2, rdR_cpE h2.1, fun S A o hC h => cp_stopC 0 hC h2.1 h (Or.inl d2), fun S B hC h => cp_stopM he.2 h2.1 h (Or.inl d2)⟩
  obtain ⟨stf, rf, l1, l2⟩ := lp
  refine ⟨stf, rf, fun S A o hC h => ?_, fun S B hC h => ?_⟩
  · obtain ⟨A1, k1, k2⟩ := a4 S A o hC h
    obtain ⟨A', f, p⟩ := gTellC (q := q) (k := 13) (c := w64 D ≤ w64 12000) (X := fun U V => EV q 157 19 [some (.ref 29), some (.ref 9), some (vL D), none, none, none] [] U none V) (P := fun U => CR S U o en stf) a1 hC.2.2.1 k2 (fun A2 j1 => by
      rw [← e2] at j1
      obtain ⟨A', i1, i2⟩ := l1 S A2 o hC j1
      exact ⟨A', vc_Copies_openCopies_19 _ i1, i2⟩)
    exact ⟨S, A', EY.refl _ _, vc_Copies_openCopies ⟨D, A1, k1, f⟩, _, _, p⟩
  · obtain ⟨B1, k1, k2⟩ := a5 S B hC h
    obtain ⟨B', f, p⟩ := gTellM (q := q) (k := 13) (C := fun _ => w64 D ≤ w64 12000) (c := w64 D ≤ w64 12000) (X := fun U V => EV q 360 26 [some (.ref 367), some (vL D), none, none, none, none, none, none, none, none] [] U none V) (P := fun U => MR S U en stf) a1 he.2 k2 Iff.rfl (fun B2 j1 => by
      rw [← e2] at j1
      exact l2 S B2 hC j1)
    exact ⟨S, B', EY.refl _ _, vc_MD_openCopies ⟨D, B1, k1, f⟩, _, p⟩
end CopiesO
