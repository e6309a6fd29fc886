/-! open, kind 7: FRAME, all -/
section FrameR
variable {q : Nat × (Nat → Int32)} {en : Int}
/-- behind the blocks: the class at 151 47, the reference at 358 221 -/
theorem fr_tail {t : Int → Int} {f td : Int} {st : Rd} (he : 0 ≤ en ∧ en ≤ 6000) (ht : ∀ k : Int, 0 ≤ k → k < en → 0 ≤ t k ∧ t k < 256) (hr : rdR en st) : ∃ stf : Rd, rdR en stf ∧ (∀ (S A : ms) (o : Nat) (x2 : Int), RdC S o en t → S.1 29 2 = f → S.2.1 29 3 = td → CR S A o en st → ∃ A', EV q 151 47 [some (.ref 29), some (.ref 9), some (vI x2), none, none] [] A none A' ∧ CR S A' o en stf) ∧ ∀ (S B : ms) (x2 x5 x6 x7 : Int), RdM S en t → MR S B en st → ∃ B', EV q 358 221 [some (.ref 367), some (vI f), some (vI x2), some (vL td), none, some (vI x5), some (vI x6), some (vI x7), none, none] [] B none B' ∧ MR S B' en stf := by
  -- from 103 and 270 on
  have last : ∀ s : Rd, rdR en s → ∃ stf : Rd, rdR en stf ∧ (∀ (S A : ms) (o : Nat), RdC S o en t → S.1 29 2 = f → S.2.1 29 3 = td → CR S A o en s → ∃ A', EV q 151 103 [some (.ref 29), some (.ref 9), none, none, none] [] A none A' ∧ CR S A' o en stf) ∧ ∀ (S B : ms) (x2 x5 x6 x7 : Int), RdM S en t → MR S B en s → ∃ B', EV q 358 270 [some (.ref 367), some (vI f), some (vI x2), some (vL td), none, some (vI x5), some (vI x6), some (vI x7), none, none] [] B none B' ∧ MR S B' en stf := by
    intro s rs
    obtain ⟨s1, e1⟩ : ∃ s1 : Rd, s1 = if (w32 (bA f 8) = 0 ∨ w64 td = w64 (w32 s.2.2.2.1)) then s else rdTell 48 s := ⟨_, rfl⟩
    have h1 : rdR en s1 ∧ Fw s s1 := by rw [e1]; exact rd_gt (by decide) rs
    refine ⟨rdEnd en s1, rdR_end h1.1, fun S A o hC hf htd h => ?_, fun S B x2 x5 x6 x7 hC h => ?_⟩
    · have ho := hC.2.2.1
      have e29 : A.1 29 2 = f := by
        rw [h.2.2.2 29 2 (by omega) (by omega) (by omega)]
        exact hf
      have e293 : A.2.1 29 3 = td := by rw [h.1]; exact htd
      have fin : ∀ A1, CR S A1 o en s1 → ∃ A', EV q 151 135 [some (.ref 29), some (.ref 9), none, none, none] [] A1 none A' ∧ CR S A' o en (rdEnd en s1) := by
        intro A1 k1
        obtain ⟨A', j1, j2⟩ := sp_end (q := q) hC h1.1 k1
        exact ⟨A', vc_Copies_openFrame_135 ⟨A', j1, rfl, rfl⟩, j2⟩
      by_cases c : w32 (bA f 8) = 0 ∨ w64 td = w64 (w32 s.2.2.2.1)
      · rw [if_pos c] at e1
        obtain ⟨A', k1, k2⟩ := fin A (by rw [e1]; exact h)
        refine ⟨A', vc_Copies_openFrame_103 ?_, k2⟩
        rw [e29, e293]
        refine ⟨fun _ => k1, fun y => ⟨o, 12000, by rw [h.1]; exact hC.1, hC.2.1, ?_⟩⟩
        rw [h.2.2.1.1]
        exact cY (by rcases c with c | c; exact absurd c y; exact c) k1
      · rw [if_neg c] at e1
        obtain ⟨A1, j1, j2⟩ := sp_tell (q := q) (k := 48) rs ho h
        obtain ⟨A', k1, k2⟩ := fin A1 (by rw [e1]; exact j2)
        refine ⟨A', vc_Copies_openFrame_103 ?_, k2⟩
        rw [e29, e293]
        refine cNo (fun y => c (Or.inl y)) ⟨o, 12000, by rw [h.1]; exact hC.1, hC.2.1, ?_⟩
        rw [h.2.2.1.1]
        exact cNo (fun y => c (Or.inr y)) ⟨A1, j1, k1⟩
    · have fin : ∀ B1, MR S B1 en s1 → ∃ B', EV q 358 300 [some (.ref 367), some (vI f), some (vI x2), some (vL td), none, some (vI x5), some (vI x6), some (vI x7), none, none] [] B1 none B' ∧ MR S B' en (rdEnd en s1) := by
        intro B1 k1
        obtain ⟨B', j1, j2⟩ := md_end (q := q) he.2 h1.1 k1
        exact ⟨B', vc_MD_openFrame_300 _ _ _ _ _ _ ⟨B', j1, rfl, rfl⟩, j2⟩
      have kf := md_fine (q := q) rs h
      by_cases c : (w32 (bA f 8) = 0 ∨ w64 td = w64 (w32 s.2.2.2.1)) ∨ s.1 ≠ 0
      · have e2 : s1 = s := by
          rcases c with c | c
          · rw [if_pos c] at e1
            exact e1
          · exact h1.2.1 c
        obtain ⟨B', k1, k2⟩ := fin B (by rw [e2]; exact h)
        refine ⟨B', vc_MD_openFrame_270 _ _ _ _ _ _ ⟨_, B, kf, fun _ => k1, fun y => ⟨fun _ => k1, fun y2 => ?_⟩⟩, k2⟩
        rw [h.2.2.1.1]
        refine cY ?_ k1
        rcases c with (c | c) | c
        · exact absurd c y2
        · exact c
        · rw [if_neg c] at y
          exact absurd (by decide) y
      · have c1 : ¬ (w32 (bA f 8) = 0 ∨ w64 td = w64 (w32 s.2.2.2.1)) := fun y => c (Or.inl y)
        have c2 : s.1 = 0 := Classical.byContradiction fun y => c (Or.inr y)
        rw [if_neg c1] at e1
        rw [if_pos c2] at kf
        obtain ⟨B1, j1, j2⟩ := md_tell (q := q) (k := 48) rs he.2 h
        obtain ⟨B', k1, k2⟩ := fin B1 (by rw [e1]; exact j2)
        refine ⟨B', vc_MD_openFrame_270 _ _ _ _ _ _ ⟨1, B, kf, cNo (by decide) (cNo (fun y => c1 (Or.inl y)) ?_)⟩, k2⟩
        rw [h.2.2.1.1]
        exact cNo (fun y => c1 (Or.inr y)) ⟨B1, j1, k1⟩
  have wr : w32 st.1 = st.1 := w32_of (by have := hr.1; omega)
  have e29 : ∀ (S A : ms) (o : Nat), (300 < o ∨ o = 7) → S.1 29 2 = f → CR S A o en st → A.1 29 2 = f := fun S A o ho hf h => by
    rw [h.2.2.2 29 2 (by omega) (by omega) (by omega)]
    exact hf
  by_cases c4 : w32 (bA f 4) = 0
  · obtain ⟨stf, rf, l1, l2⟩ := last st hr
    refine ⟨stf, rf, fun S A o x2 hC hf htd h => ?_, fun S B x2 x5 x6 x7 hC h => ?_⟩
    · obtain ⟨A', k1, k2⟩ := l1 S A o hC hf htd h
      refine ⟨A', vc_Copies_openFrame_47 _ ?_, k2⟩
      rw [e29 S A o hC.2.2.1 hf h]
      exact ⟨fun _ => k1, fun _ => cY c4 k1⟩
    · obtain ⟨B', k1, k2⟩ := l2 S B x2 x5 x6 x7 hC h
      exact ⟨B', vc_MD_openFrame_221 _ _ _ _ _ _ (cY c4 k1), k2⟩
  · obtain ⟨z, s1, ⟨a1, a2, a2'⟩, a3, a3', a4, a5⟩ := jlwT (q := q) ht (n := 4) (by omega) (by omega) hr
    by_cases c0 : st.1 ≠ 0
    · -- a rule is told
      have es : s1 = st := a2.1 c0
      obtain ⟨stf, rf, l1, l2⟩ := last st hr
      refine ⟨stf, rf, fun S A o x2 hC hf htd h => ?_, fun S B x2 x5 x6 x7 hC h => ?_⟩
      · obtain ⟨A', k1, k2⟩ := l1 S A o hC hf htd h
        refine ⟨A', vc_Copies_openFrame_47 _ ?_, k2⟩
        rw [h.2.1.2.1, wr]
        exact cY c0 k1
      · obtain ⟨B1, j1, j2⟩ := a5 S B hC h
        rw [es] at j2
        obtain ⟨B', k1, k2⟩ := l2 S B1 x2 x5 x6 x7 hC j2
        have kf := md_fine (q := q) hr j2
        rw [if_neg c0] at kf
        exact ⟨B', vc_MD_openFrame_221 _ _ _ _ _ _ (cNo c4 ⟨z, B1, j1, 0, B1, kf, cY (by decide) k1⟩), k2⟩
    · have c1 : st.1 = 0 := by omega
      have r3 := a1.2.2.1
      obtain ⟨n, en'⟩ : ∃ n : Nat, s1.2.2.2.1 = n := ⟨s1.2.2.2.1.toNat, by omega⟩
      obtain ⟨m, y1, y2⟩ := jx (q := q) n (fun k => s1.2.2.2.2 k)
      obtain ⟨s2, e2⟩ : ∃ s2 : Rd, s2 = if (w64 z = w64 ((w32 m) % 4294967296)) then s1 else rdTell 47 s1 := ⟨_, rfl⟩
      have h2 : rdR en s2 ∧ Fw s1 s2 := by rw [e2]; exact rd_gt (by decide) a1
      obtain ⟨stf, rf, l1, l2⟩ := last s2 h2.1
      refine ⟨stf, rf, fun S A o x2 hC hf htd h => ?_, fun S B x2 x5 x6 x7 hC h => ?_⟩
      · obtain ⟨A1, j1, j2⟩ := a4 S A o hC (CR_CT h)
        have ro : A1.2.2 9 1 = o := by rw [j2.1]; exact hC.1
        have km := y1 A1 (o + 1) 12000 0 ⟨hC.2.1.2, by decide, by decide, by omega, fun k hk => ⟨a1.2.2.2.1 k (by omega) (by omega), by rw [Int.zero_add]; exact j2.2.2.1.2 k (by omega) (by omega)⟩⟩
        rw [Int.zero_add, ← en'] at km
        obtain ⟨A', k1, k2⟩ := gTellC (q := q) (k := 47) (c := w64 z = w64 ((w32 m) % 4294967296)) (X := fun U V => EV q 151 103 [some (.ref 29), some (.ref 9), none, none, none] [] U none V) (P := fun U => CR S U o en stf) a1 hC.2.2.1 j2 (fun A2 i1 => by
          rw [← e2] at i1
          exact l1 S A2 o hC hf htd i1)
        refine ⟨A', vc_Copies_openFrame_47 _ ?_, k2⟩
        rw [h.2.1.2.1, wr, e29 S A o hC.2.2.1 hf h]
        refine cNN c1 (cNo c4 ⟨z, A1, j1, o, 12000, ro, hC.2.1, o, 12000, ro, hC.2.1, m, A1, ?_, k1⟩)
        rw [j2.2.2.1.1]
        exact km
      · obtain ⟨B1, j1, j2⟩ := a5 S B hC h
        have km := y2 B1 375 12000 0 ⟨rfl, by decide, by decide, by omega, fun k hk => ⟨a1.2.2.2.1 k (by omega) (by omega), by
          rw [Int.zero_add, j2.2.2.1.2 k (by omega) (by omega)]
          have := a1.2.2.2.1 k (by omega) (by omega)
          show b8 (s1.2.2.2.2 k) % 256 = s1.2.2.2.2 k
          unfold b8
          omega⟩⟩
        obtain ⟨B', k1, k2⟩ := gTellB (q := q) (k := 47) (c := w64 z = w64 ((w32 m) % 4294967296)) (X := fun U V => EV q 358 270 [some (.ref 367), some (vI f), some (vI x2), some (vL td), none, some (vI x5), some (vI x6), some (vI x7), none, none] [] U none V) (P := fun U => MR S U en stf) a1 he.2 j2 (fun B2 i1 => by
          rw [← e2] at i1
          exact l2 S B2 x2 x5 x6 x7 hC i1)
        refine ⟨B', vc_MD_openFrame_221 _ _ _ _ _ _ (cNo c4 ⟨z, B1, j1, _, B1, md_fine a1 j2, k1.1, fun y => ⟨m, B1, ?_, k1.2 y⟩⟩), k2⟩
        rw [j2.2.2.1.1, en']
        exact km
/-- the blocks -/
theorem fr_loop {t : Int → Int} {f td : Int} (he : 0 ≤ en ∧ en ≤ 6000) (ht : ∀ k : Int, 0 ≤ k → k < en → 0 ≤ t k ∧ t k < 256) : ∀ (m i : Nat) (st : Rd), en - st.2.2.1 ≤ m → i + m ≤ 6000 → rdR en st → ∃ stf : Rd, rdR en stf ∧ (∀ (S A : ms) (o : Nat), RdC S o en t → S.1 29 2 = f → S.2.1 29 3 = td → CT S A o en st → ∃ A', EV q 151 7 [some (.ref 29), some (.ref 9), some (vI i), none, none] [] A none A' ∧ CR S A' o en stf) ∧ ∀ (S B : ms) (x2 x5 x6 : Int), RdM S en t → MR S B en st → ∃ B', EV q 358 166 [some (.ref 367), some (vI f), some (vI x2), some (vL td), none, some (vI x5), some (vI x6), some (vI 1), none, none] [] B none B' ∧ MR S B' en stf := by
  have stop : ∀ (i : Nat) (st : Rd), rdR en st → st.1 ≠ 0 → ∃ stf : Rd, rdR en stf ∧ (∀ (S A : ms) (o : Nat), RdC S o en t → S.1 29 2 = f → S.2.1 29 3 = td → CT S A o en st → ∃ A', EV q 151 7 [some (.ref 29), some (.ref 9), some (vI i), none, none] [] A none A' ∧ CR S A' o en stf) ∧ ∀ (S B : ms) (x2 x5 x6 : Int), RdM S en t → MR S B en st → ∃ B', EV q 358 166 [some (.ref 367), some (vI f), some (vI x2), some (vL td), none, some (vI x5), some (vI x6), some (vI 1), none, none] [] B none B' ∧ MR S B' en stf := by
    intro i st hr c
    have wr : w32 st.1 = st.1 := w32_of (by have := hr.1; omega)
    obtain ⟨stf, rf, l1, l2⟩ := fr_tail (q := q) (f := f) (td := td) he ht hr
    refine ⟨stf, rf, fun S A o hC hf htd h => ?_, fun S B x2 x5 x6 hC h => ?_⟩
    · obtain ⟨A', k1, k2⟩ := l1 S A o i hC hf htd (CT_CR c h)
      refine ⟨A', vc_Copies_openFrame_7 _ ⟨fun _ => k1, fun _ => ?_⟩, k2⟩
      rw [h.2.1.2.1, wr]
      exact cY c k1
    · obtain ⟨B', k1, k2⟩ := l2 S B x2 x5 x6 1 hC h
      have kf := md_fine (q := q) hr h
      rw [if_neg c] at kf
      exact ⟨B', vc_MD_openFrame_166 _ _ _ _ _ _ (cNo (by decide) ⟨0, B, kf, cY (by decide) k1⟩), k2⟩
  have turn : ∀ (i : Nat) (st : Rd), i ≤ 6000 → rdR en st → st.1 = 0 → (∀ stn : Rd, rdR en stn → Fw (rdTake t en st).2 stn → st.2.2.1 < en → ∃ stf : Rd, rdR en stf ∧ (∀ (S A : ms) (o : Nat), RdC S o en t → S.1 29 2 = f → S.2.1 29 3 = td → CT S A o en stn → ∃ A', EV q 151 7 [some (.ref 29), some (.ref 9), some (vI ((i : Int) + 1)), none, none] [] A none A' ∧ CR S A' o en stf) ∧ ∀ (S B : ms) (x2 x5 x6 : Int), RdM S en t → MR S B en stn → ∃ B', EV q 358 166 [some (.ref 367), some (vI f), some (vI x2), some (vL td), none, some (vI x5), some (vI x6), some (vI 1), none, none] [] B none B' ∧ MR S B' en stf) → ∃ stf : Rd, rdR en stf ∧ (∀ (S A : ms) (o : Nat), RdC S o en t → S.1 29 2 = f → S.2.1 29 3 = td → CT S A o en st → ∃ A', EV q 151 7 [some (.ref 29), some (.ref 9), some (vI i), none, none] [] A none A' ∧ CR S A' o en stf) ∧ ∀ (S B : ms) (x2 x5 x6 : Int), RdM S en t → MR S B en st → ∃ B', EV q 358 166 [some (.ref 367), some (vI f), some (vI x2), some (vL td), none, some (vI x5), some (vI x6), some (vI 1), none, none] [] B none B' ∧ MR S B' en stf := by
    intro i st hi hr c0 next
    have wr : w32 st.1 = st.1 := w32_of (by omega)
    have wi : Unit → w32 (i : Int) = i := fun _ => w32_of (by omega)
    have i0 : ¬ 1000000 ≤ (i : Int) := by omega
    obtain ⟨z, s1, ⟨a1, a2, a2'⟩, a3, a3', a4, a5⟩ := jlwT (q := q) ht (n := 4) (by omega) (by omega) hr
    have a3z : 0 ≤ z ∧ z < 4294967296 := a3
    have wz : w64 z = z := w64_of (by omega)
    have w0 : w64 0 = 0 := by decide
    have wr1 : w32 s1.1 = s1.1 := w32_of (by have := a1.1; omega)
    by_cases cz : z = 0
    · -- that was all
      obtain ⟨stf, rf, l1, l2⟩ := fr_tail (q := q) (f := f) (td := td) he ht a1
      refine ⟨stf, rf, fun S A o hC hf htd h => ?_, fun S B x2 x5 x6 hC h => ?_⟩
      · obtain ⟨A1, k1, k2⟩ := a4 S A o hC h
        obtain ⟨A', k3, k4⟩ := l1 S A1 o i hC hf htd k2
        refine ⟨A', vc_Copies_openFrame_7 _ ?_, k4⟩
        rw [wi (), h.2.1.2.1, wr]
        refine cNo i0 (cNN c0 ⟨z, A1, k1, ?_⟩)
        rw [wz, w0]
        exact cNN cz k3
      · obtain ⟨B1, k1, k2⟩ := a5 S B hC h
        obtain ⟨B', k3, k4⟩ := l2 S B1 x2 x5 x6 0 hC k2
        have kf := md_fine (q := q) hr h
        rw [if_pos c0] at kf
        refine ⟨B', vc_MD_openFrame_166 _ _ _ _ _ _ (cNo (by decide) ⟨1, B, kf, cNo (by decide) ⟨z, B1, k1, ?_⟩⟩), k4⟩
        rw [wz, w0]
        exact cY cz (vc_MD_openFrame_197 _ _ _ _ _ _ _ _ (cY (by decide) (vc_MD_openFrame_218 _ _ _ _ _ _ _ (vc_MD_openFrame_166 _ _ _ _ _ _ (cY (by decide) k3)))))
    · by_cases c1 : s1.1 ≠ 0
      · -- a rule was told
        obtain ⟨stf, rf, l1, l2⟩ := stop (i + 1) s1 a1 c1
        rw [show ((i + 1 : Nat) : Int) = (i : Int) + 1 by omega] at l1
        refine ⟨stf, rf, fun S A o hC hf htd h => ?_, fun S B x2 x5 x6 hC h => ?_⟩
        · obtain ⟨A1, k1, k2⟩ := a4 S A o hC h
          have k81 : ∀ (U : ms) (x4 x5 x6 x7 : Int), CR S U o en s1 → EV q 153 81 [some (.ref 29), some (.ref 9), some (vL z), none, some (vI x4), some (vI x5), some (vI x6), some (vI x7)] [] U none U := fun U x4 x5 x6 x7 hU => vc_Copies_openFrameBlock_81 _ _ _ _ _ (by rw [hU.2.1.2.1, wr1]; exact cNo c1 ⟨rfl, rfl⟩)
          have k64 : ∀ (U : ms) (x4 y0 y1 x5 x6 : Int), CR S U o en s1 → ∃ A', EV q 153 64 [some (.ref 29), some (.ref 9), some (vL z), none, some (vI x4), some (vI x5), some (vI x6), none] [vI y0, vI y1] U none A' ∧ CR S A' o en s1 := by
            intro U x4 y0 y1 x5 x6 hU
            by_cases c : w32 (y1 + y0) ≤ w32 x5
            · exact ⟨U, vc_Copies_openFrameBlock_64 _ _ _ _ _ _ (cY c (k81 U _ _ _ _ hU)), hU⟩
            · obtain ⟨U2, j1, j2⟩ := sp_tellAt (q := q) (k := 1) (p := x5) a1 hC.2.2.1 hU
              have e2 : rdTellAt 1 x5 s1 = s1 := by
                unfold rdTellAt
                rw [if_pos c1]
              rw [e2] at j2
              exact ⟨U2, vc_Copies_openFrameBlock_64 _ _ _ _ _ _ (cNo c ⟨U2, j1, k81 U2 _ _ _ _ j2⟩), j2⟩
          have k32 : ∀ (U : ms) (x4 : Int), CR S U o en s1 → ∃ A', EV q 153 32 [some (.ref 29), some (.ref 9), some (vL z), none, some (vI x4), none, none, none] [] U none A' ∧ CR S A' o en s1 := by
            intro U x4 hU
            by_cases c : w32 (bA (U.1 29 2) 16) = 0
            · obtain ⟨A', j1, j2⟩ := k64 U x4 0 (U.1 9 3 + x4) (U.1 9 2) (U.1 9 3) hU
              exact ⟨A', vc_Copies_openFrameBlock_32 _ _ (cY c j1), j2⟩
            · obtain ⟨A', j1, j2⟩ := k64 U x4 4 (U.1 9 3 + x4) (U.1 9 2) (U.1 9 3) hU
              exact ⟨A', vc_Copies_openFrameBlock_32 _ _ (cNo c j1), j2⟩
          obtain ⟨x4, ex4⟩ : ∃ x4, x4 = min (w64 (z % 2147483648)) (w64 65537) := ⟨_, rfl⟩
          have k26 : ∃ A', EV q 153 26 [some (.ref 29), some (.ref 9), some (vL z), none, some (vI x4), none, none, none] [] A1 none A' ∧ CR S A' o en s1 := by
            obtain ⟨U2, j1, j2⟩ := sp_tell (q := q) (k := 46) a1 hC.2.2.1 k2
            rw [rdTell_r c1] at j2
            obtain ⟨A', j3, j4⟩ := k32 U2 x4 j2
            exact ⟨A', vc_Copies_openFrameBlock_26 _ _ ⟨U2, j1, j3⟩, j4⟩
          have kblk : ∃ A', EV q 153 0 [some (.ref 29), some (.ref 9), some (vL z), none, none, none, none, none] [] A1 none A' ∧ CR S A' o en s1 := by
            by_cases u1 : w32 x4 = 0
            · obtain ⟨A', j1, j2⟩ := k26
              exact ⟨A', vc_Copies_openFrameBlock _ (by rw [← ex4]; exact cY u1 j1), j2⟩
            · by_cases u2 : w32 x4 ≤ 65536
              · obtain ⟨A', j1, j2⟩ := k32 A1 x4 k2
                exact ⟨A', vc_Copies_openFrameBlock _ (by rw [← ex4]; exact cNo u1 (cY u2 j1)), j2⟩
              · obtain ⟨A', j1, j2⟩ := k26
                exact ⟨A', vc_Copies_openFrameBlock _ (by rw [← ex4]; exact cNo u1 (cNo u2 j1)), j2⟩
          obtain ⟨A2, k3, k4⟩ := kblk
          obtain ⟨A', k5, k6⟩ := l1 S A2 o hC hf htd (CR_CT k4)
          refine ⟨A', vc_Copies_openFrame_7 _ ?_, k6⟩
          rw [wi (), h.2.1.2.1, wr]
          refine cNo i0 (cNN c0 ⟨z, A1, k1, ?_⟩)
          rw [wz, w0]
          exact cY cz ⟨A2, k3, k5⟩
        · obtain ⟨B1, k1, k2⟩ := a5 S B hC h
          obtain ⟨B', k3, k4⟩ := l2 S B1 x2 x5 x6 hC k2
          have kf := md_fine (q := q) hr h
          rw [if_pos c0] at kf
          have kf1 := md_fine (q := q) a1 k2
          rw [if_neg c1] at kf1
          refine ⟨B', vc_MD_openFrame_166 _ _ _ _ _ _ (cNo (by decide) ⟨1, B, kf, cNo (by decide) ⟨z, B1, k1, ?_⟩⟩), k4⟩
          rw [wz, w0]
          exact cNo cz (vc_MD_openFrame_197 _ _ _ _ _ _ _ _ (cNo (by decide) ⟨0, B1, kf1, cY (by decide) (vc_MD_openFrame_218 _ _ _ _ _ _ _ k3)⟩))
      · -- a block
        have c2 : s1.1 = 0 := by omega
        obtain ⟨stn, rn, fn, pc, pm⟩ := fr_block (q := q) (z := z) (f := f) he ht (by omega) a1 c2
        have t0 := Fw_0 a3' c2
        have t1 := tk1 t0
        have cn : st.2.2.1 < en := by
          have := (rdR_take (t := t) hr).2.1
          omega
        obtain ⟨stf, rf, l1, l2⟩ := next stn rn (Fw_t a3' fn) cn
        refine ⟨stf, rf, fun S A o hC hf htd h => ?_, fun S B x2 x5 x6 hC h => ?_⟩
        · obtain ⟨A1, k1, k2⟩ := a4 S A o hC h
          obtain ⟨A2, k3, k4⟩ := pc S A1 o hC hf k2
          obtain ⟨A', k5, k6⟩ := l1 S A2 o hC hf htd k4
          refine ⟨A', vc_Copies_openFrame_7 _ ?_, k6⟩
          rw [wi (), h.2.1.2.1, wr]
          refine cNo i0 (cNN c0 ⟨z, A1, k1, ?_⟩)
          rw [wz, w0]
          exact cY cz ⟨A2, k3, k5⟩
        · obtain ⟨B1, k1, k2⟩ := a5 S B hC h
          obtain ⟨B2, k5, k6⟩ := pm S B1 hC k2
          obtain ⟨B', k3, k4⟩ := l2 S B2 x2 x5 x6 hC k6
          have kf := md_fine (q := q) hr h
          rw [if_pos c0] at kf
          have kf1 := md_fine (q := q) a1 k2
          rw [if_pos c2] at kf1
          refine ⟨B', vc_MD_openFrame_166 _ _ _ _ _ _ (cNo (by decide) ⟨1, B, kf, cNo (by decide) ⟨z, B1, k1, ?_⟩⟩), k4⟩
          rw [wz, w0]
          exact cNo cz (vc_MD_openFrame_197 _ _ _ _ _ _ _ _ (cNo (by decide) ⟨1, B1, kf1, cNo (by decide) ⟨B2, k5, vc_MD_openFrame_218 _ _ _ _ _ _ _ k3⟩⟩))
  intro m
  induction m with
  | zero =>
    intro i st hm hi hr
    by_cases c : st.1 ≠ 0
    · exact stop i st hr c
    · exact turn i st (by omega) hr (by omega) (fun stn _ _ y => absurd y (by omega))
  | succ m ih =>
    intro i st hm hi hr
    by_cases c : st.1 ≠ 0
    · exact stop i st hr c
    · refine turn i st (by omega) hr (by omega) (fun stn rn fn y => ?_)
      have n1 : (rdTake t en st).2.2.2.1 = st.2.2.1 + 1 := by
        unfold rdTake
        rw [if_neg c, if_pos y]
      have ei : ((i + 1 : Nat) : Int) = (i : Int) + 1 := by omega
      have := ih (i + 1) stn (by have := fn.2; omega) (by omega) rn
      rw [ei] at this
      exact this
/-- open(7) -/
theorem oj_frame {t : Int → Int} (he : 0 ≤ en ∧ en ≤ 6000) (ht : ∀ k : Int, 0 ≤ k → k < en → 0 ≤ t k ∧ t k < 256) : ∃ stf : Rd, rdR en stf ∧ OJ q en t 151 0 358 0 [some (.ref 29), some (.ref 9), none, none, none] [none, none, none, none, none, none, none, none, none] (fun a _ => a = 29) X0 st0 stf := by
  obtain ⟨s1, f, td, r1, hf, pc, pm⟩ := fr_head (q := q) he ht
  obtain ⟨stf, rf, l1, l2⟩ := fr_loop (q := q) (f := f) (td := td) he ht 6000 0 s1 (by have := r1.2.1; omega) (by omega) r1
  refine ⟨stf, rf, fun S A o hC h => ?_, fun S B hC h => ?_⟩
  · obtain ⟨S', A1, k1, k2, k3, k4, k5⟩ := pc S A o hC h
    obtain ⟨A', k6, k7⟩ := l1 S' A1 o (RdC_ey hC k1 (fun _ => by decide)) k2 k3 (CR_CT k5)
    exact ⟨S', A', k1, vc_Copies_openFrame ⟨A1, k4, k6⟩, _, _, k7⟩
  · obtain ⟨B', k1, k2⟩ := pm S B (fun U => MR S U en stf) hC h (fun B1 x2 x5 x6 j1 => by
      obtain ⟨B', j2, j3⟩ := l2 S B1 x2 x5 x6 hC j1
      exact ⟨B', vc_MD_openFrame_163 _ _ _ _ _ j2, j3⟩)
    exact ⟨S, B', EY.refl _ _, k1, _, k2⟩
end FrameR
