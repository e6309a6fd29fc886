/-! open, kind 7: FRAME, a block -/
section FrameQ
variable {q : Nat × (Nat → Int32)} {en : Int}
theorem MR_win {S B : ms} {e2 : Int} {st st' : Rd} (a b : Int) (h : MR S B e2 st) (hr : st'.1 = st.1) (hp : st'.2.1 = st.2.1) (hc : st'.2.2.2 = st.2.2.2) (ha : st'.1 = 0 → st'.2.2.1 = a) : MR S (wI (wI B 367 16 a) 367 15 b) b st' := by
  obtain ⟨h1, ⟨a1, a0, a2, a3, a4⟩, ⟨a6, a7⟩, h4⟩ := h
  have q2 : ∀ (c : Nat) (k : Int), (wI (wI B 367 16 a) 367 15 b).1 c k = if c = 367 ∧ k = 15 then b else if c = 367 ∧ k = 16 then a else B.1 c k := fun _ _ => rfl
  refine ⟨h1, ⟨fun _ => ?_, fun y => ?_, ?_, ?_, fun y => ?_⟩, ⟨?_, fun k k0 k1 => ?_⟩, fun c k n1 n2 => ?_⟩
  · rw [q2, if_pos ⟨rfl, rfl⟩]
  · rw [q2, if_neg (by decide), if_neg (by decide), a0 (by rw [← hr]; exact y)]
  · rw [q2, if_neg (by decide), if_neg (by decide), a2, hr]
  · rw [q2, if_neg (by decide), if_neg (by decide), a3, hp]
  · rw [q2, if_neg (by decide), if_pos ⟨rfl, rfl⟩, if_pos rfl, ha y, Int.sub_zero]
  · rw [q2, if_neg (by decide), if_neg (by decide), a6, hc]
  · rw [hc] at k1 ⊢
    rw [q2, if_neg (by omega), if_neg (by omega), a7 k k0 k1]
  · rw [q2, if_neg (by omega), if_neg (by omega), h4 c k n1 n2]
theorem sp_copyT {S A : ms} {o : Nat} {t : Int → Int} (hC : RdC S o en t) {n : Nat} (hn : n < 1000000000) (hn1 : 1 ≤ n) {st : Rd} (hr : rdR en st) (h : CT S A o en st) : ∃ A', EV q 119 0 [some (.ref 9), some (vL n), none, none, none] [] A none A' ∧ CR S A' o en (rdCopy t en n st) := by
  have wr : w32 st.1 = st.1 := w32_of (by have := hr.1; omega)
  by_cases c : st.1 ≠ 0
  · rw [rdCopy_r t c]
    exact ⟨A, sp_copy0 c hr (CT_CR c h), CT_CR c h⟩
  · obtain ⟨A1, k1, k2⟩ := sp_takeT (q := q) hC hr h
    obtain ⟨A2, k3, k4⟩ := sp_emit (q := q) (v := (rdTake t en st).1) hC (rdR_take hr) k2
    obtain ⟨A3, k5, k6⟩ := lp_copyC (q := q) hC hn (n - 1) 1 A2 _ (by omega) (rdR_emit (rdR_take hr)) k4
    have en' : n = (n - 1) + 1 := by omega
    refine ⟨A3, vc_Source_emitTaken _ (vc_Source_emitTaken_2 _ _ ?_), ?_⟩
    · have wn : Unit → w64 ((n : Nat) : Int) = n := fun _ => w64_of (by omega)
      have w0 : w64 0 = 0 := by decide
      rw [wn (), w0, h.2.1.2.1, wr]
      exact cNo (by omega) (cNo c ⟨_, A1, k1, A2, k3, k5⟩)
    · rw [en', rdCopy_s, if_neg c]
      exact k6
/-- what is inside a block: the class behind window, the reference at 359 160 -/
theorem fr_in {t : Int → Int} {z f p N : Int} {st : Rd} (he : 0 ≤ en ∧ en ≤ 6000) (ht : ∀ k : Int, 0 ≤ k → k < en → 0 ≤ t k ∧ t k < 256) (hz : 0 ≤ z ∧ z < 4294967296) (hN : 1 ≤ N ∧ p + N ≤ en) (hp : st.2.2.1 = p) (hr : rdR en st) (c0 : st.1 = 0) : ∃ si : Rd, rdR (p + N) si ∧ Fw st si ∧ (∀ (S A : ms) (o : Nat) (x5 x7 : Int), RdC S o en t → S.1 29 2 = f → CT S A o (p + N) st → ∃ A2, CR S A2 o (p + N) si ∧ ∀ S' : ms, EV q 153 198 [some (.ref 29), some (.ref 9), some (vL z), none, some (vI N), some (vI x5), some (vI p), some (vI x7)] [] A2 none S' → ((w64 z ≤ w64 2147483647) → ((w32 (bA (A.1 29 2) 32) = 0) → EV q 153 195 [some (.ref 29), some (.ref 9), some (vL z), none, some (vI N), some (vI x5), some (vI p), some (vI x7)] [vI 0, .ref 9, .ref 29] A none S') ∧ ((¬ w32 (bA (A.1 29 2) 32) = 0) → EV q 153 195 [some (.ref 29), some (.ref 9), some (vL z), none, some (vI N), some (vI x5), some (vI p), some (vI x7)] [vI 1, .ref 9, .ref 29] A none S')) ∧ ((¬ w64 z ≤ w64 2147483647) → ∃ (S3 : ms), EV q 119 0 [some (.ref 9), some (vL (w32 N)), none, none, none] [] A none S3 ∧ EV q 153 198 [some (.ref 29), some (.ref 9), some (vL z), none, some (vI N), some (vI x5), some (vI p), some (vI x7)] [] S3 none S')) ∧ ∀ (S B : ms) (x4 x5 x7 y : Int) (P : ms → Prop), (x4 = 0 ↔ z ≤ 2147483647) → (x4 = 0 ∨ x4 = 1) → RdM S en t → MR S B en (st.1, st.2.1, y, st.2.2.2) → (∀ B1, MR S B1 (p + N) si → ∃ T, EV q 359 236 [some (.ref 367), some (vL z), none, some (vI f), some (vI x4), some (vL x5), none, some (vI x7), some (vI p), some (vI (p + N)), some (vI en), none] [] B1 none T ∧ P T) → ∃ T, EV q 359 160 [some (.ref 367), some (vL z), none, some (vI f), some (vI x4), some (vL x5), none, some (vI x7), some (vI p), some (vI (p + N)), none, none] [] B none T ∧ P T := by
  have r2 := hr.2.1
  have wz : w64 z = z := w64_of (by omega)
  have w31 : w64 2147483647 = 2147483647 := by decide
  have he2 : 0 ≤ p + N ∧ p + N ≤ 6000 := by omega
  have ht2 : ∀ k : Int, 0 ≤ k → k < p + N → 0 ≤ t k ∧ t k < 256 := fun k k0 k1 => ht k k0 (by omega)
  have hr2 : rdR (p + N) st := ⟨hr.1, ⟨r2.1, by omega⟩, hr.2.2⟩
  have wN : w32 N = N := w32_of (by omega)
  obtain ⟨n, en'⟩ : ∃ n : Nat, N = n := ⟨N.toNat, by omega⟩
  by_cases cz : z ≤ 2147483647
  · -- FAST
    obtain ⟨al, hal, eal⟩ : ∃ al : Int, (al = 0 ∨ al = 1) ∧ ((w32 (bA f 32) = 0 ∧ al = 0) ∨ (¬ w32 (bA f 32) = 0 ∧ al = 1)) := by
      by_cases c : w32 (bA f 32) = 0
      · exact ⟨0, Or.inl rfl, Or.inl ⟨c, rfl⟩⟩
      · exact ⟨1, Or.inr rfl, Or.inr ⟨c, rfl⟩⟩
    obtain ⟨si, rs, fs, l1, l2⟩ := jfast (q := q) (al := al) (fl := st.2.2.2.1) he2 ht2 hal hr.2.2.1 6000 0 st (by omega) (by omega) hr2
    refine ⟨si, rs, fs, fun S A o x5 x7 hC hf h => ?_, fun S B x4 x5 x7 y P hx hx' hC h nx => ?_⟩
    · have hC2 := RdC_le hC he2.1 hN.2
      obtain ⟨A2, k1, k2⟩ := l1 S A o hC2 h
      have ho := hC.2.2.1
      have e29 : A.1 29 2 = f := by
        rw [h.2.2.2 29 2 (by omega) (by omega) (by omega)]
        exact hf
      have k3 : EV q 149 0 [some (.ref 29), some (.ref 9), some (vI al), none, none, none, none] [] A none A2 := vc_Copies_openFast _ ⟨o, 12000, by rw [h.1]; exact hC.1, hC.2.1, by rw [h.2.2.1.1]; exact k1⟩
      refine ⟨A2, k2, fun S' k4 => ?_⟩
      rw [wz, w31, e29]
      refine cY cz ?_
      have k195 := vc_Copies_openFrameBlock_195 _ _ _ _ _ _ ⟨A2, k3, k4⟩
      rcases eal with ⟨y1, y2⟩ | ⟨y1, y2⟩
      · subst y2
        exact cY y1 k195
      · subst y2
        exact cNo y1 k195
    · have x0 : x4 = 0 := hx.2 cz
      subst x0
      have j1 := MR_win (st' := st) p (p + N) h rfl rfl rfl (fun _ => hp)
      obtain ⟨B2, k1, k2⟩ := l2 S _ (RdM_le hC he2.1 hN.2) j1
      obtain ⟨T, k3, k4⟩ := nx B2 k2
      refine ⟨T, vc_MD_frameBlock_160 _ _ _ _ _ _ _ (fun S1 f1 S2 f2 => ?_), k4⟩
      subst f1 f2
      rw [h.2.1.1 c0]
      refine cY (by decide) ?_
      have e22 : (wI (wI B 367 16 p) 367 15 (p + N)).1 367 22 = st.2.2.2.1 := j1.2.2.1.1
      rw [e22]
      have k233 : EV q 359 233 [some (.ref 367), some (vL z), none, some (vI f), some (vI 0), some (vL x5), none, some (vI x7), some (vI p), some (vI (p + N)), some (vI en), none] [vI al, vI st.2.2.2.1, .ref 367] (wI (wI B 367 16 p) 367 15 (p + N)) none T := vc_MD_frameBlock_233 _ _ _ _ _ _ _ _ _ _ ⟨B2, vc_MD_openFast _ _ k1, k3⟩
      rcases eal with ⟨y1, y2⟩ | ⟨y1, y2⟩
      · subst y2
        exact cY y1 k233
      · subst y2
        exact cNo y1 k233
  · -- as they stand
    refine ⟨rdCopy t (p + N) n st, rdR_copy n hr2, Fw_copy n, fun S A o x5 x7 hC hf h => ?_, fun S B x4 x5 x7 y P hx hx' hC h nx => ?_⟩
    · have hC2 := RdC_le hC he2.1 hN.2
      obtain ⟨A2, k1, k2⟩ := sp_copyT (q := q) hC2 (n := n) (by omega) (by omega) hr2 h
      refine ⟨A2, k2, fun S' k4 => ?_⟩
      rw [wz, w31, wN]
      refine cNo cz ⟨A2, ?_, k4⟩
      rw [en']
      exact k1
    · have x1 : x4 = 1 := by
        rcases hx' with y | y
        · exact absurd (hx.1 y) cz
        · exact y
      subst x1
      have j1 := MR_win (st' := st) p (p + N) h rfl rfl rfl (fun _ => hp)
      have hC2 := RdM_le hC he2.1 hN.2
      have we : w32 (p + N) = p + N := w32_of (by omega)
      have lp : ∀ (m : Nat) (U : ms) (s : Rd), (s.1 = 0 → s.2.2.1 + m = p + N) → rdCopy t (p + N) m s = rdCopy t (p + N) n st → rdR (p + N) s → MR S U (p + N) s → ∃ T, EV q 359 183 [some (.ref 367), some (vL z), none, some (vI f), some (vI 1), some (vL x5), none, some (vI x7), some (vI p), some (vI (p + N)), some (vI en), none] [] U none T ∧ P T := by
        intro m
        induction m with
        | zero =>
          intro U s hs hst hrs hU
          have hst' : s = _ := hst
          obtain ⟨T, k1, k2⟩ := nx U (by rw [← hst']; exact hU)
          have wn : w32 s.2.2.1 = s.2.2.1 := w32_of (by have := hrs.2.1; omega)
          refine ⟨T, vc_MD_frameBlock_183 _ _ _ _ _ _ _ _ ⟨_, U, md_fine hrs hU, fun _ => k1, fun y => ?_⟩, k2⟩
          have d : s.1 = 0 := by
            apply Classical.byContradiction
            intro d
            rw [if_neg d] at y
            exact y (by decide)
          rw [hU.2.1.1 d, we, hU.2.1.2.2.2.2 d, if_pos rfl, Int.sub_zero, wn]
          exact cY (by have := hs d; omega) k1
        | succ m ih =>
          intro U s hs hst hrs hU
          have kf := md_fine (q := q) hrs hU
          rw [rdCopy_s] at hst
          by_cases c : s.1 ≠ 0
          · rw [if_pos c] at hst
            rw [if_neg c] at kf
            obtain ⟨T, k1, k2⟩ := nx U (by rw [← hst]; exact hU)
            exact ⟨T, vc_MD_frameBlock_183 _ _ _ _ _ _ _ _ ⟨0, U, kf, cY (by decide) k1⟩, k2⟩
          · have d : s.1 = 0 := by omega
            rw [if_neg c] at hst
            rw [if_pos d] at kf
            obtain ⟨U1, k1, k2⟩ := md_take (q := q) hC2 hrs hU
            obtain ⟨U2, k3, k4⟩ := md_emit (q := q) (v := (rdTake t (p + N) s).1) (rdR_take hrs) he2.2 k2
            have nx1 : (rdTake t (p + N) s).2.2.2.1 = s.2.2.1 + 1 := by
              unfold rdTake
              rw [if_neg c, if_pos (by have := hs d; omega)]
            obtain ⟨T, k5, k6⟩ := ih U2 _ (fun y => by
              have e1 : (rdEmit (rdTake t (p + N) s).1 (rdTake t (p + N) s).2).2.2.1 = (rdTake t (p + N) s).2.2.2.1 := by
                unfold rdEmit
                split
                · rfl
                · split <;> rfl
              rw [e1, nx1]
              have := hs d
              omega) hst (rdR_emit (rdR_take hrs)) k4
            have wn : w32 s.2.2.1 = s.2.2.1 := w32_of (by have := hrs.2.1; omega)
            refine ⟨T, vc_MD_frameBlock_183 _ _ _ _ _ _ _ _ ⟨1, U, kf, cNo (by decide) ?_⟩, k6⟩
            rw [hU.2.1.1 d, we, hU.2.1.2.2.2.2 d, if_pos rfl, Int.sub_zero, wn]
            exact cNo (by have := hs d; omega) ⟨_, U1, k1, U2, k3, k5⟩
      obtain ⟨T, k1, k2⟩ := lp n _ st (fun _ => by omega) rfl hr2 j1
      refine ⟨T, vc_MD_frameBlock_160 _ _ _ _ _ _ _ (fun S1 f1 S2 f2 => ?_), k2⟩
      subst f1 f2
      rw [h.2.1.1 c0]
      exact cNo (by decide) k1
/-- a block -/
theorem fr_block {t : Int → Int} {z f : Int} {st : Rd} (he : 0 ≤ en ∧ en ≤ 6000) (ht : ∀ k : Int, 0 ≤ k → k < en → 0 ≤ t k ∧ t k < 256) (hz : 1 ≤ z ∧ z < 4294967296) (hr : rdR en st) (c0 : st.1 = 0) : ∃ stn : Rd, rdR en stn ∧ Fw st stn ∧ (∀ (S A : ms) (o : Nat), RdC S o en t → S.1 29 2 = f → CR S A o en st → ∃ A', EV q 153 0 [some (.ref 29), some (.ref 9), some (vL z), none, none, none, none, none] [] A none A' ∧ CT S A' o en stn) ∧ ∀ (S B : ms), RdM S en t → MR S B en st → ∃ B', EV q 359 0 [some (.ref 367), some (vL z), none, some (vI f), none, none, none, none, none, none, none, none] [] B none B' ∧ MR S B' en stn := by
  obtain ⟨N, eN⟩ : ∃ N : Int, N = z % 2147483648 := ⟨_, rfl⟩
  obtain ⟨p, ep⟩ : ∃ p : Int, st.2.2.1 = p := ⟨_, rfl⟩
  have pl0 : st.2.1 = 0 := hr.2.2.2.2 c0
  have r2 := hr.2.1
  rw [ep] at r2
  have wN : w64 N = N := w64_of (by omega)
  have w65 : w64 65537 = 65537 := by decide
  have w66 : w64 65536 = 65536 := by decide
  have w0 : w64 0 = 0 := by decide
  have wm : w32 (min N 65537) = min N 65537 := w32_of (by omega)
  have wp : w32 p = p := w32_of (by omega)
  have we : w32 en = en := w32_of (by omega)
  have wz : w64 z = z := w64_of (by omega)
  have wz1 : w64 2147483648 = 2147483648 := by decide
  -- the reference as far as 29
  have ref29 : ∀ (S B T : ms), (∀ x4 : Int, (x4 = 0 ↔ z ≤ 2147483647) → (x4 = 0 ∨ x4 = 1) → EV q 359 29 [some (.ref 367), some (vL z), none, some (vI f), some (vI x4), none, none, none, none, none, none, none] [vL N] B none T) → EV q 359 0 [some (.ref 367), some (vL z), none, some (vI f), none, none, none, none, none, none, none, none] [] B none T := by
    intro S B T h
    refine vc_MD_frameBlock _ _ ?_
    rw [wz, wz1]
    by_cases c : z < 2147483648
    · refine cY c (vc_MD_frameBlock_13 _ _ _ (cY (by decide) ?_))
      have := h 0 ⟨fun _ => by omega, fun _ => rfl⟩ (Or.inl rfl)
      rw [show N = z by omega] at this
      exact this
    · refine cNo c (vc_MD_frameBlock_13 _ _ _ (cNo (by decide) ?_))
      have := h 1 ⟨fun y => absurd y (by decide), fun y => absurd y (by omega)⟩ (Or.inr rfl)
      rw [show N = z - 2147483648 by omega] at this
      exact this
  by_cases bad : N = 0 ∨ 65536 < N
  · -- no such size
    obtain ⟨s1, e1⟩ : ∃ s1, s1 = rdTell 46 st := ⟨_, rfl⟩
    have h1 : rdR en s1 ∧ Fw st s1 := by rw [e1]; exact ⟨rdR_tell hr (by decide), Fw_tellAt⟩
    have d1 : s1.1 ≠ 0 := by rw [e1]; exact rdTell_1 (by decide)
    have wr1 : w32 s1.1 = s1.1 := w32_of (by have := h1.1.1; omega)
    refine ⟨s1, h1.1, h1.2, fun S A o hC hf h => ?_, fun S B hC h => ?_⟩
    · obtain ⟨A1, k1, k2⟩ := sp_tell (q := q) (k := 46) hr hC.2.2.1 h
      rw [← e1] at k2
      have k81 : ∀ (U : ms) (x5 x6 x7 : Int), CR S U o en s1 → EV q 153 81 [some (.ref 29), some (.ref 9), some (vL z), none, some (vI (min N 65537)), some (vI x5), some (vI x6), some (vI x7)] [] U none U := fun U x5 x6 x7 hU => vc_Copies_openFrameBlock_81 _ _ _ _ _ (by rw [hU.2.1.2.1, wr1]; exact cNo d1 ⟨rfl, rfl⟩)
      have k64 : ∀ (y0 y1 x5 x6 : Int), ∃ A', EV q 153 64 [some (.ref 29), some (.ref 9), some (vL z), none, some (vI (min N 65537)), some (vI x5), some (vI x6), none] [vI y0, vI y1] A1 none A' ∧ CT S A' o en s1 := by
        intro y0 y1 x5 x6
        by_cases c : w32 (y1 + y0) ≤ w32 x5
        · exact ⟨A1, vc_Copies_openFrameBlock_64 _ _ _ _ _ _ (cY c (k81 A1 _ _ _ k2)), CR_CT k2⟩
        · obtain ⟨A2, j1, j2⟩ := sp_tellAt (q := q) (k := 1) (p := x5) h1.1 hC.2.2.1 k2
          have e2 : rdTellAt 1 x5 s1 = s1 := by
            unfold rdTellAt
            rw [if_pos d1]
          rw [e2] at j2
          exact ⟨A2, vc_Copies_openFrameBlock_64 _ _ _ _ _ _ (cNo c ⟨A2, j1, k81 A2 _ _ _ j2⟩), CR_CT j2⟩
      have k26 : ∃ A', EV q 153 26 [some (.ref 29), some (.ref 9), some (vL z), none, some (vI (min N 65537)), none, none, none] [] A none A' ∧ CT S A' o en s1 := by
        by_cases c : w32 (bA (A1.1 29 2) 16) = 0
        · obtain ⟨A', j1, j2⟩ := k64 0 (A1.1 9 3 + min N 65537) (A1.1 9 2) (A1.1 9 3)
          exact ⟨A', vc_Copies_openFrameBlock_26 _ _ ⟨A1, k1, vc_Copies_openFrameBlock_32 _ _ (cY c j1)⟩, j2⟩
        · obtain ⟨A', j1, j2⟩ := k64 4 (A1.1 9 3 + min N 65537) (A1.1 9 2) (A1.1 9 3)
          exact ⟨A', vc_Copies_openFrameBlock_26 _ _ ⟨A1, k1, vc_Copies_openFrameBlock_32 _ _ (cNo c j1)⟩, j2⟩
      obtain ⟨A', j1, j2⟩ := k26
      refine ⟨A', vc_Copies_openFrameBlock _ ?_, j2⟩
      rw [← eN, wN, w65, wm]
      exact ⟨fun _ => j1, fun y => cNo (by omega) j1⟩
    · obtain ⟨B1, k1, k2⟩ := md_tell (q := q) (k := 46) hr he.2 h
      rw [← e1] at k2
      refine ⟨B1, ref29 S B B1 (fun x4 _ _ => vc_MD_frameBlock_29 _ _ _ _ ?_), k2⟩
      have k47 : EV q 359 47 [some (.ref 367), some (vL z), none, some (vI f), some (vI x4), some (vL N), none, none, none, none, none, none] [] B none B1 := vc_MD_frameBlock_47 _ _ _ _ ⟨B1, k1, rfl, rfl⟩
      rw [wN, w0, w66]
      exact ⟨fun _ => k47, fun y => cNo (by omega) k47⟩
  · have N1 : 1 ≤ N ∧ N ≤ 65536 := by omega
    have em : min N 65537 = N := by omega
    obtain ⟨b4, hb4, eb4⟩ : ∃ b4 : Int, (b4 = 0 ∨ b4 = 4) ∧ ((w32 (bA f 16) = 0 ∧ b4 = 0) ∨ (¬ w32 (bA f 16) = 0 ∧ b4 = 4)) := by
      by_cases c : w32 (bA f 16) = 0
      · exact ⟨0, Or.inl rfl, Or.inl ⟨c, rfl⟩⟩
      · exact ⟨4, Or.inr rfl, Or.inr ⟨c, rfl⟩⟩
    have wb4 : w32 b4 = b4 := w32_of (by omega)
    have wa : w32 (p + N + b4) = p + N + b4 := w32_of (by omega)
    have wd : w32 (en - p) = en - p := w32_of (by omega)
    have wd2 : w64 (en - p) = en - p := w64_of (by omega)
    have wnb : w64 (N + b4) = N + b4 := w64_of (by omega)
    have e29 : ∀ (S A : ms) (o : Nat) (s : Rd), (300 < o ∨ o = 7) → S.1 29 2 = f → CR S A o en s → A.1 29 2 = f := fun S A o s ho hf h => by
      rw [h.2.2.2 29 2 (by omega) (by omega) (by omega)]
      exact hf
    -- the heads
    have hc : ∀ (S A A' : ms) (o : Nat), RdC S o en t → S.1 29 2 = f → CR S A o en st → EV q 153 64 [some (.ref 29), some (.ref 9), some (vL z), none, some (vI N), some (vI en), some (vI p), none] [vI b4, vI (p + N)] A none A' → EV q 153 0 [some (.ref 29), some (.ref 9), some (vL z), none, none, none, none, none] [] A none A' := by
      intro S A A' o hC hf h k
      have k32 : EV q 153 32 [some (.ref 29), some (.ref 9), some (vL z), none, some (vI N), none, none, none] [] A none A' := by
        refine vc_Copies_openFrameBlock_32 _ _ ?_
        rw [e29 S A o st hC.2.2.1 hf h, h.2.1.1 c0, h.2.1.2.2.2.1 c0, ep]
        rcases eb4 with ⟨y1, y2⟩ | ⟨y1, y2⟩
        · subst y2
          exact cY y1 k
        · subst y2
          exact cNo y1 k
      refine vc_Copies_openFrameBlock _ ?_
      rw [← eN, wN, w65, em]
      have wN3 : w32 N = N := w32_of (by omega)
      rw [wN3]
      exact cNo (by omega) (cY N1.2 k32)
    have hm : ∀ (S B T : ms), (∀ x4 : Int, (x4 = 0 ↔ z ≤ 2147483647) → (x4 = 0 ∨ x4 = 1) → EV q 359 66 [some (.ref 367), some (vL z), none, some (vI f), some (vI x4), some (vL N), none, none, none, none, none, none] [vI b4] B none T) → EV q 359 0 [some (.ref 367), some (vL z), none, some (vI f), none, none, none, none, none, none, none, none] [] B none T := by
      intro S B T k
      refine ref29 S B T (fun x4 y1 y2 => vc_MD_frameBlock_29 _ _ _ _ ?_)
      have k66 := k x4 y1 y2
      rw [wN, w0, w66]
      refine cNo (by omega) (cY N1.2 ?_)
      rcases eb4 with ⟨u1, u2⟩ | ⟨u1, u2⟩
      · subst u2
        exact cY u1 k66
      · subst u2
        exact cNo u1 k66
    by_cases cl : p + N + b4 ≤ en
    case neg =>
      -- it does not fit
      obtain ⟨s1, e1⟩ : ∃ s1, s1 = rdTellAt 1 en st := ⟨_, rfl⟩
      have h1 : rdR en s1 ∧ Fw st s1 := by rw [e1]; exact ⟨rdR_tellAt hr (by decide), Fw_tellAt⟩
      have d1 : s1.1 ≠ 0 := by
        rw [e1]
        unfold rdTellAt
        rw [if_neg (by omega)]
        show (1 : Int) ≠ 0
        decide
      have wr1 : w32 s1.1 = s1.1 := w32_of (by have := h1.1.1; omega)
      refine ⟨s1, h1.1, h1.2, fun S A o hC hf h => ?_, fun S B hC h => ?_⟩
      · obtain ⟨A1, k1, k2⟩ := sp_tellAt (q := q) (k := 1) (p := en) hr hC.2.2.1 h
        rw [← e1] at k2
        refine ⟨A1, hc S A A1 o hC hf h (vc_Copies_openFrameBlock_64 _ _ _ _ _ _ ?_), CR_CT k2⟩
        rw [wa, we]
        exact cNo cl ⟨A1, k1, vc_Copies_openFrameBlock_81 _ _ _ _ _ (by rw [k2.2.1.2.1, wr1]; exact cNo d1 ⟨rfl, rfl⟩)⟩
      · obtain ⟨B1, k1, k2⟩ := md_tellAt (q := q) (k := 1) (p := en) hr h
        rw [← e1] at k2
        refine ⟨B1, hm S B B1 (fun x4 _ _ => vc_MD_frameBlock_66 _ _ _ _ _ ?_), k2⟩
        rw [wb4, wnb, h.2.1.1 c0, h.2.1.2.2.2.2 c0, if_pos rfl, Int.sub_zero, ep, wd, wd2]
        exact cNo (by omega) ⟨B1, k1, rfl, rfl⟩
    obtain ⟨si, rs, fs, pc, pm⟩ := fr_in (q := q) (z := z) (f := f) (p := p) (N := N) he ht (by omega) (by omega) ep hr c0
    -- what the block leaves
    obtain ⟨stn, est⟩ : ∃ stn : Rd, stn = (si.1, si.2.1, if si.1 = 0 then p + N + b4 else p, si.2.2.2) := ⟨_, rfl⟩
    have hn : stn.2.2.1 = if si.1 = 0 then p + N + b4 else p := by rw [est]
    have rn : rdR en stn := by
      rw [est]
      refine ⟨rs.1, ?_, rs.2.2⟩
      show 0 ≤ (if si.1 = 0 then p + N + b4 else p) ∧ (if si.1 = 0 then p + N + b4 else p) ≤ en
      split <;> omega
    have fn : Fw st stn := ⟨fun y => absurd c0 y, by
      rw [hn, ep]
      split <;> omega⟩
    -- the class from 149 on, when the sum is right
    have ok149 : ∀ (S A : ms) (o : Nat), RdC S o en t → S.1 29 2 = f → CT S A o en st → ∃ A', EV q 153 149 [some (.ref 29), some (.ref 9), some (vL z), none, some (vI N), some (vI en), some (vI p), some (vI (p + N + b4))] [] A none A' ∧ CT S A' o en stn := by
      intro S A o hC hf h
      obtain ⟨A1, k1, k2⟩ := sp_window (q := q) (st' := st) p (p + N) h hC.2.2.1 rfl rfl rfl (fun _ => ep)
      obtain ⟨A2, k3, k4⟩ := pc S A1 o en (p + N + b4) hC hf k2
      obtain ⟨A3, k5, k6⟩ := sp_window (q := q) (st' := stn) (p + N + b4) en (CR_CT k3) hC.2.2.1 (by rw [est]) (by rw [est]) (by rw [est]) (fun y => by
        rw [est] at y
        rw [hn, if_pos y])
      exact ⟨A3, vc_Copies_openFrameBlock_149 _ _ _ _ _ ⟨A1, k1, k4 A3 (vc_Copies_openFrameBlock_198 _ _ _ _ _ ⟨A3, k5, rfl, rfl⟩)⟩, k6⟩
    have ok160 : ∀ (S B : ms) (x4 y : Int), (x4 = 0 ↔ z ≤ 2147483647) → (x4 = 0 ∨ x4 = 1) → RdM S en t → MR S B en (st.1, st.2.1, y, st.2.2.2) → ∃ T, EV q 359 160 [some (.ref 367), some (vL z), none, some (vI f), some (vI x4), some (vL N), none, some (vI b4), some (vI p), some (vI (p + N)), none, none] [] B none T ∧ MR S T en stn := by
      intro S B x4 y y1 y2 hC h
      refine pm S B x4 N b4 y (fun T => MR S T en stn) y1 y2 hC h (fun B1 k1 => ?_)
      have wrs : w32 si.1 = si.1 := w32_of (by have := rs.1; omega)
      have fineV : EV q 333 0 [some (.ref 367)] [] (wI B1 367 15 en) (some (vI (if si.1 = 0 then 1 else 0))) (wI B1 367 15 en) := by
        refine vc_MD_fine ?_
        have e19 : (wI B1 367 15 en).1 367 19 = si.1 := by rw [rI_I, if_neg (by decide), k1.2.1.2.2.1]
        rw [e19, wrs]
        by_cases c : si.1 = 0
        · rw [if_pos c]
          exact cNN c ⟨rfl, rfl⟩
        · rw [if_neg c]
          exact cY c ⟨rfl, rfl⟩
      have fin : ∀ y0 : Int, (si.1 = 0 → y0 = p + N + b4) → MR S (wI (wI B1 367 15 en) 367 16 y0) en stn := by
        intro y0 hy
        obtain ⟨h1, ⟨a1, a0, a2, a3, a4⟩, ⟨a6, a7⟩, h4⟩ := k1
        have q2 : ∀ (c : Nat) (k : Int), (wI (wI B1 367 15 en) 367 16 y0).1 c k = if c = 367 ∧ k = 16 then y0 else if c = 367 ∧ k = 15 then en else B1.1 c k := fun _ _ => rfl
        rw [est]
        refine ⟨h1, ⟨fun _ => ?_, fun y => ?_, ?_, ?_, fun y => ?_⟩, ⟨?_, fun k k0 k1 => ?_⟩, fun c k n1 n2 => ?_⟩
        · rw [q2, if_neg (by decide), if_pos ⟨rfl, rfl⟩]
        · rw [q2, if_neg (by decide), if_neg (by decide), a0 y]
        · rw [q2, if_neg (by decide), if_neg (by decide), a2]
        · rw [q2, if_neg (by decide), if_neg (by decide), a3]
        · rw [q2, if_pos ⟨rfl, rfl⟩, hy y, if_pos rfl, Int.sub_zero]
          show p + N + b4 = if si.1 = 0 then p + N + b4 else p
          rw [if_pos y]
        · rw [q2, if_neg (by decide), if_neg (by decide), a6]
        · rw [q2, if_neg (by omega), if_neg (by omega), a7 k k0 k1]
        · rw [q2, if_neg (by omega), if_neg (by omega), h4 c k n1 n2]
      by_cases c : si.1 = 0
      · rw [if_pos c] at fineV
        exact ⟨_, vc_MD_frameBlock_236 _ _ _ _ _ _ _ _ (fun S1 f1 => by subst f1; exact ⟨1, _, fineV, cNo (by decide) (vc_MD_frameBlock_262 _ _ _ _ _ _ _ _ _ (fun S2 f2 => ⟨rfl, by subst f2; rfl⟩))⟩), fin (p + N + b4) (fun _ => rfl)⟩
      · rw [if_neg c] at fineV
        exact ⟨_, vc_MD_frameBlock_236 _ _ _ _ _ _ _ _ (fun S1 f1 => by subst f1; exact ⟨0, _, fineV, cY (by decide) (vc_MD_frameBlock_262 _ _ _ _ _ _ _ _ _ (fun S2 f2 => ⟨rfl, by subst f2; rfl⟩))⟩), fin _ (fun y => absurd y c)⟩
    have ok160b : ∀ (S B : ms) (y : Int), RdM S en t → MR S B en (st.1, st.2.1, y, st.2.2.2) → ∃ T, (∀ x4 : Int, (x4 = 0 ↔ z ≤ 2147483647) → (x4 = 0 ∨ x4 = 1) → EV q 359 160 [some (.ref 367), some (vL z), none, some (vI f), some (vI x4), some (vL N), none, some (vI b4), some (vI p), some (vI (p + N)), none, none] [] B none T) ∧ MR S T en stn := by
      intro S B y hC h
      by_cases cz : z ≤ 2147483647
      · obtain ⟨T, u1, u2⟩ := ok160 S B 0 y ⟨fun _ => cz, fun _ => rfl⟩ (Or.inl rfl) hC h
        refine ⟨T, fun x4 v1 v2 => ?_, u2⟩
        rw [v1.2 cz]
        exact u1
      · obtain ⟨T, u1, u2⟩ := ok160 S B 1 y ⟨fun y => absurd y (by decide), fun y => absurd y cz⟩ (Or.inr rfl) hC h
        refine ⟨T, fun x4 v1 v2 => ?_, u2⟩
        rcases v2 with v2 | v2
        · exact absurd (v1.1 v2) cz
        · rw [v2]
          exact u1
    have h64 : ∀ (S A A' : ms) (o : Nat), EV q 153 81 [some (.ref 29), some (.ref 9), some (vL z), none, some (vI N), some (vI en), some (vI p), some (vI (p + N + b4))] [] A none A' → EV q 153 64 [some (.ref 29), some (.ref 9), some (vL z), none, some (vI N), some (vI en), some (vI p), none] [vI b4, vI (p + N)] A none A' := by
      intro S A A' o k
      refine vc_Copies_openFrameBlock_64 _ _ _ _ _ _ ?_
      rw [wa, we]
      exact cY cl k
    have wr : w32 st.1 = st.1 := w32_of (by omega)
    rcases eb4 with ⟨y1, y2⟩ | ⟨y1, y2⟩
    · -- without a sum
      refine ⟨stn, rn, fn, fun S A o hC hf h => ?_, fun S B hC h => ?_⟩
      · obtain ⟨A', k1, k2⟩ := ok149 S A o hC hf (CR_CT h)
        refine ⟨A', hc S A A' o hC hf h (h64 S A A' o (vc_Copies_openFrameBlock_81 _ _ _ _ _ ?_)), k2⟩
        rw [h.2.1.2.1, wr, e29 S A o st hC.2.2.1 hf h]
        exact cY c0 (cY y1 k1)
      · obtain ⟨T0, k1, k2⟩ := ok160b S B st.2.2.1 hC h
        refine ⟨T0, hm S B T0 (fun x4 v1 v2 => vc_MD_frameBlock_66 _ _ _ _ _ ?_), k2⟩
        rw [wb4, wnb, h.2.1.1 c0, h.2.1.2.2.2.2 c0, if_pos rfl, Int.sub_zero, ep, wd, wd2]
        exact cY (by omega) (cY (by omega) (k1 x4 v1 v2))
    · -- with a sum behind it
      obtain ⟨n, en'⟩ : ∃ n : Nat, N = n := ⟨N.toNat, by omega⟩
      obtain ⟨m, u1, u2⟩ := jmix (q := q) ht p n (by omega) he.2
      rw [← en'] at u1 u2
      have lv1 : ∀ (A : ms), (∀ k : Int, 0 ≤ k → k < en → A.1 2 k = t k) → EV q 155 0 [some (.ref 2), some (vI (p + N)), some (vI 4), none, none, none] [] A (some (vL (lowV t (p + N) 4))) A := fun A hA => cw_lowV (n := 4) (by omega) (fun k k0 k1 => ⟨ht k (by omega) (by omega), hA k (by omega) (by omega)⟩)
      -- the reference's reading of the sum
      have lv2 : ∀ (S B : ms), RdM S en t → MR S B en st → ∃ B2, EV q 345 0 [some (.ref 367), some (vI 4), none, none, none] [] (wI B 367 16 (p + N)) (some (vL (lowV t (p + N) 4))) B2 ∧ MR S B2 en (0, 0, p + N + 4, st.2.2.2) := by
        intro S B hC h
        have j1 : MR S (wI B 367 16 (p + N)) en (0, 0, p + N, st.2.2.2) := by
          obtain ⟨h1, ⟨a1, a0, a2, a3, a4⟩, ⟨a6, a7⟩, h4⟩ := h
          have q2 : ∀ (c : Nat) (k : Int), (wI B 367 16 (p + N)).1 c k = if c = 367 ∧ k = 16 then p + N else B.1 c k := fun _ _ => rfl
          refine ⟨h1, ⟨fun _ => ?_, fun y => ?_, ?_, ?_, fun y => ?_⟩, ⟨?_, fun k k0 k1 => ?_⟩, fun c k n1 n2 => ?_⟩
          · rw [q2, if_neg (by decide), a1 c0]
          · rw [q2, if_neg (by decide), a0 c0]
          · rw [q2, if_neg (by decide), a2, c0]
          · rw [q2, if_neg (by decide), a3, pl0]
          · rw [q2, if_pos ⟨rfl, rfl⟩, if_pos rfl, Int.sub_zero]
          · rw [q2, if_neg (by decide), a6]
          · rw [q2, if_neg (by omega), a7 k k0 k1]
          · rw [q2, if_neg (by omega), h4 c k n1 n2]
        exact md_lowV (q := q) (n := 4) he.2 hC ht (by omega) ⟨(by decide : (0 : Int) ≤ 0 ∧ (0 : Int) < 1000), ⟨by show 0 ≤ p + N; omega, by show p + N ≤ en; omega⟩, hr.2.2.1, hr.2.2.2.1, fun _ => rfl⟩ j1
      by_cases cs : w64 (lowV t (p + N) 4) = w64 ((w32 m) % 4294967296)
      · refine ⟨stn, rn, fn, fun S A o hC hf h => ?_, fun S B hC h => ?_⟩
        · have ho := hC.2.2.1
          have h' : CT S (wI A 9 4 (p + N + b4 - 1)) o en st := by
            obtain ⟨h1, ⟨a1, a2, a3, a4, a5⟩, ⟨a6, a7⟩, h4⟩ := CR_CT h
            have q2 : ∀ (c : Nat) (k : Int), (wI A 9 4 (p + N + b4 - 1)).1 c k = if c = 9 ∧ k = 4 then p + N + b4 - 1 else A.1 c k := fun _ _ => rfl
            refine ⟨h1, ⟨fun y => ?_, ?_, ?_, fun y => ?_, fun y => ?_⟩, ⟨?_, fun k k0 k1 => ?_⟩, fun c k n1 n2 n3 => ?_⟩
            · rw [q2, if_neg (by decide), a1 y]
            · rw [q2, if_neg (by decide), a2]
            · rw [q2, if_neg (by decide), a3]
            · rw [q2, if_neg (by decide), a4 y]
            · rw [q2, if_neg (by decide), a5 y]
            · rw [q2, if_neg (by omega), a6]
            · rw [q2, if_neg (by omega), a7 k k0 k1]
            · rw [q2, if_neg (by omega), h4 c k n1 n2 n3]
          obtain ⟨A', k1, k2⟩ := ok149 S _ o hC hf h'
          refine ⟨A', hc S A A' o hC hf h (h64 S A A' o (vc_Copies_openFrameBlock_81 _ _ _ _ _ ?_)), k2⟩
          rw [h.2.1.2.1, wr, e29 S A o st ho hf h]
          refine cY c0 (cNo y1 (fun S1 f1 => ?_))
          subst f1
          exact ⟨_, _, lv1 _ (tA hC h'), m, _, u1 _ (tA hC h'), cY cs k1⟩
        · obtain ⟨B2, k1, k2⟩ := lv2 S B hC h
          obtain ⟨T0, k3, k4⟩ := ok160b S B2 (p + N + 4) hC (by rw [c0, pl0]; exact k2)
          refine ⟨T0, hm S B T0 (fun x4 v1 v2 => vc_MD_frameBlock_66 _ _ _ _ _ ?_), k4⟩
          rw [wb4, wnb, h.2.1.1 c0, h.2.1.2.2.2.2 c0, if_pos rfl, Int.sub_zero, ep, wd, wd2]
          refine cY (by omega) (cNo (by omega) (fun S1 f1 => ?_))
          subst f1
          exact ⟨_, B2, k1, m, B2, u2 B2 (tB hC k2), cY cs (k3 x4 v1 v2)⟩
      · -- the sum is wrong
        obtain ⟨s5, e5⟩ : ∃ s5 : Rd, s5 = (47, p + N + 3, p, st.2.2.2) := ⟨_, rfl⟩
        have d5 : s5.1 ≠ 0 := by rw [e5]; show (47 : Int) ≠ 0; decide
        have r5 : ∀ e2 : Int, p ≤ e2 → rdR e2 s5 := fun e2 y => by
          rw [e5]
          exact ⟨(by decide : (0 : Int) ≤ 47 ∧ (47 : Int) < 1000), ⟨r2.1, y⟩, hr.2.2.1, hr.2.2.2.1, fun y => absurd (show (47 : Int) = 0 from y) (by decide)⟩
        have f5 : Fw st s5 := ⟨fun y => absurd c0 y, by rw [e5, ep]; exact Int.le_refl _⟩
        refine ⟨s5, r5 en r2.2, f5, fun S A o hC hf h => ?_, fun S B hC h => ?_⟩
        · have ho := hC.2.2.1
          have h' : CT S (wI A 9 4 (p + N + b4 - 1)) o en st := by
            obtain ⟨h1, ⟨a1, a2, a3, a4, a5⟩, ⟨a6, a7⟩, h4⟩ := CR_CT h
            have q2 : ∀ (c : Nat) (k : Int), (wI A 9 4 (p + N + b4 - 1)).1 c k = if c = 9 ∧ k = 4 then p + N + b4 - 1 else A.1 c k := fun _ _ => rfl
            refine ⟨h1, ⟨fun y => ?_, ?_, ?_, fun y => ?_, fun y => ?_⟩, ⟨?_, fun k k0 k1 => ?_⟩, fun c k n1 n2 n3 => ?_⟩
            · rw [q2, if_neg (by decide), a1 y]
            · rw [q2, if_neg (by decide), a2]
            · rw [q2, if_neg (by decide), a3]
            · rw [q2, if_neg (by decide), a4 y]
            · rw [q2, if_neg (by decide), a5 y]
            · rw [q2, if_neg (by omega), a6]
            · rw [q2, if_neg (by omega), a7 k k0 k1]
            · rw [q2, if_neg (by omega), h4 c k n1 n2 n3]
          obtain ⟨A1, eA1⟩ : ∃ A1, A1 = wI A 9 4 (p + N + b4 - 1) := ⟨_, rfl⟩
          rw [← eA1] at h'
          have e94 : A1.1 9 4 = p + N + 3 := by
            rw [eA1, rI_I, if_pos ⟨rfl, rfl⟩]
            omega
          have ktell : EV q 124 0 [some (.ref 9), some (vI 47)] [] A1 none (wI (wI A1 9 5 47) 9 6 (p + N + 3)) := by
            refine vc_Source_tell _ ?_
            rw [h'.2.1.2.1, wr]
            refine cNo (fun y => y c0) (fun S1 f1 S2 f2 => ⟨rfl, ?_⟩)
            have e : S1.1 9 4 = p + N + 3 := by rw [f1, rI_I, if_neg (by decide), e94]
            rw [e] at f2
            subst f1 f2
            rfl
          have h2 : CT S (wI (wI A1 9 5 47) 9 6 (p + N + 3)) o en s5 := by
            obtain ⟨h1, ⟨a1, a2, a3, a4, a5⟩, ⟨a6, a7⟩, h4⟩ := h'
            have q2 : ∀ (c : Nat) (k : Int), (wI (wI A1 9 5 47) 9 6 (p + N + 3)).1 c k = if c = 9 ∧ k = 6 then p + N + 3 else if c = 9 ∧ k = 5 then 47 else A1.1 c k := fun _ _ => rfl
            refine ⟨h1, ⟨fun y => absurd y d5, ?_, ?_, fun y => absurd y d5, fun y => absurd y d5⟩, ⟨?_, fun k k0 k1 => ?_⟩, fun c k n1 n2 n3 => ?_⟩
            · rw [q2, if_neg (by decide), if_pos ⟨rfl, rfl⟩, e5]
            · rw [q2, if_pos ⟨rfl, rfl⟩, e5]
            · rw [q2, if_neg (by omega), if_neg (by omega), a6, e5]
            · rw [e5] at k1 ⊢
              rw [q2, if_neg (by omega), if_neg (by omega), a7 k k0 k1]
            · rw [q2, if_neg (by omega), if_neg (by omega), h4 c k n1 n2 n3]
          obtain ⟨A3, k1, k2⟩ := sp_window (q := q) (st' := s5) p (p + N) h2 ho rfl rfl rfl (fun y => absurd y d5)
          have e293 : A3.1 29 2 = f := by
            rw [k2.2.2.2 29 2 (by omega) (by omega) (by omega)]
            exact hf
          obtain ⟨A4, k3, k4⟩ : ∃ A4, CR S A4 o (p + N) s5 ∧ ∀ S' : ms, EV q 153 198 [some (.ref 29), some (.ref 9), some (vL z), none, some (vI N), some (vI en), some (vI p), some (vI (p + N + b4))] [] A4 none S' → ((w64 z ≤ w64 2147483647) → ((w32 (bA (A3.1 29 2) 32) = 0) → EV q 153 195 [some (.ref 29), some (.ref 9), some (vL z), none, some (vI N), some (vI en), some (vI p), some (vI (p + N + b4))] [vI 0, .ref 9, .ref 29] A3 none S') ∧ ((¬ w32 (bA (A3.1 29 2) 32) = 0) → EV q 153 195 [some (.ref 29), some (.ref 9), some (vL z), none, some (vI N), some (vI en), some (vI p), some (vI (p + N + b4))] [vI 1, .ref 9, .ref 29] A3 none S')) ∧ ((¬ w64 z ≤ w64 2147483647) → ∃ (S3 : ms), EV q 119 0 [some (.ref 9), some (vL (w32 N)), none, none, none] [] A3 none S3 ∧ EV q 153 198 [some (.ref 29), some (.ref 9), some (vL z), none, some (vI N), some (vI en), some (vI p), some (vI (p + N + b4))] [] S3 none S') := by
            have hC2 := RdC_le (e2 := p + N) hC (by omega) (by omega)
            have k2' := CT_CR d5 k2
            have wr5 : w32 s5.1 = s5.1 := w32_of (by have := (r5 en r2.2).1; omega)
            have dead : ∀ (al fl : Int), EV q 149 11 [some (.ref 29), some (.ref 9), some (vI al), some (vI fl), some (vI 0), none, none] [] A3 none A3 := fun al fl => vc_Copies_openFast_11 _ _ _ (by rw [k2.2.1.2.1, wr5]; exact cNo (by decide) (cY d5 ⟨rfl, rfl⟩))
            have k149 : ∀ al : Int, EV q 149 0 [some (.ref 29), some (.ref 9), some (vI al), none, none, none, none] [] A3 none A3 := fun al => vc_Copies_openFast _ ⟨o, 12000, by rw [k2.1]; exact hC.1, hC.2.1, dead al _⟩
            refine ⟨A3, k2', fun S' k5 => ⟨fun _ => ⟨fun _ => vc_Copies_openFrameBlock_195 _ _ _ _ _ _ ⟨A3, k149 0, k5⟩, fun _ => vc_Copies_openFrameBlock_195 _ _ _ _ _ _ ⟨A3, k149 1, k5⟩⟩, fun _ => ⟨A3, sp_copy0 d5 (r5 (p + N) (by omega)) k2', k5⟩⟩⟩
          obtain ⟨A5, k5, k6⟩ := sp_window (q := q) (st' := s5) (p + N + b4) en (CR_CT k3) ho rfl rfl rfl (fun y => absurd y d5)
          refine ⟨A5, hc S A A5 o hC hf h (h64 S A A5 o (vc_Copies_openFrameBlock_81 _ _ _ _ _ ?_)), k6⟩
          rw [h.2.1.2.1, wr, e29 S A o st ho hf h]
          refine cY c0 (cNo y1 (fun S1 f1 => ?_))
          rw [← eA1] at f1
          subst f1
          exact ⟨_, _, lv1 _ (tA hC h'), m, _, u1 _ (tA hC h'), cNo cs ⟨_, ktell, vc_Copies_openFrameBlock_149 _ _ _ _ _ ⟨A3, k1, k4 A5 (vc_Copies_openFrameBlock_198 _ _ _ _ _ ⟨A5, k5, rfl, rfl⟩)⟩⟩⟩
        · obtain ⟨B2, k1, k2⟩ := lv2 S B hC h
          have r7 : rdR en (0, 0, p + N + 4, st.2.2.2) := ⟨(by decide : (0 : Int) ≤ 0 ∧ (0 : Int) < 1000), ⟨by show 0 ≤ p + N + 4; omega, by show p + N + 4 ≤ en; omega⟩, hr.2.2.1, hr.2.2.2.1, fun _ => rfl⟩
          obtain ⟨B3, k3, k4⟩ := md_tell (q := q) (k := 47) r7 he.2 k2
          have et : rdTell 47 (0, 0, p + N + 4, st.2.2.2) = (47, p + N + 3, p + N + 4, st.2.2.2) := by
            unfold rdTell rdTellAt
            rw [if_neg (by show ¬ (0 : Int) ≠ 0; decide)]
            have : rdL (0, 0, p + N + 4, st.2.2.2) = p + N + 3 := by
              show (if p + N + 4 ≤ 0 then 0 else p + N + 4 - 1) = p + N + 3
              rw [if_neg (by omega)]
              omega
            rw [this]
          rw [et] at k4
          have k5 : MR S B3 en s5 := by
            obtain ⟨h1, ⟨a1, a0, a2, a3, a4⟩, ⟨a6, a7⟩, h4⟩ := k4
            refine ⟨h1, ⟨fun y => absurd y d5, fun y => absurd y d5, by rw [e5]; exact a2, by rw [e5]; exact a3, fun y => absurd y d5⟩, ⟨by rw [e5]; exact a6, fun k k0 k1 => by rw [e5] at k1 ⊢; exact a7 k k0 k1⟩, h4⟩
          refine ⟨B3, hm S B B3 (fun x4 v1 v2 => vc_MD_frameBlock_66 _ _ _ _ _ ?_), k5⟩
          rw [wb4, wnb, h.2.1.1 c0, h.2.1.2.2.2.2 c0, if_pos rfl, Int.sub_zero, ep, wd, wd2]
          refine cY (by omega) (cNo (by omega) (fun S1 f1 => ?_))
          subst f1
          exact ⟨_, B2, k1, m, B2, u2 B2 (tB hC k2), cNo cs ⟨B3, k3, rfl, rfl⟩⟩
end FrameQ
