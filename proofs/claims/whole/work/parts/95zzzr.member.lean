/-! MEMBER: its head, both sides at once -/
section Mem2
variable {q : Nat × (Nat → Int32)} {en : Int}
theorem jhd4 {t : Int → Int} {f : Int} (ht : ∀ k : Int, 0 ≤ k → k < en → 0 ≤ t k ∧ t k < 256) {st : Rd} (hr : rdR en st) : ∃ st' : Rd, (rdR en st' ∧ Fw st st') ∧ (∀ (S A : ms) (o : Nat), RdC S o en t → CR S A o en st → ∃ A', CR S A' o en st' ∧ ∀ T : ms, EV q 145 64 [some (.ref 9), some (vI f), none] [] A' none T → ((w32 (bA f 4) = 0) → EV q 145 64 [some (.ref 9), some (vI f), none] [] A none T) ∧ ((¬ w32 (bA f 4) = 0) → ∃ (z5 : Int) (S3 : ms), EV q 132 0 [some (.ref 9), some (vI 2), none, none, none] [] A (some (vL z5)) S3 ∧ ∃ (S6 : ms), EV q 147 0 [some (.ref 9), some (vI z5), none] [] S3 none S6 ∧ EV q 145 64 [some (.ref 9), some (vI f), none] [] S6 none T)) ∧ ∀ S B : ms, RdM S en t → MR S B en st → ∃ B', MR S B' en st' ∧ ∀ T : ms, EV q 353 112 [some (.ref 367), some (vI f), none, none, none, none, none] [] B' none T → EV q 353 51 [some (.ref 367), some (vI f), some (vI 6), none, none, none, none] [] B none T := by
  by_cases c : w32 (bA f 4) = 0
  · exact ⟨st, ⟨hr, Fw_r st⟩, fun S A o hC hA => ⟨A, hA, fun T y => cY c y⟩, fun S B hC hB => ⟨B, hB, fun T y => vc_MD_openMember_51 _ _ (cY (by decide) (cY c y))⟩⟩
  · obtain ⟨z, s1, ⟨g1, g2, g3⟩, g4, g5, g6⟩ := jlw0 (q := q) ht (n := 2) (by decide) hr
    rw [show (256 : Int) ^ 2 = 65536 by decide] at g4
    obtain ⟨n, en'⟩ : ∃ n : Nat, z = n := ⟨z.toNat, by omega⟩
    subst en'
    refine ⟨rdSkip t en n s1, ⟨rdR_skip n g1, Fw_t g2 (Fw_skip n)⟩, fun S A o hC hA => ?_, fun S B hC hB => ?_⟩
    · obtain ⟨A1, k1, k2⟩ := g5 S A o hC hA
      obtain ⟨A2, k3, k4⟩ := sp_pass (q := q) hC (n := n) (by omega) n 0 A1 s1 (by omega) g1 k2
      exact ⟨A2, k4, fun T y => cNo c ⟨n, A1, k1, A2, vc_Source_pass _ k3, y⟩⟩
    · obtain ⟨B1, k1, k2⟩ := g6 S B hC hB
      obtain ⟨B2, k3, k4⟩ := md_skip (q := q) (f := f) hC (n := n) (by omega) n 0 B1 s1 (by omega) g1 k2
      exact ⟨B2, k3, fun T y => vc_MD_openMember_51 _ _ (cY (by decide) (cNo c ⟨n, B1, k1, k4 none T y⟩))⟩
theorem jtxt {t : Int → Int} {c : Prop} (he : 0 ≤ en ∧ en ≤ 6000) (ht : ∀ k : Int, 0 ≤ k → k < en → 0 ≤ t k ∧ t k < 256) {st : Rd} (hr : rdR en st) : ∃ st' : Rd, (rdR en st' ∧ Fw st st') ∧ (∀ (S A : ms) (o : Nat), RdC S o en t → CR S A o en st → ∃ A', CR S A' o en st' ∧ ((c ∧ A' = A) ∨ (¬ c ∧ EV q 148 0 [some (.ref 9), none, none] [] A none A'))) ∧ ∀ S B : ms, RdM S en t → MR S B en st → ∃ B', MR S B' en st' ∧ ((c ∧ B' = B) ∨ (¬ c ∧ EV q 355 0 [some (.ref 367), none] [] B none B')) := by
  by_cases y : c
  · exact ⟨st, ⟨hr, Fw_r st⟩, fun S A o hC hA => ⟨A, hA, Or.inl ⟨y, rfl⟩⟩, fun S B hC hB => ⟨B, hB, Or.inl ⟨y, rfl⟩⟩⟩
  · obtain ⟨st', g1, g2, g3⟩ := jtext (q := q) he ht 6001 0 1 st (by have := hr.2.1; omega) (by decide) (by decide) hr
    refine ⟨st', g1, fun S A o hC hA => ?_, fun S B hC hB => ?_⟩
    · obtain ⟨A1, k1, k2⟩ := g2 S A o hC hA
      exact ⟨A1, k2, Or.inr ⟨y, vc_Blocks_passText k1⟩⟩
    · obtain ⟨B1, k1, k2⟩ := g3 S B hC hB
      exact ⟨B1, k2, Or.inr ⟨y, vc_MD_passText k1⟩⟩
theorem jhd2 {t : Int → Int} {f : Int} (he : 0 ≤ en ∧ en ≤ 6000) (ht : ∀ k : Int, 0 ≤ k → k < en → 0 ≤ t k ∧ t k < 256) {st : Rd} (hr : rdR en st) : ∃ st' : Rd, (rdR en st' ∧ Fw st st') ∧ (∀ (S A : ms) (o : Nat), RdC S o en t → CR S A o en st → ∃ A', CR S A' o en st' ∧ EV q 145 86 [some (.ref 9), some (vI f), none] [] A none A') ∧ ∀ S B : ms, (∀ k : Nat, k < 256 → S.1 372 k = rdF 8 k) → RdM S en t → MR S B en st → ∃ B', MR S B' en st' ∧ ∀ T : ms, EV q 353 184 [some (.ref 367), some (vI f), none, none, none, none, none] [] B' none T → EV q 353 134 [some (.ref 367), some (vI f), none, none, none, none, none] [] B none T := by
  by_cases c : w32 (bA f 2) = 0
  · exact ⟨st, ⟨hr, Fw_r st⟩, fun S A o hC hA => ⟨A, hA, vc_Blocks_openMemberHead_86 _ (cY c ⟨rfl, rfl⟩)⟩, fun S B _ hC hB => ⟨B, hB, fun T y => vc_MD_openMember_134 _ (cY c y)⟩⟩
  obtain ⟨z, s1, ⟨g1, g2, g3⟩, g4, g5, g6⟩ := jlw0 (q := q) ht (n := 2) (by decide) hr
  have wr : w32 st.1 = st.1 := w32_of (by have := hr.1; omega)
  by_cases c0 : st.1 = 0
  case neg =>
    have e1 : s1 = st := g2.1 c0
    subst e1
    refine ⟨s1, ⟨hr, Fw_r s1⟩, fun S A o hC hA => ⟨A, hA, vc_Blocks_openMemberHead_86 _ (cNo c ?_)⟩, fun S B _ hC hB => ?_⟩
    · rw [hA.2.1.2.1, wr]
      exact cY c0 ⟨rfl, rfl⟩
    · obtain ⟨B1, k1, k2⟩ := g6 S B hC hB
      have kf := md_fine (q := q) g1 k2
      rw [if_neg c0] at kf
      exact ⟨B1, k2, fun T y => vc_MD_openMember_134 _ (cNo c ⟨z, B1, k1, 0, B1, kf, cY (by decide) y⟩)⟩
  have hn := hr.2.1
  obtain ⟨n, en'⟩ : ∃ n : Nat, st.2.2.1 = n := ⟨st.2.2.1.toNat, by omega⟩
  obtain ⟨H, eH⟩ : ∃ H : Int, H = -(crR (fun k => t k) n : Nat) - 1 := ⟨_, rfl⟩
  have t1 := rd_gt (c := w64 z = w64 (w32 (H % 65536))) (k := 33) (by decide) g1
  refine ⟨if w64 z = w64 (w32 (H % 65536)) then s1 else rdTell 33 s1, ⟨t1.1, Fw_t g2 t1.2⟩, fun S A o hC hA => ?_, fun S B hQ hC hB => ?_⟩
  · have ho := hC.2.2.1
    have e3 : A.1 9 3 = (0 : Int) + n := by rw [hA.2.1.2.2.2.1 c0, en', Int.zero_add]
    have kc := sp_crd (q := q) (S := A) (c := 2) (n := n) (fr := 0) (g := fun k => t k) sh_2 (by decide) (Int.le_refl _) (by omega) (fun k hk => ⟨ht k (by omega) (by omega), by
      rw [Int.zero_add, hA.2.2.2 2 k (by omega) (by omega) (by omega)]
      exact (hC.2.2.2.2 k (by omega) (by omega)).2⟩)
    rw [← eH, ← e3] at kc
    obtain ⟨A1, k1, k2⟩ := g5 S A o hC hA
    obtain ⟨A2, k3, k4⟩ := gC (q := q) (c := w64 z = w64 (w32 (H % 65536))) (k := 33) g1 ho k2
    refine ⟨A2, k3, vc_Blocks_openMemberHead_86 _ (cNo c ?_)⟩
    rw [hA.2.1.2.1, c0]
    refine cNN (by decide) ⟨H, A, kc, z, A1, k1, ?_⟩
    rcases k4 with ⟨w1, w2⟩ | ⟨w1, w2⟩
    · exact cY w1 ⟨rfl, w2⟩
    · exact cNo w1 ⟨A2, w2, rfl, rfl⟩
  · obtain ⟨B1, k1, k2⟩ := g6 S B hC hB
    obtain ⟨B2, z2, k3, k4, k5⟩ := gMf (q := q) (c := w64 z = w64 (w32 (H % 65536))) (k := 33) g1 he.2 (hR_0 s1) k2
    have e3 : B.1 367 16 = (n : Int) := by rw [hB.2.1.2.2.2.2 c0, en']; rw [if_pos rfl]; omega
    have kc := sp_mrd (q := q) (S := B1) (c := 368) (n := n) (fr := 0) (g := fun k => t k) sh_368 (by decide) (Int.le_refl _) (by omega) (fun k hk => ⟨ht k (by omega) (by omega), by
      rw [Int.zero_add, k2.2.2.2 368 k (by omega) (by omega)]
      exact (hC.2.2 k (by omega) (by omega)).2⟩) (fun k hk => by rw [k2.2.2.2 372 k (by omega) (by omega)]; exact hQ k hk)
    rw [← eH, ← e3] at kc
    refine ⟨B2, k3, fun T y => vc_MD_openMember_134 _ (cNo c ⟨z, B1, k1, z2, B1, k4, ?_⟩)⟩
    rcases k5 with ⟨w1, w2⟩ | ⟨w1, w2, w3⟩ | ⟨w1, w2, w3⟩
    · rw [w2] at y; exact cY w1 y
    · rw [w3] at y; exact cNo w1 ⟨H, B1, kc, cY w2 y⟩
    · exact cNo w1 ⟨H, B1, kc, cNo w2 ⟨B2, w3, y⟩⟩
theorem jhead {t : Int → Int} (he : 0 ≤ en ∧ en ≤ 6000) (ht : ∀ k : Int, 0 ≤ k → k < en → 0 ≤ t k ∧ t k < 256) : ∃ (f : Int) (st' : Rd), rdR en st' ∧ (∀ (S A : ms) (o : Nat), RdC S o en t → CR S A o en st0 → ∃ A', EV q 145 0 [some (.ref 9), none, none] [] A none A' ∧ CR S A' o en st') ∧ ∀ S B : ms, (∀ k : Nat, k < 256 → S.1 372 k = rdF 8 k) → RdM S en t → MR S B en st0 → ∃ B', MR S B' en st' ∧ ∀ T : ms, EV q 353 184 [some (.ref 367), some (vI f), none, none, none, none, none] [] B' none T → EV q 353 0 [some (.ref 367), none, none, none, none, none, none] [] B none T := by
  have hr0 : rdR en st0 := rdR_0 he.1
  have xR : ∀ (v k : Int) (s : Rd), (1 ≤ k ∧ k < 1000) → rdR en s → rdR en (rdExp t en v k s) := by
    intro v k s hk hs
    unfold rdExp
    by_cases c : w32 (rdTake t en s).1 = w32 v
    · rw [if_pos c]; exact rdR_take hs
    · rw [if_neg c]; exact rdR_tell (rdR_take hs) hk
  obtain ⟨s1, e1⟩ : ∃ s : Rd, s = rdExp t en 31 30 st0 := ⟨_, rfl⟩
  obtain ⟨s2, e2⟩ : ∃ s : Rd, s = rdExp t en 139 30 s1 := ⟨_, rfl⟩
  obtain ⟨s3, e3⟩ : ∃ s : Rd, s = rdExp t en 8 31 s2 := ⟨_, rfl⟩
  have r1 : rdR en s1 := by rw [e1]; exact xR _ _ _ (by decide) hr0
  have r2 : rdR en s2 := by rw [e2]; exact xR _ _ _ (by decide) r1
  have r3 : rdR en s3 := by rw [e3]; exact xR _ _ _ (by decide) r2
  obtain ⟨f, ef⟩ : ∃ x : Int, x = (rdTake t en s3).1 := ⟨_, rfl⟩
  obtain ⟨s4, e4⟩ : ∃ s : Rd, s = (rdTake t en s3).2 := ⟨_, rfl⟩
  have r4 : rdR en s4 := by rw [e4]; exact rdR_take r3
  have t5 := rd_gt (c := w32 f < 32) (k := 32) (by decide) r4
  obtain ⟨s5, e5⟩ : ∃ s : Rd, s = if w32 f < 32 then s4 else rdTell 32 s4 := ⟨_, rfl⟩
  rw [← e5] at t5
  obtain ⟨s6, e6⟩ : ∃ s : Rd, s = rdSkip t en 6 s5 := ⟨_, rfl⟩
  have r6 : rdR en s6 := by rw [e6]; exact rdR_skip 6 t5.1
  obtain ⟨s7, ⟨a1, a2⟩, a3, a4⟩ := jhd4 (q := q) (f := f) ht r6
  obtain ⟨s8, ⟨b1, b2⟩, b3, b4⟩ := jtxt (q := q) (c := w32 (bA f 8) = 0) he ht a1
  obtain ⟨s9, ⟨c1, c2⟩, c3, c4⟩ := jtxt (q := q) (c := w32 (bA f 16) = 0) he ht b1
  obtain ⟨s10, ⟨d1, d2⟩, d3, d4⟩ := jhd2 (q := q) (f := f) he ht c1
  refine ⟨f, s10, d1, fun S A o hC hA => ?_, fun S B hQ hC hB => ?_⟩
  · obtain ⟨A1, k1, m1⟩ := sp_exp (q := q) (v := 31) (k := 30) hC hr0 hA
    rw [← e1] at m1
    obtain ⟨A2, k2, m2⟩ := sp_exp (q := q) (v := 139) (k := 30) hC r1 m1
    rw [← e2] at m2
    obtain ⟨A3, k3, m3⟩ := sp_exp (q := q) (v := 8) (k := 31) hC r2 m2
    rw [← e3] at m3
    obtain ⟨A4, k4, m4⟩ := sp_take (q := q) hC r3 m3
    rw [← ef] at k4
    rw [← e4] at m4
    obtain ⟨A5, m5, n5⟩ := gC (q := q) (c := w32 f < 32) (k := 32) r4 hC.2.2.1 m4
    rw [← e5] at m5
    obtain ⟨A6, k6, m6⟩ := sp_pass (q := q) hC (n := 6) (by decide) 6 0 A5 s5 (by decide) t5.1 m5
    rw [← e6] at m6
    obtain ⟨A7, m7, n7⟩ := a3 S A6 o hC m6
    obtain ⟨A8, m8, n8⟩ := b3 S A7 o hC m7
    obtain ⟨A9, m9, n9⟩ := c3 S A8 o hC m8
    obtain ⟨A10, m10, n10⟩ := d3 S A9 o hC m9
    have k75 : EV q 145 75 [some (.ref 9), some (vI f), none] [] A8 none A10 := by
      refine vc_Blocks_openMemberHead_75 _ ?_
      rcases n9 with ⟨w1, w2⟩ | ⟨w1, w2⟩
      · rw [w2] at n10; exact cY w1 n10
      · exact cNo w1 ⟨A9, w2, n10⟩
    have k64 : EV q 145 64 [some (.ref 9), some (vI f), none] [] A7 none A10 := by
      refine vc_Blocks_openMemberHead_64 _ ?_
      rcases n8 with ⟨w1, w2⟩ | ⟨w1, w2⟩
      · rw [w2] at k75; exact cY w1 k75
      · exact cNo w1 ⟨A8, w2, k75⟩
    have k42 : EV q 145 42 [some (.ref 9), some (vI f), none] [] A5 none A10 := vc_Blocks_openMemberHead_42 _ ⟨A6, vc_Source_pass _ k6, n7 A10 k64⟩
    refine ⟨A10, vc_Blocks_openMemberHead ⟨A1, k1, A2, k2, A3, k3, f, A4, k4, ?_⟩, m10⟩
    rcases n5 with ⟨w1, w2⟩ | ⟨w1, w2⟩
    · rw [w2] at k42; exact cY w1 k42
    · exact cNo w1 ⟨A5, w2, k42⟩
  · obtain ⟨B1, k1, m1⟩ := md_exp (q := q) (v := 31) (k := 30) he.2 hC hr0 hB
    rw [← e1] at m1
    obtain ⟨B2, k2, m2⟩ := md_exp (q := q) (v := 139) (k := 30) he.2 hC r1 m1
    rw [← e2] at m2
    obtain ⟨B3, k3, m3⟩ := md_exp (q := q) (v := 8) (k := 31) he.2 hC r2 m2
    rw [← e3] at m3
    obtain ⟨B4, k4, m4⟩ := md_take (q := q) hC r3 m3
    rw [← ef] at k4
    rw [← e4] at m4
    obtain ⟨B5, z5, m5, f5, n5⟩ := gMf (q := q) (c := w32 f < 32) (k := 32) r4 he.2 (hR_0 s4) m4
    rw [← e5] at m5
    obtain ⟨B6, m6, n6⟩ := md_six (q := q) (f := f) hC 6 0 B5 s5 (by decide) t5.1 m5
    rw [← e6] at m6
    obtain ⟨B7, m7, n7⟩ := a4 S B6 hC m6
    obtain ⟨B8, m8, n8⟩ := b4 S B7 hC m7
    obtain ⟨B9, m9, n9⟩ := c4 S B8 hC m8
    obtain ⟨B10, m10, n10⟩ := d4 S B9 hQ hC m9
    refine ⟨B10, m10, fun T y => ?_⟩
    have k134 := n10 T y
    have k123 : EV q 353 123 [some (.ref 367), some (vI f), none, none, none, none, none] [] B8 none T := by
      refine vc_MD_openMember_123 _ ?_
      rcases n9 with ⟨w1, w2⟩ | ⟨w1, w2⟩
      · rw [w2] at k134; exact cY w1 k134
      · exact cNo w1 ⟨B9, w2, k134⟩
    have k112 : EV q 353 112 [some (.ref 367), some (vI f), none, none, none, none, none] [] B7 none T := by
      refine vc_MD_openMember_112 _ ?_
      rcases n8 with ⟨w1, w2⟩ | ⟨w1, w2⟩
      · rw [w2] at k123; exact cY w1 k123
      · exact cNo w1 ⟨B8, w2, k123⟩
    have k49 : EV q 353 49 [some (.ref 367), some (vI f), none, none, none, none, none] [] B5 none T := vc_MD_openMember_49 _ (n6 none T (n7 T k112))
    refine vc_MD_openMember ⟨B1, k1, B2, k2, B3, k3, f, B4, k4, z5, B4, f5, ?_⟩
    rcases n5 with ⟨w1, w2⟩ | ⟨w1, w2, w3⟩ | ⟨w1, w2, w3⟩
    · rw [w2] at k49; exact cY w1 k49
    · rw [w3] at k49; exact cNo w1 (cY w2 k49)
    · exact cNo w1 (cNo w2 ⟨B5, w3, k49⟩)
end Mem2
