/-! MEMBER: open, both sides at once -/
section Mem3
variable {q : Nat × (Nat → Int32)} {en : Int}
/-- the blocks, which the reference reads only when all is fine -/
theorem jallF {t : Int → Int} {R : Int} (he : 0 ≤ en ∧ en ≤ 6000) (ht : ∀ k : Int, 0 ≤ k → k < en → 0 ≤ t k ∧ t k < 256) {s5 : Rd} (hR1 : s5.1 = 0 → 0 ≤ R ∧ R ≤ 100000) (hr : rdR en s5) : ∃ s6 : Rd, (rdR en s6 ∧ Fw s5 s6) ∧ (∀ (S A : ms) (o : Nat), S.1 9 7 = 0 → RdC S o en t → CodC S 31 288 flF → CodC S 42 32 (fun _ => 5) → CR S A o en s5 → ∃ S1 A1, EX XCc S S1 ∧ EV q 129 0 [some (.ref 30), some (.ref 9), some (vI R), none, none] [] A none A1 ∧ CR S1 A1 o en s6) ∧ ∀ S B : ms, TbK S → RdM S en t → MR S B en s5 → ∃ (S1 B1 : ms) (z : Int), EY XBm S S1 ∧ MR S1 B1 en s6 ∧ TbK S1 ∧ EV q 333 0 [some (.ref 367)] [] B (some (vI z)) B ∧ ((w32 z = 0 ∧ B1 = B) ∨ (¬ w32 z = 0 ∧ EV q 343 0 [some (.ref 367), some (vL R), none, none, none] [] B none B1)) := by
  by_cases c5 : s5.1 = 0
  · obtain ⟨s6, i1, i2, i3⟩ := jall (q := q) (rc := R) he ht (hR1 c5) hr (hR_0 s5)
    refine ⟨s6, i1, fun S A o hS hC hD hE hA => i2 S A o hS hC hD hE (CB_0 t hA), fun S B hK hC hB => ?_⟩
    have kf := md_fine (q := q) hr hB
    rw [if_pos c5] at kf
    obtain ⟨S1, B1, k1, k2, k3, k4⟩ := i3 S B hK hC hB
    exact ⟨S1, B1, 1, k1, k3, k4, kf, Or.inr ⟨by decide, k2⟩⟩
  · refine ⟨s5, ⟨hr, Fw_r s5⟩, fun S A o hS hC hD hE hA => ?_, fun S B hK hC hB => ?_⟩
    · obtain ⟨k1, k2⟩ := cl_fin (q := q) (x2 := R) (x3 := 0) (x4 := 0) (Or.inr c5) hr hC.2.2.1 hA
      exact ⟨S, _, EX.refl _ S, vc_Blocks_openAll _ k1, k2⟩
    · have kf := md_fine (q := q) hr hB
      rw [if_neg c5] at kf
      exact ⟨S, B, 0, ⟨rfl, fun _ _ _ => rfl⟩, hB, hK, kf, Or.inl ⟨by decide, rfl⟩⟩
/-- open, kind 5 -/
theorem oj_member {t : Int → Int} (he : 0 ≤ en ∧ en ≤ 6000) (ht : ∀ k : Int, 0 ≤ k → k < en → 0 ≤ t k ∧ t k < 256) : ∃ stf : Rd, rdR en stf ∧ (∀ (S A : ms) (o : Nat), S.1 9 7 = 0 → RdC S o en t → CodC S 31 288 flF → CodC S 42 32 (fun _ => 5) → CR S A o en st0 → ∃ S1 A1, EY XCc S S1 ∧ EV q 144 0 [some (.ref 30), some (.ref 9), none, none, none, none] [] A none A1 ∧ CF S1 A1 o en stf) ∧ ∀ S B : ms, TbK S → (∀ k : Nat, k < 256 → S.1 372 k = rdF 8 k) → RdM S en t → MR S B en st0 → ∃ S1 B1, EY XBm S S1 ∧ EV q 353 0 [some (.ref 367), none, none, none, none, none, none] [] B none B1 ∧ MF S1 B1 en stf ∧ TbK S1 := by
  obtain ⟨f, s5, h1, h2, h3⟩ := jhead (q := q) he ht
  obtain ⟨s6, ⟨g1, g2⟩, g3, g4⟩ := jallF (q := q) (R := 32768) he ht (fun _ => by decide) h1
  obtain ⟨z, s7, ⟨i1, i2, _⟩, i3, i4, i5⟩ := jlw0 (q := q) ht (n := 4) (by decide) g1
  have hc7 := i1.2.2.1
  obtain ⟨n, en'⟩ : ∃ n : Nat, s7.2.2.2.1 = n := ⟨s7.2.2.2.1.toNat, by omega⟩
  obtain ⟨H, eH⟩ : ∃ H : Int, H = -(crR (fun k => s7.2.2.2.2 k) n : Nat) - 1 := ⟨_, rfl⟩
  have t8 := rd_gt (c := w64 z = w64 ((w32 H) % 4294967296)) (k := 34) (by decide) i1
  obtain ⟨s8, es8⟩ : ∃ s : Rd, s = if w64 z = w64 ((w32 H) % 4294967296) then s7 else rdTell 34 s7 := ⟨_, rfl⟩
  rw [← es8] at t8
  obtain ⟨y, s9, ⟨j1, j2, _⟩, j3, j4, j5⟩ := jlw0 (q := q) ht (n := 4) (by decide) t8.1
  have t10 := rd_gt (c := w64 y = w64 (w32 s9.2.2.2.1)) (k := 35) (by decide) j1
  obtain ⟨s10, es10⟩ : ∃ s : Rd, s = if w64 y = w64 (w32 s9.2.2.2.1) then s9 else rdTell 35 s9 := ⟨_, rfl⟩
  rw [← es10] at t10
  refine ⟨rdEnd en s10, rdR_end t10.1, fun S A o hS hC hD hE hA => ?_, fun S B hK hQ hC hB => ?_⟩
  · have ho := hC.2.2.1
    obtain ⟨A5, k5, m5⟩ := h2 S A o hC hA
    obtain ⟨S1, A6, x6, k6, m6⟩ := g3 S A5 o hS hC hD hE m5
    have hC1 : RdC S1 o en t := RdC_ey hC x6.ey (fun k => by unfold XCc; omega)
    obtain ⟨A7, k7, m7⟩ := i4 S1 A6 o hC1 m6
    obtain ⟨A8, m8, n8⟩ := gC (q := q) (c := w64 z = w64 ((w32 H) % 4294967296)) (k := 34) i1 ho m7
    rw [← es8] at m8
    obtain ⟨A9, k9, m9⟩ := j4 S1 A8 o hC1 m8
    obtain ⟨A10, m10, n10⟩ := gC (q := q) (c := w64 y = w64 (w32 s9.2.2.2.1)) (k := 35) j1 ho m9
    rw [← es10] at m10
    obtain ⟨A11, k11, m11⟩ := sb_end (q := q) hC1 t10.1 m10
    have eo : A7.2.2 9 1 = o := by rw [m7.1]; exact hC1.1
    have eo9 : A9.2.2 9 1 = o := by rw [m9.1]; exact hC1.1
    have ec : A7.1 o 1 = (0 : Int) + n := by rw [m7.2.2.1.1, en', Int.zero_add]
    have kc := sp_crd (q := q) (S := A7) (c := o + 1) (n := n) (fr := 0) (g := fun k => s7.2.2.2.2 k) hC.2.1.2 (by decide) (Int.le_refl _) (by omega) (fun k hk => ⟨i1.2.2.2.1 k (by omega) (by omega), by rw [Int.zero_add]; exact m7.2.2.1.2 k (by omega) (by omega)⟩)
    rw [← eH, ← ec] at kc
    have k78 : EV q 144 78 [some (.ref 30), some (.ref 9), some (vL z), none, some (vL y), none] [] A10 none A11 := vc_Blocks_openMember_78 _ _ ⟨A11, k11, rfl, rfl⟩
    have k51 : EV q 144 51 [some (.ref 30), some (.ref 9), some (vL z), none, none, none] [] A8 none A11 := by
      refine vc_Blocks_openMember_51 _ ⟨y, A9, k9, o, 12000, eo9, hC.2.1, ?_⟩
      rw [m9.2.2.1.1]
      rcases n10 with ⟨w1, w2⟩ | ⟨w1, w2⟩
      · rw [w2] at k78; exact cY w1 k78
      · exact cNo w1 ⟨A10, w2, k78⟩
    refine ⟨S1, A11, x6.ey, vc_Blocks_openMember ⟨A5, k5, A6, k6, z, A7, k7, o, 12000, eo, hC.2.1, o, 12000, eo, hC.2.1, H, A7, kc, ?_⟩, ⟨_, _, m11⟩⟩
    rcases n8 with ⟨w1, w2⟩ | ⟨w1, w2⟩
    · rw [w2] at k51; exact cY w1 k51
    · exact cNo w1 ⟨A8, w2, k51⟩
  · obtain ⟨B5, m5, k5⟩ := h3 S B hQ hC hB
    obtain ⟨S1, B6, z6, x6, m6, k6, f6, n6⟩ := g4 S B5 hK hC m5
    have hC1 : RdM S1 en t := RdM_ey hC x6 (fun k => by unfold XBm XCm XTb; omega)
    obtain ⟨B7, k7, m7⟩ := i5 S1 B6 hC1 m6
    obtain ⟨B8, z8, m8, f8, n8⟩ := gMf (q := q) (c := w64 z = w64 ((w32 H) % 4294967296)) (k := 34) i1 he.2 (hR_0 s7) m7
    rw [← es8] at m8
    obtain ⟨B9, k9, m9⟩ := j5 S1 B8 hC1 m8
    obtain ⟨B10, z10, m10, f10, n10⟩ := gMf (q := q) (c := w64 y = w64 (w32 s9.2.2.2.1)) (k := 35) j1 he.2 (hR_0 s9) m9
    rw [← es10] at m10
    obtain ⟨B11, k11, m11⟩ := mb_end (q := q) he.2 t10.1 (hR_0 s10) m10
    have ec : B7.1 367 22 = (n : Int) := by rw [m7.2.2.1.1, en']
    have kc := sp_mrd (q := q) (S := B7) (c := 375) (n := n) (fr := 0) (g := fun k => s7.2.2.2.2 k) sh_375 (by decide) (Int.le_refl _) (by omega) (fun k hk => ⟨i1.2.2.2.1 k (by omega) (by omega), by
      have a1 := i1.2.2.2.1 k (by omega) (by omega)
      rw [Int.zero_add, m7.2.2.1.2 k (by omega) (by omega)]
      unfold b8
      omega⟩) (fun k hk => by
      rw [m7.2.2.2 372 k (by omega) (by omega), x6.2 372 k (by unfold XBm XCm XTb; omega)]
      exact hQ k hk)
    rw [← eH, ← ec] at kc
    have k269 : EV q 353 269 [some (.ref 367), some (vI f), some (vL y), none, none, none, none] [] B10 none B11 := vc_MD_openMember_269 _ _ ⟨B11, k11, rfl, rfl⟩
    have k240 : EV q 353 240 [some (.ref 367), some (vI f), some (vL z), none, none, none, none] [] B8 none B11 := by
      refine vc_MD_openMember_240 _ _ ⟨y, B9, k9, z10, B9, f10, ?_⟩
      rw [m9.2.2.1.1]
      rcases n10 with ⟨w1, w2⟩ | ⟨w1, w2, w3⟩ | ⟨w1, w2, w3⟩
      · rw [w2] at k269; exact cY w1 k269
      · rw [w3] at k269; exact cNo w1 (cY w2 k269)
      · exact cNo w1 (cNo w2 ⟨B10, w3, k269⟩)
    have k198 : EV q 353 198 [some (.ref 367), some (vI f), none, none, none, none, none] [] B6 none B11 := by
      refine vc_MD_openMember_198 _ ⟨z, B7, k7, z8, B7, f8, ?_⟩
      rcases n8 with ⟨w1, w2⟩ | ⟨w1, w2, w3⟩ | ⟨w1, w2, w3⟩
      · rw [w2] at k240; exact cY w1 k240
      · rw [w3] at k240; exact cNo w1 ⟨H, B7, kc, cY w2 k240⟩
      · exact cNo w1 ⟨H, B7, kc, cNo w2 ⟨B8, w3, k240⟩⟩
    have k184 : EV q 353 184 [some (.ref 367), some (vI f), none, none, none, none, none] [] B5 none B11 := by
      refine vc_MD_openMember_184 _ ⟨z6, B5, f6, ?_⟩
      rcases n6 with ⟨w1, w2⟩ | ⟨w1, w2⟩
      · rw [w2] at k198; exact cY w1 k198
      · exact cNo w1 ⟨B6, w2, k198⟩
    exact ⟨S1, B11, x6, k5 B11 k184, ⟨_, m11⟩, k6⟩
end Mem3
