/-! RIM: open, both sides at once -/
section Rim
variable {q : Nat × (Nat → Int32)} {en : Int}
/-- not c tells rule k, on the reference's side, which asks first whether all is fine -/
theorem gMf {c : Prop} [Decidable c] {k u : Int} {S B : ms} {st : Rd} (hr : rdR en st) (he : en ≤ 6000) (hh : hR st u) (h : MB S B en st u) : ∃ (B' : ms) (z : Int), MB S B' en (if c then st else rdTell k st) u ∧ EV q 333 0 [some (.ref 367)] [] B (some (vI z)) B ∧ ((w32 z = 0 ∧ B' = B) ∨ (¬ w32 z = 0 ∧ c ∧ B' = B) ∨ (¬ w32 z = 0 ∧ ¬ c ∧ EV q 337 0 [some (.ref 367), some (vI k)] [] B none B')) := by
  have kf := md_fine (q := q) hr h
  by_cases y : st.1 = 0
  · rw [if_pos y] at kf
    obtain ⟨B', g1, g2⟩ := gM (q := q) (c := c) (k := k) hr he hh h
    refine ⟨B', 1, g1, kf, ?_⟩
    rcases g2 with ⟨z1, z2⟩ | ⟨z1, z2⟩
    · exact Or.inr (Or.inl ⟨by decide, z1, z2⟩)
    · exact Or.inr (Or.inr ⟨by decide, z1, z2⟩)
  · rw [if_neg y] at kf
    refine ⟨B, 0, ?_, kf, Or.inl ⟨by decide, rfl⟩⟩
    rw [rdTell_r y]
    by_cases d : c
    · rw [if_pos d]; exact h
    · rw [if_neg d]; exact h
theorem oj_rim {t : Int → Int} (he : 0 ≤ en ∧ en ≤ 6000) (ht : ∀ k : Int, 0 ≤ k → k < en → 0 ≤ t k ∧ t k < 256) : ∃ stf : Rd, rdR en stf ∧ (∀ (S A : ms) (o : Nat), S.1 9 7 = 0 → RdC S o en t → CodC S 31 288 flF → CodC S 42 32 (fun _ => 5) → CR S A o en st0 → ∃ S1 A1, EY XCc S S1 ∧ EV q 142 0 [some (.ref 30), some (.ref 9), none, none, none, none] [] A none A1 ∧ CF S1 A1 o en stf) ∧ ∀ S B : ms, TbK S → RdM S en t → MR S B en st0 → ∃ S1 B1, EY XBm S S1 ∧ EV q 351 0 [some (.ref 367), none, none, none, none] [] B none B1 ∧ MF S1 B1 en stf ∧ TbK S1 := by
  have hr0 : rdR en st0 := rdR_0 he.1
  obtain ⟨x, ex⟩ : ∃ x : Int, x = (rdTake t en st0).1 := ⟨_, rfl⟩
  have hx := rdTake_rg hr0 ht
  rw [← ex] at hx
  obtain ⟨s1, es1⟩ : ∃ s : Rd, s = (rdTake t en st0).2 := ⟨_, rfl⟩
  have r1 : rdR en s1 := by rw [es1]; exact rdR_take hr0
  have t2 := rd_gt (c := x % 16 = 8 ∧ x / 16 ≤ 7) (k := 20) (by decide) r1
  obtain ⟨s2, es2⟩ : ∃ s : Rd, s = if x % 16 = 8 ∧ x / 16 ≤ 7 then s1 else rdTell 20 s1 := ⟨_, rfl⟩
  rw [← es2] at t2
  obtain ⟨y, ey⟩ : ∃ y : Int, y = (rdTake t en s2).1 := ⟨_, rfl⟩
  have hy := rdTake_rg t2.1 ht
  rw [← ey] at hy
  obtain ⟨s3, es3⟩ : ∃ s : Rd, s = (rdTake t en s2).2 := ⟨_, rfl⟩
  have r3 : rdR en s3 := by rw [es3]; exact rdR_take t2.1
  have f3 : Fw s2 s3 := by rw [es3]; exact Fw_take
  have t4 := rd_gt (c := (x * 256 + y) % 31 = 0) (k := 21) (by decide) r3
  obtain ⟨s4, es4⟩ : ∃ s : Rd, s = if (x * 256 + y) % 31 = 0 then s3 else rdTell 21 s3 := ⟨_, rfl⟩
  rw [← es4] at t4
  have t5 := rd_gt (c := w32 (bA y 32) = 0) (k := 22) (by decide) t4.1
  obtain ⟨s5, es5⟩ : ∃ s : Rd, s = if w32 (bA y 32) = 0 then s4 else rdTell 22 s4 := ⟨_, rfl⟩
  rw [← es5] at t5
  have wx : w32 x = x := w32_of (by omega)
  have wxm : w32 (x % 16) = x % 16 := w32_of (by omega)
  have wxd : w32 (x / 16) = x / 16 := w32_of (by omega)
  have w16 : w32 16 = 16 := by decide
  have w31 : w32 31 = 31 := by decide
  have wxy : w32 (x * 256 + y) = x * 256 + y := w32_of (by omega)
  have tm16 : Int.tmod x 16 = x % 16 := Int.tmod_eq_emod_of_nonneg hx.1
  have td16 : Int.tdiv x 16 = x / 16 := Int.tdiv_eq_ediv_of_nonneg hx.1
  have tm31 : Int.tmod (x * 256 + y) 31 = (x * 256 + y) % 31 := Int.tmod_eq_emod_of_nonneg (by omega)
  have wm31 : w32 ((x * 256 + y) % 31) = (x * 256 + y) % 31 := w32_of (by omega)
  obtain ⟨R, eR⟩ : ∃ R : Int, R = 1 * ((2 : Int) ^ ((x / 16 + 8) % 32).toNat) := ⟨_, rfl⟩
  have eR2 : 1 * ((2 : Int) ^ ((x / 16 + 8) % 64).toNat) = R := by rw [eR, show (x / 16 + 8) % 64 = (x / 16 + 8) % 32 by omega]
  -- the blocks
  obtain ⟨s6, ⟨g1, g2⟩, g3, g4⟩ : ∃ s6 : Rd, (rdR en s6 ∧ Fw s5 s6) ∧ (∀ (S A : ms) (o : Nat), S.1 9 7 = 0 → RdC S o en t → CodC S 31 288 flF → CodC S 42 32 (fun _ => 5) → CR S A o en s5 → ∃ S1 A1, EX XCc S S1 ∧ EV q 129 0 [some (.ref 30), some (.ref 9), some (vI R), none, none] [] A none A1 ∧ CR S1 A1 o en s6) ∧ ∀ S B : ms, TbK S → RdM S en t → MR S B en s5 → ∃ (S1 B1 : ms) (z : Int), EY XBm S S1 ∧ MR S1 B1 en s6 ∧ TbK S1 ∧ EV q 333 0 [some (.ref 367)] [] B (some (vI z)) B ∧ ((w32 z = 0 ∧ B1 = B) ∨ (¬ w32 z = 0 ∧ EV q 343 0 [some (.ref 367), some (vL R), none, none, none] [] B none B1)) := by
    by_cases c5 : s5.1 = 0
    · have c4 := Fw_z t5.2 c5
      have c3 := Fw_z t4.2 c4
      have c2 := Fw_z f3 c3
      have hx7 : x / 16 ≤ 7 := by
        by_cases d : x % 16 = 8 ∧ x / 16 ≤ 7
        · exact d.2
        · rw [es2, if_neg d] at c2
          exact absurd c2 (rdTell_1 (by decide))
      have hR1 : 0 ≤ R ∧ R ≤ 100000 := by
        have k : ∀ e : Fin 8, 0 ≤ 1 * ((2 : Int) ^ (((e.val : Int) + 8) % 32).toNat) ∧ 1 * ((2 : Int) ^ (((e.val : Int) + 8) % 32).toNat) ≤ 100000 := by decide
        obtain ⟨e, ee⟩ : ∃ e : Nat, x / 16 = e := ⟨(x / 16).toNat, by omega⟩
        rw [eR, ee]
        exact k ⟨e, by omega⟩
      obtain ⟨s6, i1, i2, i3⟩ := jall (q := q) (rc := R) he ht hR1 t5.1 (hR_0 s5)
      refine ⟨s6, i1, fun S A o hS hC hD hE hA => i2 S A o hS hC hD hE (CB_0 t hA), fun S B hK hC hB => ?_⟩
      have kf := md_fine (q := q) t5.1 hB
      rw [if_pos c5] at kf
      obtain ⟨S1, B1, k1, k2, k3, k4⟩ := i3 S B hK hC hB
      exact ⟨S1, B1, 1, k1, k3, k4, kf, Or.inr ⟨by decide, k2⟩⟩
    · refine ⟨s5, ⟨t5.1, Fw_r s5⟩, fun S A o hS hC hD hE hA => ?_, fun S B hK hC hB => ?_⟩
      · obtain ⟨k1, k2⟩ := cl_fin (q := q) (x2 := R) (x3 := 0) (x4 := 0) (Or.inr c5) t5.1 hC.2.2.1 hA
        exact ⟨S, _, EX.refl _ S, vc_Blocks_openAll _ k1, k2⟩
      · have kf := md_fine (q := q) t5.1 hB
        rw [if_neg c5] at kf
        exact ⟨S, B, 0, ⟨rfl, fun _ _ _ => rfl⟩, hB, hK, kf, Or.inl ⟨by decide, rfl⟩⟩
  obtain ⟨z, s7, ⟨i1, i2⟩, i3, i4, i5⟩ := jhigh0 (q := q) ht (n := 4) (by decide) g1
  -- the sum
  have hc7 := i1.2.2.1
  obtain ⟨n, en'⟩ : ∃ n : Nat, s7.2.2.2.1 = n := ⟨s7.2.2.2.1.toNat, by omega⟩
  obtain ⟨v, ev⟩ : ∃ v : Int, v = (adA (fun k => s7.2.2.2.2 k) n).2 * 65536 + (adA (fun k => s7.2.2.2.2 k) n).1 := ⟨_, rfl⟩
  have hv : 0 ≤ v ∧ v < 4294967296 := by
    have := adA_rg (fun k => s7.2.2.2.2 k) n
    omega
  have t8 := rd_gt (c := w64 z = w64 v) (k := 23) (by decide) i1
  obtain ⟨s8, es8⟩ : ∃ s : Rd, s = if w64 z = w64 v then s7 else rdTell 23 s7 := ⟨_, rfl⟩
  rw [← es8] at t8
  have wv : (w32 v) % 4294967296 = v := by
    unfold w32
    omega
  refine ⟨rdEnd en s8, rdR_end t8.1, fun S A o hS hC hD hE hA => ?_, fun S B hK hC hB => ?_⟩
  · have ho := hC.2.2.1
    obtain ⟨A1, k1, m1⟩ := sp_take (q := q) hC hr0 hA
    rw [← ex] at k1
    rw [← es1] at m1
    obtain ⟨A2, m2, n2⟩ := gC (q := q) (c := x % 16 = 8 ∧ x / 16 ≤ 7) (k := 20) r1 ho m1
    rw [← es2] at m2
    obtain ⟨A3, k3, m3⟩ := sp_take (q := q) hC t2.1 m2
    rw [← ey] at k3
    rw [← es3] at m3
    obtain ⟨A4, m4, n4⟩ := gC (q := q) (c := (x * 256 + y) % 31 = 0) (k := 21) r3 ho m3
    rw [← es4] at m4
    obtain ⟨A5, m5, n5⟩ := gC (q := q) (c := w32 (bA y 32) = 0) (k := 22) t4.1 ho m4
    rw [← es5] at m5
    obtain ⟨S1, A6, x6, k6, m6⟩ := g3 S A5 o hS hC hD hE m5
    have hC1 : RdC S1 o en t := RdC_ey hC x6.ey (fun k => by unfold XCc; omega)
    obtain ⟨A7, k7, m7⟩ := i4 S1 A6 o hC1 m6
    obtain ⟨A8, m8, n8⟩ := gC (q := q) (c := w64 z = w64 v) (k := 23) i1 ho m7
    rw [← es8] at m8
    obtain ⟨A9, k9, m9⟩ := sb_end (q := q) hC1 t8.1 m8
    have eo : A7.2.2 9 1 = o := by rw [m7.1]; exact hC1.1
    have ec : A7.1 o 1 = (0 : Int) + n := by rw [m7.2.2.1.1, en', Int.zero_add]
    have kad := sp_cad (q := q) (S := A7) (c := o + 1) (n := n) (fr := 0) (g := fun k => s7.2.2.2.2 k) hC.2.1.2 (by decide) (Int.le_refl _) (by omega) (fun k hk => ⟨i1.2.2.2.1 k (by omega) (by omega), by rw [Int.zero_add]; exact m7.2.2.1.2 k (by omega) (by omega)⟩)
    rw [← ev, ← ec] at kad
    have k120 : EV q 142 120 [some (.ref 30), some (.ref 9), some (vI x), some (vI y), some (vL z), none] [] A8 none A9 := vc_Blocks_openRim_120 _ _ _ ⟨A9, k9, rfl, rfl⟩
    have k65 : EV q 142 65 [some (.ref 30), some (.ref 9), some (vI x), some (vI y), none, none] [] A5 none A9 := by
      refine vc_Blocks_openRim_65 _ _ ?_
      rw [wx, ← eR]
      refine ⟨A6, k6, z, A7, k7, o, 12000, eo, hC.2.1, o, 12000, eo, hC.2.1, v, A7, kad, ?_⟩
      rw [wv]
      rcases n8 with ⟨w1, w2⟩ | ⟨w1, w2⟩
      · rw [w2] at k120; exact cY w1 k120
      · exact cNo w1 ⟨A8, w2, k120⟩
    have k52 : EV q 142 52 [some (.ref 30), some (.ref 9), some (vI x), some (vI y), none, none] [] A4 none A9 := by
      refine vc_Blocks_openRim_52 _ _ ?_
      rcases n5 with ⟨w1, w2⟩ | ⟨w1, w2⟩
      · rw [w2] at k65; exact cY w1 k65
      · exact cNo w1 ⟨A5, w2, k65⟩
    have k28 : EV q 142 28 [some (.ref 30), some (.ref 9), some (vI x), none, none, none] [] A2 none A9 := by
      refine vc_Blocks_openRim_28 _ ⟨y, A3, k3, ?_⟩
      rw [wxy, w31, tm31, wm31]
      rcases n4 with ⟨w1, w2⟩ | ⟨w1, w2⟩
      · rw [w2] at k52; exact cY w1 k52
      · exact cNo w1 ⟨A4, w2, k52⟩
    refine ⟨S1, A9, x6.ey, vc_Blocks_openRim ⟨x, A1, k1, ?_⟩, ⟨_, _, m9⟩⟩
    rw [wxm, wx, wxd]
    rcases n2 with ⟨w1, w2⟩ | ⟨w1, w2⟩
    · rw [w2] at k28
      exact cNN w1.1 (cY w1.2 k28)
    · have k22 : EV q 142 22 [some (.ref 30), some (.ref 9), some (vI x), none, none, none] [] A1 none A9 := vc_Blocks_openRim_22 _ ⟨A2, w2, k28⟩
      by_cases d : x % 16 = 8
      · exact cNN d (cNo (fun w => w1 ⟨d, w⟩) k22)
      · exact cY d k22
  · obtain ⟨B1, k1, m1⟩ := md_take (q := q) hC hr0 hB
    rw [← ex] at k1
    rw [← es1] at m1
    obtain ⟨B2, z2, m2, f2, n2⟩ := gMf (q := q) (c := x % 16 = 8 ∧ x / 16 ≤ 7) (k := 20) r1 he.2 (hR_0 s1) m1
    rw [← es2] at m2
    obtain ⟨B3, k3, m3⟩ := md_take (q := q) hC t2.1 m2
    rw [← ey] at k3
    rw [← es3] at m3
    obtain ⟨B4, z4, m4, f4, n4⟩ := gMf (q := q) (c := (x * 256 + y) % 31 = 0) (k := 21) r3 he.2 (hR_0 s3) m3
    rw [← es4] at m4
    obtain ⟨B5, z5, m5, f5, n5⟩ := gMf (q := q) (c := w32 (bA y 32) = 0) (k := 22) t4.1 he.2 (hR_0 s4) m4
    rw [← es5] at m5
    obtain ⟨S1, B6, z6, x6, m6, k6, f6, n6⟩ := g4 S B5 hK hC m5
    have hC1 : RdM S1 en t := RdM_ey hC x6 (fun k => by unfold XBm XCm XTb; omega)
    obtain ⟨B7, k7, m7⟩ := i5 S1 B6 hC1 m6
    obtain ⟨B8, z8, m8, f8, n8⟩ := gMf (q := q) (c := w64 z = w64 v) (k := 23) i1 he.2 (hR_0 s7) m7
    rw [← es8] at m8
    obtain ⟨B9, k9, m9⟩ := mb_end (q := q) he.2 t8.1 (hR_0 s8) m8
    have ec : B7.1 367 22 = (n : Int) := by rw [m7.2.2.1.1, en']
    have kad := sp_mad (q := q) (S := B7) (c := 375) (n := n) (fr := 0) (g := fun k => s7.2.2.2.2 k) sh_375 (by decide) (Int.le_refl _) (by omega) (fun k hk => ⟨i1.2.2.2.1 k (by omega) (by omega), by
      have a1 := i1.2.2.2.1 k (by omega) (by omega)
      rw [Int.zero_add, m7.2.2.1.2 k (by omega) (by omega)]
      unfold b8
      omega⟩)
    rw [← ev, ← ec] at kad
    have k143 : EV q 351 143 [some (.ref 367), some (vI x), some (vI y), some (vL z), none] [] B8 none B9 := vc_MD_openRim_143 _ _ _ ⟨B9, k9, rfl, rfl⟩
    have k107 : EV q 351 107 [some (.ref 367), some (vI x), some (vI y), none, none] [] B6 none B9 := by
      refine vc_MD_openRim_107 _ _ ⟨z, B7, k7, z8, B7, f8, ?_⟩
      rcases n8 with ⟨w1, w2⟩ | ⟨w1, w2, w3⟩ | ⟨w1, w2, w3⟩
      · rw [w2] at k143; exact cY w1 k143
      · rw [w3] at k143; exact cNo w1 ⟨v, B7, kad, cY w2 k143⟩
      · exact cNo w1 ⟨v, B7, kad, cNo w2 ⟨B8, w3, k143⟩⟩
    have k87 : EV q 351 87 [some (.ref 367), some (vI x), some (vI y), none, none] [] B5 none B9 := by
      refine vc_MD_openRim_87 _ _ ⟨z6, B5, f6, ?_⟩
      rw [wx, w16, td16, eR2]
      rcases n6 with ⟨w1, w2⟩ | ⟨w1, w2⟩
      · rw [w2] at k107; exact cY w1 k107
      · exact cNo w1 ⟨B6, w2, k107⟩
    have k67 : EV q 351 67 [some (.ref 367), some (vI x), some (vI y), none, none] [] B4 none B9 := by
      refine vc_MD_openRim_67 _ _ ⟨z5, B4, f5, ?_⟩
      rcases n5 with ⟨w1, w2⟩ | ⟨w1, w2, w3⟩ | ⟨w1, w2, w3⟩
      · rw [w2] at k87; exact cY w1 k87
      · rw [w3] at k87; exact cNo w1 (cY w2 k87)
      · exact cNo w1 (cNo w2 ⟨B5, w3, k87⟩)
    have k36 : EV q 351 36 [some (.ref 367), some (vI x), none, none, none] [] B2 none B9 := by
      refine vc_MD_openRim_36 _ ⟨y, B3, k3, z4, B3, f4, ?_⟩
      rw [show 256 * x + y = x * 256 + y by omega, wxy, w31, tm31, wm31]
      rcases n4 with ⟨w1, w2⟩ | ⟨w1, w2, w3⟩ | ⟨w1, w2, w3⟩
      · rw [w2] at k67; exact cY w1 k67
      · rw [w3] at k67; exact cNo w1 (cY w2 k67)
      · exact cNo w1 (cNo w2 ⟨B4, w3, k67⟩)
    refine ⟨S1, B9, x6, vc_MD_openRim ⟨x, B1, k1, z2, B1, f2, ?_⟩, ⟨_, m9⟩, k6⟩
    rw [wx, w16, tm16, td16, wxm, wxd]
    rcases n2 with ⟨w1, w2⟩ | ⟨w1, w2, w3⟩ | ⟨w1, w2, w3⟩
    · rw [w2] at k36; exact cY w1 k36
    · rw [w3] at k36; exact cNo w1 (cNN w2.1 (cY w2.2 k36))
    · have k30 : EV q 351 30 [some (.ref 367), some (vI x), none, none, none] [] B1 none B9 := vc_MD_openRim_30 _ ⟨B2, w3, k36⟩
      by_cases d : x % 16 = 8
      · exact cNo w1 (cNN d (cNo (fun w => w2 ⟨d, w⟩) k30))
      · exact cNo w1 (cY d k30)
end Rim
