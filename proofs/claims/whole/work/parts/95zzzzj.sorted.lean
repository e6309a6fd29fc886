/-! SORTED: the head of a block, both sides at once -/
section SrtG
variable {q : Nat × (Nat → Int32)} {en : Int}
def xSC (a : Nat) (_ : Int) : Prop := 94 ≤ a ∧ a ≤ 172
def xSM (a : Nat) (k : Int) : Prop := (406 ≤ a ∧ a ≤ 415) ∨ (a = 367 ∧ k = 66)
theorem xSC_97 {S S1 : ms} (e : EX xSC S S1) : S1.1 9 7 = S.1 9 7 := e.2 9 7 (by unfold xSC; omega)
theorem xSM_18 {S S1 : ms} (e : EX xSM S S1) : S1.1 367 18 = S.1 367 18 := e.2 367 18 (by unfold xSM; omega)
theorem xSC_rd {S S1 : ms} {o : Nat} {t : Int → Int} (e : EX xSC S S1) (h : RdC S o en t) : RdC S1 o en t := RdC_ey h e.ey (fun k => by unfold xSC; omega)
theorem xSM_rd {S S1 : ms} {t : Int → Int} (e : EX xSM S S1) (h : RdM S en t) : RdM S1 en t := RdM_ey h e.ey (fun k => by unfold xSM; omega)
theorem rd_gt2 {c : Prop} [Decidable c] {k : Int} {st : Rd} : (if c then st else rdTell k st).2.2 = st.2.2 := by
  by_cases h : c
  · rw [if_pos h]
  · rw [if_neg h]; exact rdTell_2
theorem rd_gt0 {c : Prop} [Decidable c] {k : Int} {st : Rd} (hk : k ≠ 0) (h : (if c then st else rdTell k st).1 = 0) : c := by
  by_cases hc : c
  · exact hc
  · rw [if_neg hc] at h; exact absurd h (rdTell_1 hk)
theorem rd_gtp {c : Prop} [Decidable c] {k : Int} {st : Rd} {h : Int} : rdP (if c then st else rdTell k st) h = rdP st h := by
  unfold rdP
  rw [rd_gt2]
theorem gMg {c : Prop} [Decidable c] {k u : Int} {S B : ms} {st : Rd} (hr : rdR en st) (he : en ≤ 6000) (hh : hR st u) (h : MB S B en st u) : ∃ B' : ms, MB S B' en (if c then st else rdTell k st) u ∧ ((st.1 ≠ 0 ∧ EV q 333 0 [some (.ref 367)] [] B (some (vI 0)) B ∧ B' = B) ∨ (st.1 = 0 ∧ EV q 333 0 [some (.ref 367)] [] B (some (vI 1)) B ∧ c ∧ B' = B) ∨ (st.1 = 0 ∧ EV q 333 0 [some (.ref 367)] [] B (some (vI 1)) B ∧ ¬ c ∧ EV q 337 0 [some (.ref 367), some (vI k)] [] B none B')) := by
  have kf := md_fine (q := q) hr h
  by_cases y : st.1 = 0
  · rw [if_pos y] at kf
    obtain ⟨B', g1, g2⟩ := gM (q := q) (c := c) (k := k) hr he hh h
    refine ⟨B', g1, ?_⟩
    rcases g2 with ⟨z1, z2⟩ | ⟨z1, z2⟩
    · exact Or.inr (Or.inl ⟨y, kf, z1, z2⟩)
    · exact Or.inr (Or.inr ⟨y, kf, z1, z2⟩)
  · rw [if_neg y] at kf
    refine ⟨B, ?_, Or.inl ⟨y, kf, rfl⟩⟩
    rw [rdTell_r y]
    by_cases d : c
    · rw [if_pos d]; exact h
    · rw [if_neg d]; exact h
theorem jhdS {t : Int → Int} (he : 0 ≤ en ∧ en ≤ 6000) (ht : ∀ k : Int, 0 ≤ k → k < en → 0 ≤ t k ∧ t k < 256) {st : Rd} {h : Int} (hr : rdR en st) (hh : hR st h) : ∃ (z z' og og' cn cn' nc nc' : Int) (m : Nat) (g : Int → Int) (st' : Rd) (h' : Int), (rdR en st' ∧ Fw st st' ∧ hR st' h' ∧ st'.2.2.2 = st.2.2.2) ∧ ((0 ≤ z ∧ z < 4294967296) ∧ (0 ≤ z' ∧ z' < 4294967296) ∧ (0 ≤ og ∧ og < 16777216) ∧ (0 ≤ og' ∧ og' < 16777216) ∧ m ≤ 256) ∧ (st'.1 = 0 → (z = z' ∧ og = og' ∧ cn = cn' ∧ nc = nc') ∧ (2 ≤ cn ∧ cn ≤ 6) ∧ (1 ≤ nc ∧ nc ≤ 32767) ∧ 1 ≤ m ∧ (∀ k : Nat, k < m → 0 ≤ g k ∧ g k < 256) ∧ rdP st h + 1 ≤ rdP st' h') ∧ (∀ (S A : ms) (o : Nat), S.1 9 7 = 1 → RdC S o en t → CB S A o en t st h → ∃ S1 A1, EX xSC S S1 ∧ CB S1 A1 o en t st' h' ∧ (st'.1 = 0 → SgC S1 m g ∧ S1.1 94 15 = nc) ∧ ∀ (r : Option Value) (T : ms), EV q 162 88 [some (.ref 94), some (.ref 9), some (vI z), some (vI og), some (vI cn), none] [] A1 r T → EV q 162 0 [some (.ref 94), some (.ref 9), none, none, none, none] [] A r T) ∧ ∀ S B : ms, S.1 367 18 = 1 → RdM S en t → MB S B en st h → ∃ (S1 B0 B1 : ms) (x1 x4 : Int), EV q 339 0 [some (.ref 367), some (vI 32), none, none, none, none, none] [] B (some (vL z')) B0 ∧ B0.1 367 22 = st.2.2.2.1 ∧ EX xSM S S1 ∧ MB S1 B1 en st' h' ∧ (st'.1 = 0 → SgM S1 m g) ∧ ∀ (r : Option Value) (T : ms), EV q 363 223 [some (.ref 367), some (vI x1), some (vL og'), none, some (vI x4), some (vI m), some (vI cn'), some (vI nc'), none, none, none, none] [] B1 r T → EV q 363 0 [some (.ref 367), none, none, none, none, none, none, none, none, none, none, none] [] B0 r T := by
  have w0 : w64 0 = 0 := by decide
  obtain ⟨z, z', st1, h1, ⟨a1, a2, a3, a4⟩, aR, a5, a6, a7⟩ := jbitsR0 (q := q) (hi := 1) he.2 ht (Or.inr rfl) (n := 32) (by omega) hr hh
  rw [show (2 : Int) ^ 32 = 4294967296 by decide] at aR
  obtain ⟨b, st2, h2, ⟨b1, b2, b3, b4⟩, b5, b6, b7, b8', b9⟩ := jbZ (q := q) he ht a1 a3
  have wb : w64 b = b := w64_of (by omega)
  have wb' : w32 b = b := w32_of (by omega)
  have t3 := rd_gt (c := b = 0) (k := 82) (by decide) b1
  obtain ⟨st3, e3⟩ : ∃ x : Rd, x = if b = 0 then st2 else rdTell 82 st2 := ⟨_, rfl⟩
  rw [← e3] at t3
  have h3 := hR_n b3 t3.2
  obtain ⟨og, og', st4, h4, ⟨d1, d2, d3, d4⟩, dR, d5, d6, d7⟩ := jbitsR0 (q := q) (hi := 1) he.2 ht (Or.inr rfl) (n := 24) (by omega) t3.1 h3
  rw [show (2 : Int) ^ 24 = 16777216 by decide] at dR
  obtain ⟨m, g, st5, h5, ⟨f1, f2, f3, f4⟩, fm, f5, f6, f7⟩ := jsig (q := q) he ht d1 d3
  obtain ⟨cn, cn', st6, h6, ⟨i1, i2, i3, i4⟩, iR, i5, i6, i7⟩ := jbitsR0 (q := q) (hi := 1) he.2 ht (Or.inr rfl) (n := 3) (by omega) f1 f3
  rw [show (2 : Int) ^ 3 = 8 by decide] at iR
  have wcn : w32 cn = cn := w32_of (by omega)
  have wcn' : w32 cn' = cn' := w32_of (by omega)
  have t7 := rd_gt (c := 2 ≤ cn ∧ cn ≤ 6) (k := 85) (by decide) i1
  obtain ⟨st7, e7⟩ : ∃ x : Rd, x = if 2 ≤ cn ∧ cn ≤ 6 then st6 else rdTell 85 st6 := ⟨_, rfl⟩
  rw [← e7] at t7
  have h7 := hR_n i3 t7.2
  obtain ⟨nc, nc', st8, h8, ⟨j1, j2, j3, j4⟩, jR, j5, j6, j7⟩ := jbitsR0 (q := q) (hi := 1) he.2 ht (Or.inr rfl) (n := 15) (by omega) t7.1 h7
  rw [show (2 : Int) ^ 15 = 32768 by decide] at jR
  have wnc : w32 nc = nc := w32_of (by omega)
  have wnc' : w32 nc' = nc' := w32_of (by omega)
  have t9 := rd_gt (c := ¬ nc = 0) (k := 85) (by decide) j1
  obtain ⟨st9, e9⟩ : ∃ x : Rd, x = if ¬ nc = 0 then st8 else rdTell 85 st8 := ⟨_, rfl⟩
  rw [← e9] at t9
  have h9 := hR_n j3 t9.2
  have q3 : st3.2.2 = st2.2.2 := by rw [e3]; exact rd_gt2
  have q7 : st7.2.2 = st6.2.2 := by rw [e7]; exact rd_gt2
  have q9 : st9.2.2 = st8.2.2 := by rw [e9]; exact rd_gt2
  have p3 : rdP st3 h2 = rdP st2 h2 := by unfold rdP; rw [q3]
  have p7 : rdP st7 h6 = rdP st6 h6 := by unfold rdP; rw [q7]
  have p9 : rdP st9 h8 = rdP st8 h8 := by unfold rdP; rw [q9]
  refine ⟨z, z', og, og', cn, cn', nc, nc', m, g, st9, h8, ⟨t9.1, Fw_t a2 (Fw_t b2 (Fw_t t3.2 (Fw_t d2 (Fw_t f2 (Fw_t i2 (Fw_t t7.2 (Fw_t j2 t9.2))))))), h9, ?_⟩, ⟨aR.1, aR.2, dR.1, dR.2, fm⟩, fun y => ?_, fun S A o hS hC hA => ?_, fun S B hS hC hB => ?_⟩
  · rw [q9, j4, q7, i4, f4, d4, q3, b4, a4]
  · have y8 := Fw_z t9.2 y
    have y7 := Fw_z j2 y8
    have y6 := Fw_z t7.2 y7
    have y5 := Fw_z i2 y6
    have y4 := Fw_z f2 y5
    have y3 := Fw_z d2 y4
    have y2 := Fw_z t3.2 y3
    have y1 := Fw_z b2 y2
    rw [e9] at y
    rw [e7] at y7
    have k1 := rd_gt0 (by decide) y
    have k2 := rd_gt0 (by decide) y7
    obtain ⟨l1, l2, l3⟩ := f5 y5
    have := (a5 y1).2.2
    have := b6 y2
    have := (d5 y4).2.2
    have := (i5 y6).2.2
    have := (j5 y8).2.2
    exact ⟨⟨(a5 y1).1, (d5 y4).1, (i5 y6).1, (j5 y8).1⟩, k2, by omega, l1.1, l2, by omega⟩
  · have ho := hC.2.2.1
    obtain ⟨A1, k1, k2⟩ := a6 S A o hS hC hA
    obtain ⟨A2, k3, k4⟩ := b8' S A1 o hS hC k2
    obtain ⟨A3, k5, k6⟩ := gC (q := q) (c := b = 0) (k := 82) b1 ho k4
    rw [← e3] at k5
    obtain ⟨A4, k7, k8⟩ := d6 S A3 o hS hC k5
    obtain ⟨S5, A5, k9, k10, k11, k12⟩ := f6 S A4 o hS hC k8
    have k9' : EX xSC S S5 := EX.mono k9 (fun a k y => by unfold xSC; omega)
    have hS5 : S5.1 9 7 = 1 := (xSC_97 k9').trans hS
    have hC5 := xSC_rd k9' hC
    obtain ⟨A6, k13, k14⟩ := i6 S5 A5 o hS5 hC5 k10
    obtain ⟨A7, k15, k16⟩ := gC (q := q) (c := 2 ≤ cn ∧ cn ≤ 6) (k := 85) i1 ho k14
    rw [← e7] at k15
    obtain ⟨A8, k17, k18⟩ := j6 S5 A7 o hS5 hC5 k15
    have k19 := CB_I (15 : Int) nc (show 94 ≠ 9 by decide) (show 94 ≠ o by omega) (show 94 ≠ o + 1 by omega) ho k18
    obtain ⟨A9, k20, k21⟩ := gC (q := q) (c := ¬ nc = 0) (k := 85) j1 ho k19
    rw [← e9] at k20
    refine ⟨wI S5 94 15 nc, A9, EX.wr k9' (show xSC 94 15 by unfold xSC; omega), k20, fun y => ⟨?_, wI_at _ _ _ _⟩, fun r T y => ?_⟩
    · have l := k11 (Fw_z i2 (Fw_z t7.2 (Fw_z j2 (Fw_z t9.2 y))))
      exact ⟨by rw [wI_no _ (by omega)]; exact l.1, fun k hk => by rw [wI_no _ (by omega)]; exact l.2 k hk⟩
    · have k64 : EV q 162 64 [some (.ref 94), some (.ref 9), some (vI z), some (vI og), some (vI cn), none] [] A7 r T := by
        refine vc_Sorted_openBlock_64 _ _ _ ⟨nc, A8, k17, fun S4 e4 => ?_⟩
        rw [e4, wI_at, wnc]
        rcases k21 with ⟨u1, u2⟩ | ⟨u1, u2⟩
        · rw [u2] at y; exact cY u1 y
        · exact cNo u1 ⟨A9, u2, y⟩
      have k24 : EV q 162 24 [some (.ref 94), some (.ref 9), some (vI z), none, none, none] [] A3 r T := by
        refine vc_Sorted_openBlock_24 _ ⟨og, A4, k7, A5, k12, cn, A6, k13, ?_⟩
        rw [wcn]
        rcases k16 with ⟨u1, u2⟩ | ⟨u1, u2⟩
        · rw [u2] at k64; exact cNo (by omega) (cY u1.2 k64)
        · have k58 := vc_Sorted_openBlock_58 (q := q) z og cn ⟨A7, u2, k64⟩
          by_cases v : cn < 2
          · exact cY v k58
          · exact cNo v (cNo (fun v' => u1 ⟨by omega, v'⟩) k58)
      refine vc_Sorted_openBlock ⟨z, A1, k1, b, A2, k3, ?_⟩
      rw [wb, w0]
      rcases k6 with ⟨u1, u2⟩ | ⟨u1, u2⟩
      · rw [u2] at k24; exact cY u1 k24
      · exact cNo u1 ⟨A3, u2, k24⟩
  · obtain ⟨B1, k1, k2⟩ := a7 S B hS hC hB
    obtain ⟨B2, k3, k4⟩ := b9 S B1 hS hC k2
    obtain ⟨B3, k5, k6⟩ := gMg (q := q) (c := b = 0) (k := 82) b1 he.2 b3 k4
    rw [← e3] at k5
    obtain ⟨B4, k7, k8⟩ := d7 S B3 hS hC k5
    obtain ⟨S5, B5, x4, k9, k10, k11, k12⟩ := f7 S B4 hS hC k8
    have k9' : EX xSM S S5 := EX.mono k9 (fun a k y => by unfold xSM; omega)
    have hS5 : S5.1 367 18 = 1 := (xSM_18 k9').trans hS
    have hC5 := xSM_rd k9' hC
    obtain ⟨B6, k13, k14⟩ := i7 S5 B5 hS5 hC5 k10
    obtain ⟨B7, k15, k16⟩ := gMg (q := q) (c := 2 ≤ cn ∧ cn ≤ 6) (k := 85) i1 he.2 i3 k14
    rw [← e7] at k15
    obtain ⟨B8, k17, k18⟩ := j7 S5 B7 hS5 hC5 k15
    obtain ⟨B9, k19, k20⟩ := gMg (q := q) (c := ¬ nc = 0) (k := 85) j1 he.2 j3 k18
    rw [← e9] at k19
    refine ⟨S5, B1, B9, b, x4, k1, by rw [k2.2.2.1.1, a4], k9', k19, fun y => k11 (Fw_z i2 (Fw_z t7.2 (Fw_z j2 (Fw_z t9.2 y)))), fun r T y => ?_⟩
    have k196 : EV q 363 196 [some (.ref 367), some (vI b), some (vL og'), none, some (vI x4), some (vI m), some (vI cn'), none, none, none, none, none] [] B7 r T := by
      rcases k20 with ⟨u0, u1, u2⟩ | ⟨u0, u1, u2, u3⟩ | ⟨u0, u1, u2, u3⟩
      · rw [u2] at y
        exact vc_MD_sortedBlock_196 _ _ _ _ _ ⟨nc', B8, k17, 0, B8, u1, cY (by decide) y⟩
      · rw [u3] at y
        refine vc_MD_sortedBlock_196 _ _ _ _ _ ⟨nc', B8, k17, 1, B8, u1, cNo (by decide) ?_⟩
        rw [wnc', ← (j5 u0).1]
        rw [← (j5 u0).1] at y
        exact cY u2 y
      · refine vc_MD_sortedBlock_196 _ _ _ _ _ ⟨nc', B8, k17, 1, B8, u1, cNo (by decide) ?_⟩
        rw [wnc', ← (j5 u0).1]
        rw [← (j5 u0).1] at y
        exact cNo u2 ⟨B9, u3, y⟩
    have k164 : ∀ x6 : Int, EV q 363 164 [some (.ref 367), some (vI b), some (vL og'), none, some (vI x4), some (vI m), some (vI x6), none, none, none, none, none] [] B5 r T := by
      intro x6
      rcases k16 with ⟨u0, u1, u2⟩ | ⟨u0, u1, u2, u3⟩ | ⟨u0, u1, u2, u3⟩
      · rw [u2] at k196
        exact vc_MD_sortedBlock_164 _ _ _ _ _ ⟨cn', B6, k13, 0, B6, u1, cY (by decide) k196⟩
      · rw [u3] at k196
        refine vc_MD_sortedBlock_164 _ _ _ _ _ ⟨cn', B6, k13, 1, B6, u1, cNo (by decide) ⟨1, B6, vc_MD_in _ _ _ ?_, cY (by decide) k196⟩⟩
        rw [wcn', ← (i5 u0).1, show w32 2 = 2 by decide, show w32 6 = 6 by decide]
        exact cNo (by omega) (cNo (by omega) ⟨rfl, rfl⟩)
      · refine vc_MD_sortedBlock_164 _ _ _ _ _ ⟨cn', B6, k13, 1, B6, u1, cNo (by decide) ⟨0, B6, vc_MD_in _ _ _ ?_, cNN (by decide) ⟨B7, u3, k196⟩⟩⟩
        rw [wcn', ← (i5 u0).1, show w32 2 = 2 by decide, show w32 6 = 6 by decide]
        by_cases v : cn < 2
        · exact cY v ⟨rfl, rfl⟩
        · exact cNo v (cY (by
            have : ¬ cn ≤ 6 := fun v' => u2 ⟨by omega, v'⟩
            omega) ⟨rfl, rfl⟩)
    have k23 : EV q 363 23 [some (.ref 367), some (vI b), none, none, none, none, none, none, none, none, none, none] [] B3 r T := vc_MD_sortedBlock_23 _ ⟨og', B4, k7, k12 b og' r T k164⟩
    refine vc_MD_sortedBlock ⟨b, B2, k3, ?_⟩
    rcases k6 with ⟨u0, u1, u2⟩ | ⟨u0, u1, u2, u3⟩ | ⟨u0, u1, u2, u3⟩
    · rw [u2] at k23
      exact ⟨0, B2, u1, cY (by decide) k23⟩
    · rw [u3] at k23
      refine ⟨1, B2, u1, cNo (by decide) ?_⟩
      rw [wb']
      exact cY (by omega) k23
    · refine ⟨1, B2, u1, cNo (by decide) ?_⟩
      rw [wb']
      exact cNN (by omega) ⟨B3, u3, k23⟩
end SrtG
