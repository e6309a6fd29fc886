/-! SORTED: a whole block, both sides at once -/
section SrtJ
variable {q : Nat × (Nat → Int32)} {en : Int}
/-- what the reference does with a block, from its 32 bits on, as far as 175 -/
def bkM (q : Nat × (Nat → Int32)) (x1 x2 x3 x4 : Int) (B : ms) (r : Option Value) (T : ms) : Prop := ∃ (z12 : Int) (S10 : ms), EV q 339 0 [some (.ref 367), some (vI 32), none, none, none, none, none] [] B (some (vL z12)) S10 ∧ ∃ (S13 : ms), EV q 363 0 [some (.ref 367), none, none, none, none, none, none, none, none, none, none, none] [] S10 none S13 ∧ ∃ (z17 : Int) (S15 : ms), EV q 333 0 [some (.ref 367)] [] S13 (some (vI z17)) S15 ∧ ((w32 z17 = 0) → EV q 362 175 [some (.ref 367), some (vI x1), some (vI x2), some (vI x3), some (vL x4), none, some (vI z12), some (vI (S10.1 367 22))] [] S15 r T) ∧ ((¬ w32 z17 = 0) → ∃ (z20 : Int) (S18 : ms), EV q 265 0 [some (.ref 367), some (.ref 375), some (vI (S10.1 367 22)), some (vI ((S15.1 367 22) - (S10.1 367 22))), none, none] [] S15 (some (vI z20)) S18 ∧ ((w32 z20 = w32 z12) → EV q 362 175 [some (.ref 367), some (vI x1), some (vI x2), some (vI x3), some (vL x4), none, some (vI z12), some (vI (S10.1 367 22))] [] S18 r T) ∧ ((¬ w32 z20 = w32 z12) → ∃ (S21 : ms), EV q 337 0 [some (.ref 367), some (vI 90)] [] S18 none S21 ∧ EV q 362 175 [some (.ref 367), some (vI x1), some (vI x2), some (vI x3), some (vL x4), none, some (vI z12), some (vI (S10.1 367 22))] [] S21 r T))
def Tb3 (S : ms) : Prop := ∀ t : Nat, t < 256 → S.1 373 t = tnF 8 (((t : Nat) : Int) * 16777216)
theorem jbkS {t : Int → Int} (he : 0 ≤ en ∧ en ≤ 6000) (ht : ∀ k : Int, 0 ≤ k → k < en → 0 ≤ t k ∧ t k < 256) {st : Rd} {h : Int} (hr : rdR en st) (hh : hR st h) : ∃ (z z' : Int) (st' : Rd) (h' : Int), (rdR en st' ∧ Fw st st' ∧ hR st' h') ∧ ((0 ≤ z ∧ z < 4294967296) ∧ (0 ≤ z' ∧ z' < 4294967296)) ∧ (st'.1 = 0 → z = z' ∧ rdP st h + 1 ≤ rdP st' h') ∧ (∀ (S A : ms) (o : Nat), S.1 9 7 = 1 → RdC S o en t → CB S A o en t st h → ∃ S1 A1, EX xSC S S1 ∧ CB S1 A1 o en t st' h' ∧ EV q 162 0 [some (.ref 94), some (.ref 9), none, none, none, none] [] A (some (vI z)) A1) ∧ ∀ S B : ms, S.1 367 18 = 1 → RdM S en t → Tb3 S → MB S B en st h → ∃ S1 B1, EX xSM S S1 ∧ MB S1 B1 en st' h' ∧ ∀ (x1 x2 x3 x4 : Int) (r : Option Value) (T : ms), (∀ x7 : Int, EV q 362 175 [some (.ref 367), some (vI x1), some (vI x2), some (vI x3), some (vL x4), none, some (vI z'), some (vI x7)] [] B1 r T) → bkM q x1 x2 x3 x4 B r T := by
  classical
  obtain ⟨z, z', og, og', cn, cn', nc, nc', m, g, st9, h9, ⟨a1, a2, a3, a4⟩, ⟨b1, b2, b3, b4, b5⟩, a5, a6, a7⟩ := jhdS (q := q) he ht hr hh
  -- told: the rest of the reference
  have mtold : ∀ (S B B0 B1 : ms) (st5 : Rd) (h5 : Int), st5.1 ≠ 0 → rdR en st5 → EV q 339 0 [some (.ref 367), some (vI 32), none, none, none, none, none] [] B (some (vL z')) B0 → MB S B1 en st5 h5 → EV q 363 0 [some (.ref 367), none, none, none, none, none, none, none, none, none, none, none] [] B0 none B1 → ∀ (x1 x2 x3 x4 : Int) (r : Option Value) (T : ms), (∀ x7 : Int, EV q 362 175 [some (.ref 367), some (vI x1), some (vI x2), some (vI x3), some (vL x4), none, some (vI z'), some (vI x7)] [] B1 r T) → bkM q x1 x2 x3 x4 B r T := by
    intro S B B0 B1 st5 h5 c hr5 k1 k2 k3 x1 x2 x3 x4 r T y
    have kf := md_fine (q := q) hr5 k2
    rw [if_neg c] at kf
    exact ⟨z', B0, k1, B1, k3, 0, B1, kf, cY (by decide) (y _)⟩
  by_cases c9 : st9.1 = 0
  case neg =>
    refine ⟨z, z', st9, h9, ⟨a1, a2, a3⟩, ⟨b1, b2⟩, fun y => absurd y c9, fun S A o hS hC hA => ?_, fun S B hS hC hQ hB => ?_⟩
    · obtain ⟨S1, A1, k1, k2, k3, k4⟩ := a6 S A o hS hC hA
      obtain ⟨S2, A2, m1, m2, m3⟩ := bk_88t (q := q) (z := z) (og := og) (cn := cn) c9 a1 hC.2.2.1 k2
      exact ⟨S2, A2, EX.trans k1 m1, m2, k4 _ _ m3⟩
    · obtain ⟨S1, B0, B1, x1, x4, k1, k2, k3, k4, k5, k6⟩ := a7 S B hS hC hB
      obtain ⟨S2, B2, m1, m2, m3⟩ := bk_223t (q := q) (x1 := x1) (x2 := og') (x4 := x4) (x6 := cn') (x7 := nc') b5 c9 a1 k4
      exact ⟨S2, B2, EX.trans k3 m1, m2, mtold S2 B B0 B2 st9 h9 c9 a1 k1 m2 (k6 none B2 m3)⟩
  obtain ⟨⟨ez, eo, ec, en'⟩, hcn, hnc, hm1, hg, p9⟩ := a5 c9
  subst ez eo ec en'
  obtain ⟨CN, eC⟩ : ∃ C : Nat, cn = C := ⟨cn.toNat, by omega⟩
  obtain ⟨NC, eN⟩ : ∃ N : Nat, nc = N := ⟨nc.toNat, by omega⟩
  obtain ⟨OG, eO⟩ : ∃ O : Nat, og = O := ⟨og.toNat, by omega⟩
  subst eC eN eO
  have m2 : ((m + 2 : Nat) : Int) = (m : Int) + 2 := by omega
  -- choices, codes
  obtain ⟨ch, st10, h10, ⟨d1, d2, d3, d4⟩, d5, d6, d7⟩ := jchL (q := q) (cnt := CN) (n := NC) he ht (by omega) (by omega) NC 0 (fun k => k) (fun _ => 0) st9 h9 (by omega) (fun k hk => by show 0 ≤ ((k : Nat) : Int) ∧ ((k : Nat) : Int) < 8; omega) (fun k hk => by show 0 ≤ ((k : Nat) : Int) ∧ ((k : Nat) : Int) < CN; omega) (fun k hk => absurd hk (by omega)) a1 a3
  rw [show sx6 (fun k => k) = 181896 by decide] at d6
  obtain ⟨ls, st11, h11, ⟨f1, f2, f3, f4⟩, f5, f6, f7⟩ := jcds (q := q) (cnt := CN) (n := m + 2) he ht (by omega) (by omega) CN 0 (fun _ _ => 0) st10 h10 (by omega) (fun i hi => absurd hi (by omega)) d1 d3
  -- the class as far as 130
  have ccl : ∀ (S A : ms) (o : Nat), S.1 9 7 = 1 → RdC S o en t → CB S A o en t st h → ∃ S1 A1, EX xSC S S1 ∧ CB S1 A1 o en t st11 h11 ∧ (st11.1 = 0 → HrC en t NC m CN ch ls S1 o ∧ ∀ k : Nat, k < m → S1.1 102 k = g k) ∧ ∀ (r : Option Value) (T : ms), (∀ x5 : Int, EV q 162 130 [some (.ref 94), some (.ref 9), some (vI z), some (vI OG), some (vI CN), some (vI x5)] [] A1 r T) → EV q 162 0 [some (.ref 94), some (.ref 9), none, none, none, none] [] A r T := by
    intro S A o hS hC hA
    obtain ⟨S1, A1, k1, k2, k3, k4⟩ := a6 S A o hS hC hA
    obtain ⟨l1, l2⟩ := k3 c9
    obtain ⟨S2, A2, k5, k6, k7, k8⟩ := d6 S1 A1 o ((xSC_97 k1).trans hS) l2 (xSC_rd k1 hC) (fun k hk => absurd hk (by omega)) k2
    have k5' : EX xSC S1 S2 := EX.mono k5 (fun a k y => by unfold xSC; omega)
    have e9 : S2.1 94 9 = m := by rw [k5.2 94 9 (show ¬ (94 : Nat) = 106 by decide)]; exact l1.1
    have k15 := EX.trans k1 k5'
    obtain ⟨S3, A3, k9, k10, k11, k12⟩ := f6 S2 A2 o ((xSC_97 k15).trans hS) (by rw [e9, m2]) (xSC_rd k15 hC) (fun i hi => absurd hi (by omega)) k6
    have k9' : EX xSC S2 S3 := EX.mono k9 (fun a k y => by unfold xSC; omega)
    have k159 := EX.trans k15 k9'
    refine ⟨S3, A3, k159, k10, fun y => ⟨⟨(xSC_97 k159).trans hS, ?_, ?_, xSC_rd k159 hC, fun k hk => ?_, k11 y⟩, fun k hk => ?_⟩, fun r T y => k4 r T (vc_Sorted_openBlock_88 _ _ _ ⟨A2, vc_Sorted_openChoices _ k8, k12 _ _ r T y⟩)⟩
    · rw [k9.2 94 15 (by omega), k5.2 94 15 (show ¬ (94 : Nat) = 106 by decide)]; exact l2
    · rw [k9.2 94 9 (by omega)]; exact e9
    · rw [k9.2 106 k (by omega)]; exact k7 (Fw_z f2 y) k hk
    · rw [k9.2 102 k (by omega), k5.2 102 k (show ¬ (102 : Nat) = 106 by decide)]; exact l1.2 k hk
  -- the reference as far as 508
  have mcl : ∀ S B : ms, S.1 367 18 = 1 → RdM S en t → MB S B en st h → ∃ (S1 B0 B1 : ms) (x1 x4 : Int), EV q 339 0 [some (.ref 367), some (vI 32), none, none, none, none, none] [] B (some (vL z)) B0 ∧ B0.1 367 22 = st.2.2.2.1 ∧ EX xSM S S1 ∧ MB S1 B1 en st11 h11 ∧ (st11.1 = 0 → HrM en t NC m CN ch ls S1 ∧ ∀ k : Nat, k < m → S1.1 409 k = b8 (g k)) ∧ ∀ (r : Option Value) (T : ms), (∀ x9 : Int, EV q 363 508 [some (.ref 367), some (vI x1), some (vL OG), none, some (vI x4), some (vI m), some (vI CN), some (vI NC), some (vI ((m + 2 : Nat) : Int)), some (vI x9), none, none] [] B1 r T) → EV q 363 0 [some (.ref 367), none, none, none, none, none, none, none, none, none, none, none] [] B0 r T := by
    intro S B hS hC hB
    obtain ⟨S1, B0, B1, x1, x4, k1, k2, k3, k4, k5, k6⟩ := a7 S B hS hC hB
    obtain ⟨B2, j1, j2, j3⟩ := md_sixS (q := q) 6 0 B1 (by omega) (fun j hj => absurd hj (by omega))
    obtain ⟨S2, s1, s2, s3⟩ := MB_X (X := fun a _ => a = 410) (fun a k y => by omega) k4 j1
    have s1' : EX xSM S1 S2 := EX.mono s1 (fun a k y => by unfold xSM; omega)
    have k3s := EX.trans k3 s1'
    obtain ⟨S3, B3, i1, i2, i3, i4⟩ := d7 S2 B2 ((xSM_18 k3s).trans hS) (xSM_rd k3s hC) (fun k hk => by rw [s2 410 k rfl]; exact j2 k hk) (fun k hk => absurd hk (by omega)) s3
    have i1' : EX xSM S2 S3 := EX.mono i1 (fun a k y => by unfold xSM; omega)
    have k3i := EX.trans k3s i1'
    obtain ⟨S4, B4, l1, l2, l3, l4⟩ := f7 S3 B3 x1 OG x4 m NC ((xSM_18 k3i).trans hS) (xSM_rd k3i hC) (fun i hi => absurd hi (by omega)) i2
    have l1' : EX xSM S3 S4 := EX.mono l1 (fun a k y => by unfold xSM; omega)
    have k3l := EX.trans k3i l1'
    refine ⟨S4, B0, B4, x1, x4, k1, k2, k3l, l2, fun y => ⟨⟨(xSM_18 k3l).trans hS, xSM_rd k3l hC, fun k hk => ?_, l3 y⟩, fun k hk => ?_⟩, fun r T y => k6 r T (vc_MD_sortedBlock_223 _ _ _ _ _ _ (j3 _ _ _ _ _ _ _ _ (i4 _ _ _ _ r T (fun x8 => vc_MD_sortedBlock_335 _ _ _ _ _ _ _ ?_))))⟩
    · rw [l1.2 415 k (show ¬ ((415 : Nat) = 413 ∨ (415 : Nat) = 414) by decide)]; exact i3 (Fw_z f2 y) k hk
    · rw [l1.2 409 k (show ¬ ((409 : Nat) = 413 ∨ (409 : Nat) = 414) by decide), i1.2 409 k (show ¬ ((409 : Nat) = 410 ∨ (409 : Nat) = 415) by decide), s1.2 409 k (show ¬ (409 : Nat) = 410 by decide)]
      exact k5 c9 k hk
    · rw [← m2]
      exact l4 r T y
  have o11 : st11.2.2.2 = st.2.2.2 := by rw [f4, d4, a4]
  have fw11 := Fw_t a2 (Fw_t d2 f2)
  by_cases c11 : st11.1 = 0
  case neg =>
    refine ⟨z, z, st11, h11, ⟨f1, fw11, f3⟩, ⟨b1, b2⟩, fun y => absurd y c11, fun S A o hS hC hA => ?_, fun S B hS hC hQ hB => ?_⟩
    · obtain ⟨S1, A1, k1, k2, k3, k4⟩ := ccl S A o hS hC hA
      obtain ⟨S2, A2, n1, n2, n3⟩ := bk_130t (q := q) (z := z) (og := OG) (cn := CN) c11 f1 hC.2.2.1 k2
      exact ⟨S2, A2, EX.trans k1 n1, n2, k4 _ _ n3⟩
    · obtain ⟨S1, B0, B1, x1, x4, k1, k2, k3, k4, k5, k6⟩ := mcl S B hS hC hB
      obtain ⟨S2, B2, n1, n2, n3⟩ := bk_508t (q := q) (x1 := x1) (x2 := OG) (x4 := x4) (x6 := CN) (x7 := NC) (x8 := ((m + 2 : Nat) : Int)) b5 c11 f1 k4
      exact ⟨S2, B2, EX.trans k3 n1, n2, mtold S2 B B0 B2 st11 h11 c11 f1 k1 n2 (k6 none B2 n3)⟩
  -- the row
  obtain ⟨p11, hls⟩ := f5 c11
  obtain ⟨p10, hch⟩ := d5 (Fw_z f2 c11)
  obtain ⟨n, f, st12, h12, ⟨i1, i2, i3, i4⟩, i5, i6, i7⟩ := jrow (q := q) (nc := NC) (m := m) (cnt := CN) (ch := ch) (ls := ls) he ht ⟨hm1, b5⟩ (by omega) (by omega) hch hls 50000 0 0 (fun _ => 0) g 0 1 st11 h11 (by
    have q1 := f1.2.1
    have q2 := f3.1
    unfold rdP
    omega) (by omega) (by omega) (fun k hk => absurd hk (by omega)) hg (by omega) f1 f3 c11
  have o12 : st12.2.2.2 = st.2.2.2 := i4.trans o11
  have t13 := rd_gt (c := (OG : Int) < n) (k := 83) (by decide) i1
  obtain ⟨st13, e13⟩ : ∃ x : Rd, x = if (OG : Int) < n then st12 else rdTell 83 st12 := ⟨_, rfl⟩
  rw [← e13] at t13
  have h13 := hR_n i3 t13.2
  have q13 : st13.2.2 = st12.2.2 := by rw [e13]; exact rd_gt2
  have wOG : Unit → w32 ((OG : Nat) : Int) = OG := fun _ => w32_of (by omega)
  have wOG' : Unit → w64 ((OG : Nat) : Int) = OG := fun _ => w64_of (by omega)
  -- as far as 149
  have ccr : ∀ (S A : ms) (o : Nat), S.1 9 7 = 1 → RdC S o en t → CB S A o en t st h → ∃ S1 A1, EX xSC S S1 ∧ CB S1 A1 o en t st13 h12 ∧ (st13.1 = 0 → RowC S1 n f) ∧ ∀ (r : Option Value) (T : ms), (∀ x5 : Int, EV q 162 149 [some (.ref 94), some (.ref 9), some (vI z), some (vI OG), some (vI CN), some (vI x5)] [] A1 r T) → EV q 162 0 [some (.ref 94), some (.ref 9), none, none, none, none] [] A r T := by
    intro S A o hS hC hA
    have ho := hC.2.2.1
    obtain ⟨S1, A1, k1, k2, k3, k4⟩ := ccl S A o hS hC hA
    obtain ⟨l1, l2⟩ := k3 c11
    have ex1 : EX xRC S1 (wI S1 94 1 0) := EX.wr (EX.refl _ S1) (show xRC 94 1 from Or.inr (Or.inr ⟨rfl, rfl⟩))
    have k5 := CB_I (1 : Int) 0 (show 94 ≠ 9 by decide) (show 94 ≠ o by omega) (show 94 ≠ o + 1 by omega) ho k2
    obtain ⟨S2, A2, j1, j2, j3, j4⟩ := i6 (wI S1 94 1 0) (wI A1 94 1 0) o (HrC_ex (by omega) l1 ex1) (fun k hk => by rw [wI_no _ (by omega)]; exact l2 k hk) ⟨wI_at _ _ _ _, fun k hk => absurd hk (by omega)⟩ k5
    have kE := EX.trans k1 (EX.trans (xRC_S ex1) (xRC_S j1))
    have k167 : EV q 167 0 [some (.ref 94), some (.ref 9), none, none, none, none] [] A1 none A2 := vc_Sorted_openRow (fun S3 e3 => by rw [e3]; exact j4)
    obtain ⟨A3, k6, k7⟩ := gC (q := q) (c := w32 ((OG : Nat) : Int) < w32 (A2.1 94 1)) (k := 83) i1 ho j2
    have e4 : (if w32 ((OG : Nat) : Int) < w32 (A2.1 94 1) then st12 else rdTell 83 st12) = st13 := by
      by_cases c : st12.1 = 0
      · have hn := (i5 c).1
        have e1 : A2.1 94 1 = n := by rw [j2.2.2.2 94 1 (by omega) (by omega) (by omega)]; exact (j3 c).1
        have wn : Unit → w32 ((n : Nat) : Int) = n := fun _ => w32_of (by omega)
        rw [e1, wOG (), wn (), e13]
      · rw [e13, rdTell_r c]
        split <;> split <;> rfl
    rw [e4] at k6
    refine ⟨S2, A3, kE, k6, fun y => j3 (Fw_z t13.2 y), fun r T y => k4 r T (fun x5 => vc_Sorted_openBlock_130 _ _ _ _ ⟨A2, k167, ?_⟩)⟩
    rcases k7 with ⟨u1, u2⟩ | ⟨u1, u2⟩
    · rw [u2] at y; exact cY u1 (y _)
    · exact cNo u1 ⟨A3, u2, y _⟩
  have mcr : ∀ S B : ms, S.1 367 18 = 1 → RdM S en t → MB S B en st h → ∃ (S1 B0 B1 : ms) (x1 x4 : Int), EV q 339 0 [some (.ref 367), some (vI 32), none, none, none, none, none] [] B (some (vL z)) B0 ∧ B0.1 367 22 = st.2.2.2.1 ∧ EX xSM S S1 ∧ MB S1 B1 en st13 h12 ∧ (st13.1 = 0 → RowM S1 n f) ∧ ∀ (r : Option Value) (T : ms), (∀ x9 : Int, EV q 363 541 [some (.ref 367), some (vI x1), some (vL OG), none, some (vI x4), some (vI m), some (vI CN), some (vI NC), some (vI ((m + 2 : Nat) : Int)), some (vI x9), none, none] [] B1 r T) → EV q 363 0 [some (.ref 367), none, none, none, none, none, none, none, none, none, none, none] [] B0 r T := by
    intro S B hS hC hB
    obtain ⟨S1, B0, B1, x1, x4, k1, k2, k3, k4, k5, k6⟩ := mcl S B hS hC hB
    obtain ⟨l1, l2⟩ := k5 c11
    obtain ⟨S2, B2, j1, j2, j3, j4, j5⟩ := md_rs0 (q := q) (m := m) (x2 := ((m + 2 : Nat) : Int)) (x3 := NC) b5 k4
    obtain ⟨S3, B3, n1, n2, n3, n4⟩ := i7 S2 B2 (HrM_ex l1 j1) (fun k hk => by rw [j3 k hk, l2 k hk]; exact b8_of (b8_rg _)) ⟨j4, fun k hk => absurd hk (by omega)⟩ j2
    obtain ⟨B4, k7, k8⟩ := gMg (q := q) (c := (OG : Int) < n) (k := 83) i1 he.2 i3 n2
    rw [← e13] at k7
    refine ⟨S3, B0, B4, x1, x4, k1, k2, EX.trans k3 (EX.trans (xRM_S j1) (xRM_S n1)), k7, fun y => n3 (Fw_z t13.2 y), fun r T y => k6 r T (fun x9 => vc_MD_sortedBlock_508 _ _ _ _ _ _ _ _ ⟨B3, j5 none B3 n4, ?_⟩)⟩
    rcases k8 with ⟨u0, u1, u2⟩ | ⟨u0, u1, u2, u3⟩ | ⟨u0, u1, u2, u3⟩
    · rw [u2] at y
      exact ⟨0, B3, u1, cY (by decide) (y _)⟩
    · have hn := (i5 u0).1
      have e1 : B3.1 367 66 = n := by rw [n2.2.2.2 367 66 (by omega) (by omega)]; exact (n3 u0).1
      have wn : Unit → w32 ((n : Nat) : Int) = n := fun _ => w32_of (by omega)
      have wn' : Unit → w64 ((n : Nat) : Int) = n := fun _ => w64_of (by omega)
      rw [u3] at y
      refine ⟨1, B3, u1, cNo (by decide) ?_⟩
      rw [e1, wn (), wn' (), wOG' ()]
      exact cY u2 (y _)
    · have hn := (i5 u0).1
      have e1 : B3.1 367 66 = n := by rw [n2.2.2.2 367 66 (by omega) (by omega)]; exact (n3 u0).1
      have wn : Unit → w32 ((n : Nat) : Int) = n := fun _ => w32_of (by omega)
      have wn' : Unit → w64 ((n : Nat) : Int) = n := fun _ => w64_of (by omega)
      refine ⟨1, B3, u1, cNo (by decide) ?_⟩
      rw [e1, wn (), wn' (), wOG' ()]
      exact cNo u2 ⟨B4, u3, y _⟩
  have fw13 := Fw_t fw11 (Fw_t i2 t13.2)
  by_cases c13 : st13.1 = 0
  case neg =>
    refine ⟨z, z, st13, h12, ⟨t13.1, fw13, h13⟩, ⟨b1, b2⟩, fun y => absurd y c13, fun S A o hS hC hA => ?_, fun S B hS hC hQ hB => ?_⟩
    · obtain ⟨S1, A1, k1, k2, k3, k4⟩ := ccr S A o hS hC hA
      have wr : w32 st13.1 = st13.1 := w32_of (by have := t13.1.1; omega)
      refine ⟨S1, A1, k1, k2, k4 _ _ (fun x5 => vc_Sorted_openBlock_149 _ _ _ _ ?_)⟩
      rw [k2.2.1.2.1, wr]
      exact cY c13 ⟨rfl, rfl⟩
    · obtain ⟨S1, B0, B1, x1, x4, k1, k2, k3, k4, k5, k6⟩ := mcr S B hS hC hB
      have kf := md_fine (q := q) t13.1 k4
      rw [if_neg c13] at kf
      exact ⟨S1, B1, k3, k4, mtold S1 B B0 B1 st13 h12 c13 t13.1 k1 k4 (k6 none B1 (fun x9 => vc_MD_sortedBlock_541 _ _ _ _ _ _ _ _ ⟨0, B1, kf, cY (by decide) ⟨rfl, rfl⟩⟩))⟩
  -- the text
  have c12 := Fw_z t13.2 c13
  obtain ⟨hn, hf, p12⟩ := i5 c12
  have hog : OG < n := by
    have y := c13
    rw [e13] at y
    have := rd_gt0 (by decide) y
    omega
  have cam : st13.2.2.2.1 = st.2.2.2.1 := by rw [q13, o12]
  obtain ⟨st5, ⟨g1, g2, g3, g4, g5⟩, g6, g7⟩ := jtxE (q := q) (t := t) (f := f) (z := z) (h := h12) he hn hf hog t13.1 h13
  rw [cam] at g6 g4
  have t6 := rd_gt (c := tnC z st.2.2.2.1 st5) (k := 90) (by decide) g1
  obtain ⟨st6, e6⟩ : ∃ x : Rd, x = if tnC z st.2.2.2.1 st5 then st5 else rdTell 90 st5 := ⟨_, rfl⟩
  rw [← e6] at t6
  have p5 : rdP st6 h12 = rdP st12 h12 := by
    unfold rdP
    rw [show st6.2.2 = st5.2.2 by rw [e6]; exact rd_gt2, g5, q13]
  refine ⟨z, z, st6, h12, ⟨t6.1, Fw_t fw13 (Fw_t g2 t6.2), hR_n g3 t6.2⟩, ⟨b1, b2⟩, fun y => ⟨rfl, by omega⟩, fun S A o hS hC hA => ?_, fun S B hS hC hQ hB => ?_⟩
  · obtain ⟨S1, A1, k1, k2, k3, k4⟩ := ccr S A o hS hC hA
    obtain ⟨S2, A2, k5, k6, k7⟩ := g6 S1 A1 o (xSC_rd k1 hC) (k3 c13) k2
    rw [← e6] at k7
    have h5 : A1.1 9 5 = 0 := by rw [k2.2.1.2.1]; exact c13
    refine ⟨S2, A2, EX.trans k1 k5, k7, k4 _ _ (fun x5 => vc_Sorted_openBlock_149 _ _ _ _ ?_)⟩
    rw [h5]
    exact cNN (by decide) ⟨A2, k6, rfl, rfl⟩
  · obtain ⟨S1, B0, B1, x1, x4, k1, k2, k3, k4, k5, k6⟩ := mcr S B hS hC hB
    obtain ⟨S2, B2, k7, k8, k9⟩ := g7 S1 B1 (k5 c13) k4
    have kf := md_fine (q := q) t13.1 k4
    rw [if_pos c13] at kf
    have k363 := k6 none B2 (fun x9 => vc_MD_sortedBlock_541 _ _ _ _ _ _ _ _ ⟨1, B1, kf, cNo (by decide) ⟨B2, k8, rfl, rfl⟩⟩)
    obtain ⟨B3, k10, k11⟩ := gMg (q := q) (c := tnC z st.2.2.2.1 st5) (k := 90) g1 he.2 g3 k9
    rw [← e6] at k10
    have kE := EX.trans k3 k7
    have n0 := hr.2.2.1
    have n5 := g1.2.2.1
    obtain ⟨N, eN⟩ : ∃ N : Nat, (st5.2.2.2.1 - st.2.2.2.1).toNat = N := ⟨_, rfl⟩
    have eN' : st5.2.2.2.1 - st.2.2.2.1 = N := by omega
    have kc := sp_mtn (q := q) (S := B2) (c := 375) (n := N) (fr := st.2.2.2.1) (g := fun k => st5.2.2.2.2 (st.2.2.2.1 + k)) sh_375 (by decide) (by omega) (by omega) (fun k hk => ⟨g1.2.2.2.1 _ (by omega) (by omega), by
      have := g1.2.2.2.1 (st.2.2.2.1 + k) (by omega) (by omega)
      rw [k9.2.2.1.2 _ (by omega) (by omega)]
      unfold b8
      omega⟩) (fun j hj => by
      rw [k9.2.2.2 373 _ (by omega) (by omega), kE.2 373 _ (by unfold xSM; omega)]
      exact hQ j hj)
    refine ⟨S2, B3, kE, k10, fun y1 y2 y3 y4 r T y => ⟨z, B0, k1, B2, k363, ?_⟩⟩
    rw [k2]
    rcases k11 with ⟨u0, u1, u2⟩ | ⟨u0, u1, u2, u3⟩ | ⟨u0, u1, u2, u3⟩
    · rw [u2] at y
      exact ⟨0, B2, u1, cY (by decide) (y _)⟩
    · rw [u3] at y
      unfold tnC at u2
      rw [eN] at u2
      exact ⟨1, B2, u1, cNo (by decide) ⟨_, B2, by rw [k9.2.2.1.1, eN']; exact kc, cY u2.symm (y _)⟩⟩
    · unfold tnC at u2
      rw [eN] at u2
      exact ⟨1, B2, u1, cNo (by decide) ⟨_, B2, by rw [k9.2.2.1.1, eN']; exact kc, cNo (fun v => u2 v.symm) ⟨B3, u3, y _⟩⟩⟩
end SrtJ
