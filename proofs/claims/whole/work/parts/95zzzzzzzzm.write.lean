/-! write: the card of a TAPE whole, the reference -/
section WrE
variable {q : Nat × (Nat → Int32)} {g : Nat → Int} {nn e : Nat} {md sz tm : Int} {w : Wt}
theorem mk7 : sS 7 ((0 : Nat) : Int) = 117 ∧ sS 7 ((1 : Nat) : Int) = 115 ∧ sS 7 ((2 : Nat) : Int) = 116 ∧ sS 7 ((3 : Nat) : Int) = 97 ∧ sS 7 ((4 : Nat) : Int) = 114 ∧ sS 7 ((5 : Nat) : Int) = 0 ∧ sS 7 ((6 : Nat) : Int) = 48 ∧ sS 7 ((7 : Nat) : Int) = 48 := by decide +kernel
theorem md_cdA {B : ms} (he : e < 16) (hn : nn ≤ 100) (hg : ∀ k : Nat, k < nn → 0 ≤ g k ∧ g k < 256) (hr : (0 ≤ md ∧ md < 2147483648) ∧ (0 ≤ sz ∧ sz < 2147483648) ∧ 0 ≤ tm ∧ tm < 2147483648) (hw : 0 ≤ w.1 ∧ w.1 ≤ 12000) (h4 : B.1 420 e = nn) (h9 : ∀ k : Nat, k < nn → B.1 419 (100 * (e : Int) + k) = b8 (g k)) (h21 : B.1 421 e = md) (h22 : B.1 422 e = tm) (h24 : B.1 424 e = sz) (h : MWt B w) {F : Nat → Int} (eF : F = tpM g nn md sz tm) : ∃ B8, EX XW B B8 ∧ MWt B8 (wtPuts F 124 w) ∧ ∀ (R : Option Value) (S' : ms), EV q 383 21 [some (.ref 367), some (vI e), some (vI w.1), some (vI (0 + 1 + 1 + 1)), none] [] B8 R S' → EV q 383 0 [some (.ref 367), some (vI e), none, none, none] [] B R S' := by
  have ee : Unit → w32 (e : Int) = e := fun _ => w32_of (by omega)
  have wmd : Unit → w32 md = md := fun _ => w32_of (by omega)
  have hw2 : 0 ≤ w.1 ∧ w.1 ≤ 20000 := by omega
  obtain ⟨B1, a1, a2, -, a3⟩ := md_nmO (q := q) (w := w) (g := g) (e := e) (n := nn) (by omega) he hn nn 0 B (by omega) h4 h9 h
  rw [wtPuts_cg (g := F) nn (fun k hk => by rw [eF, tpM_n (by omega), tpA_0 hn hk])] at a2
  obtain ⟨B2, b1, b2, b3⟩ := md_segF (q := q) (v := 0) (m := 100 - nn) hw2 (by omega) (fun k hk => by rw [eF, tpM_n (by omega), tpA_z hn (by omega)]) a2
  rw [show nn + (100 - nn) = 100 by omega] at b2 b3
  have x2 : EX XW B B2 := a1.trans b1
  obtain ⟨B3, c1, c2, c3⟩ := md_segG (q := q) (v := md) (n := 7) (i := 100) hw2 (by decide) (by omega) (by decide) (fun k hk => by rw [eF, tpM_n (by omega), tpA_1 hk]) b2
  obtain ⟨B4, d1, d2, d3⟩ := md_segP (q := q) (v := 0) (i := 107) hw2 (by decide) (by rw [eF, tpM_n (by omega), tpA_z hn (by omega)]) c2
  obtain ⟨B5, f1, f2, f3⟩ := md_segG (q := q) (v := 0) (n := 7) (i := 108) hw2 (by decide) (by decide) (by decide) (fun k hk => by rw [eF, tpM_n (by omega), tpA_2 hk]) d2
  obtain ⟨B6, i1, i2, i3⟩ := md_segP (q := q) (v := 0) (i := 115) hw2 (by decide) (by rw [eF, tpM_n (by omega), tpA_z hn (by omega)]) f2
  obtain ⟨B7, j1, j2, j3⟩ := md_segG (q := q) (v := 0) (n := 7) (i := 116) hw2 (by decide) (by decide) (by decide) (fun k hk => by rw [eF, tpM_n (by omega), tpA_3 hk]) i2
  obtain ⟨B8, l1, l2, l3⟩ := md_segP (q := q) (v := 0) (i := 123) hw2 (by decide) (by rw [eF, tpM_n (by omega), tpA_z hn (by omega)]) j2
  have x8 : EX XW B B8 := ((((((x2.trans c1).trans d1).trans f1).trans i1).trans j1).trans l1)
  refine ⟨B8, x8, l2, fun R S' kk => vc_MD_tapeRow _ ?_⟩
  rw [h.1]
  refine ⟨B1, vc_MD_nameOf _ a3, B2, b3 _ (by omega), ?_⟩
  have b16 : 0 ≤ w32 (e : Int) ∧ w32 (e : Int) < ((16 : Nat) : Int) := by rw [ee ()]; omega
  have z0 : ¬ (3 : Int) ≤ w32 0 := by decide
  have z1 : w32 0 = 0 := by decide
  have e21 : w32 (B2.1 421 (w32 (e : Int))) = md := by rw [ee (), x2.2 421 _ (by unfold XW; omega), h21, wmd ()]
  have k42 : EV q 383 42 [some (.ref 367), some (vI e), some (vI w.1), some (vI 0), none] [vL md, .ref 367] B2 R S' → EV q 383 21 [some (.ref 367), some (vI e), some (vI w.1), some (vI 0), none] [] B2 R S' := fun kq => by
    refine vc_MD_tapeRow_21 e w.1 0 ⟨fun y => absurd y z0, fun _ => ⟨fun y => absurd z1 y, fun _ => ⟨b16, ?_⟩⟩⟩
    rw [e21]
    exact kq
  refine k42 (vc_MD_tapeRow_42 _ _ _ _ ⟨B3, c3, B4, d3, ?_⟩)
  refine vc_MD_tapeRow_21 _ _ _ (cNo (by decide) (cY (by decide) (vc_MD_tapeRow_42 _ _ _ _ ⟨B5, f3, B6, i3, ?_⟩)))
  exact vc_MD_tapeRow_21 _ _ _ (cNo (by decide) (cY (by decide) (vc_MD_tapeRow_42 _ _ _ _ ⟨B7, j3, B8, l3, kk⟩)))
theorem md_cdB {B8 : ms} {F : Nat → Int} (eF : F = tpM g nn md sz tm) (he : e < 16) (hn : nn ≤ 100) (hr : (0 ≤ md ∧ md < 2147483648) ∧ (0 ≤ sz ∧ sz < 2147483648) ∧ 0 ≤ tm ∧ tm < 2147483648) (hw2 : 0 ≤ w.1 ∧ w.1 ≤ 20000) (h22 : B8.1 422 e = tm) (h24 : B8.1 424 e = sz) (l2 : MWt B8 (wtPuts F 124 w)) : ∃ D, EX XW B8 D ∧ MWt D (wtPuts F 512 w) ∧ ∀ (R : Option Value) (S' : ms), EV q 383 189 [some (.ref 367), some (vI e), some (vI w.1), some (vI 0), some (vI 0)] [] D R S' → EV q 383 21 [some (.ref 367), some (vI e), some (vI w.1), some (vI (0 + 1 + 1 + 1)), none] [] B8 R S' := by
  have ee : Unit → w32 (e : Int) = e := fun _ => w32_of (by omega)
  have wsz : Unit → w32 sz = sz := fun _ => w32_of (by omega)
  have wtm : Unit → w32 tm = tm := fun _ => w32_of (by omega)
  obtain ⟨B9, m1, m2, m3⟩ := md_segG (q := q) (v := sz) (n := 11) (i := 124) hw2 (by decide) (by omega) (by decide) (fun k hk => by rw [eF, tpM_n (by omega), tpA_4 hk]) l2
  obtain ⟨B10, n1, n2, n3⟩ := md_segP (q := q) (v := 0) (i := 135) hw2 (by decide) (by rw [eF, tpM_n (by omega), tpA_z hn (by omega)]) m2
  have x10 : EX XW B8 B10 := m1.trans n1
  obtain ⟨B11, o1, o2, o3⟩ := md_segG (q := q) (v := tm) (n := 11) (i := 136) hw2 (by decide) (by omega) (by decide) (fun k hk => by rw [eF, tpM_n (by omega), tpA_5 hk]) n2
  obtain ⟨B12, p1, p2, p3⟩ := md_segP (q := q) (v := 0) (i := 147) hw2 (by decide) (by rw [eF, tpM_n (by omega), tpA_z hn (by omega)]) o2
  obtain ⟨B13, r1, r2, r3⟩ := md_segF (q := q) (v := 32) (i := 148) (m := 8) hw2 (by decide) (fun k hk => by
    rw [eF]
    unfold tpM
    rw [if_pos (by omega)]) p2
  obtain ⟨B14, s1, s2, s3⟩ := md_segP (q := q) (v := 48) (i := 156) hw2 (by decide) (by rw [eF, tpM_n (by omega), tpA_6]) r2
  obtain ⟨B15, t1, t2, t3⟩ := md_segF (q := q) (v := 0) (i := 157) (m := 100) hw2 (by decide) (fun k hk => by rw [eF, tpM_n (by omega), tpA_z hn (by omega)]) s2
  have sF : ∀ k : Nat, k < 8 → F (257 + k) = sS 7 k := fun k hk => by rw [eF, tpM_n (by omega), tpA_7 hk]
  obtain ⟨C0, u01, u02, u03⟩ := md_segP (q := q) (v := 117) (i := 257) hw2 (by decide) (by rw [sF 0 (by decide), mk7.1]) t2
  obtain ⟨C1, u11, u12, u13⟩ := md_segP (q := q) (v := 115) (i := 258) hw2 (by decide) (by rw [sF 1 (by decide), mk7.2.1]) u02
  obtain ⟨C2, u21, u22, u23⟩ := md_segP (q := q) (v := 116) (i := 259) hw2 (by decide) (by rw [sF 2 (by decide), mk7.2.2.1]) u12
  obtain ⟨C3, u31, u32, u33⟩ := md_segP (q := q) (v := 97) (i := 260) hw2 (by decide) (by rw [sF 3 (by decide), mk7.2.2.2.1]) u22
  obtain ⟨C4, u41, u42, u43⟩ := md_segP (q := q) (v := 114) (i := 261) hw2 (by decide) (by rw [sF 4 (by decide), mk7.2.2.2.2.1]) u32
  obtain ⟨C5, u51, u52, u53⟩ := md_segP (q := q) (v := 0) (i := 262) hw2 (by decide) (by rw [sF 5 (by decide), mk7.2.2.2.2.2.1]) u42
  obtain ⟨C6, u61, u62, u63⟩ := md_segP (q := q) (v := 48) (i := 263) hw2 (by decide) (by rw [sF 6 (by decide), mk7.2.2.2.2.2.2.1]) u52
  obtain ⟨C7, u71, u72, u73⟩ := md_segP (q := q) (v := 48) (i := 264) hw2 (by decide) (by rw [sF 7 (by decide), mk7.2.2.2.2.2.2.2]) u62
  obtain ⟨D, v1, v2, v3⟩ := md_segF (q := q) (v := 0) (i := 265) (m := 247) hw2 (by decide) (fun k hk => by rw [eF, tpM_n (by omega), tpA_z hn (by omega)]) u72
  have xD : EX XW B8 D := (((((((((((((x10.trans o1).trans p1).trans r1).trans s1).trans t1).trans u01).trans u11).trans u21).trans u31).trans u41).trans u51).trans u61).trans u71).trans v1
  refine ⟨D, xD, v2, fun R S' kk => vc_MD_tapeRow_21 _ _ _ (cY (by decide) ⟨by rw [ee ()]; omega, B9, ?_, B10, n3, by rw [ee ()]; omega, B11, ?_, B12, p3, B13, r3 _ (by omega), B14, s3, B15, t3 _ (by omega), C0, u03, C1, u13, C2, u23, C3, u33, C4, u43, C5, u53, C6, u63, C7, u73, D, v3 _ (by omega), kk⟩)⟩
  · rw [ee (), h24, wsz ()]
    exact m3
  · rw [ee (), x10.2 422 _ (by unfold XW; omega), h22, wtm ()]
    exact o3
theorem md_card {B : ms} (he : e < 16) (hn : nn ≤ 100) (hg : ∀ k : Nat, k < nn → 0 ≤ g k ∧ g k < 256) (hr : (0 ≤ md ∧ md < 2147483648) ∧ (0 ≤ sz ∧ sz < 2147483648) ∧ 0 ≤ tm ∧ tm < 2147483648) (hw : 0 ≤ w.1 ∧ w.1 ≤ 12000) (h4 : B.1 420 e = nn) (h9 : ∀ k : Nat, k < nn → B.1 419 (100 * (e : Int) + k) = b8 (g k)) (h21 : B.1 421 e = md) (h22 : B.1 422 e = tm) (h24 : B.1 424 e = sz) (h : MWt B w) : ∃ B', EX XW B B' ∧ MWt B' (wtPuts (fun k => tpB g nn md sz tm k) 512 w) ∧ EV q 383 0 [some (.ref 367), some (vI e), none, none, none] [] B none B' := by
  have hw2 : 0 ≤ w.1 ∧ w.1 ≤ 20000 := by omega
  obtain ⟨F, eF⟩ : ∃ F : Nat → Int, F = tpM g nn md sz tm := ⟨_, rfl⟩
  obtain ⟨B8, x8, l2, kA⟩ := md_cdA (q := q) he hn hg hr hw h4 h9 h21 h22 h24 h eF
  obtain ⟨D, xD8, v2', kB⟩ := md_cdB (q := q) (e := e) eF he hn hr hw2 (by rw [x8.2 422 _ (by unfold XW; omega)]; exact h22) (by rw [x8.2 424 _ (by unfold XW; omega)]; exact h24) l2
  have xD := x8.trans xD8
  -- the sum
  have Fr : ∀ k : Nat, 0 ≤ F k ∧ F k < 256 := fun k => by
    rw [eF]
    unfold tpM
    split
    · decide
    · exact tpA_r hg k
  have hD : ∀ k : Int, 0 ≤ k → k < w.1 + 512 → D.1 374 k = b8 (if w.1 ≤ k then F (k - w.1).toNat % 256 else w.2 k) := fun k k0 k1 => by
    rw [v2'.2 k k0 (by rw [wtPuts_1]; omega) (by omega), wtPuts_2]
    by_cases c : w.1 ≤ k
    · rw [if_pos ⟨c, by omega⟩, if_pos c]
    · rw [if_neg (fun y => c y.1), if_neg c]
  have d9 : D.1 367 9 = w.1 + 512 := by
    have := v2'.1
    rw [wtPuts_1] at this
    omega
  obtain ⟨sm, esm, smr⟩ : ∃ sm : Int, (Unit → sm = tsF (tpA g nn md sz tm) 512) ∧ 0 ≤ sm ∧ sm ≤ 131072 := by
    have this := tsF_r (c := tpA g nn md sz tm) (fun k _ _ => tpA_r hg k) 512 (Nat.le_refl _)
    exact ⟨_, fun _ => rfl, this.1, Int.le_trans this.2 (by decide)⟩
  obtain ⟨D1, eD1⟩ : ∃ D1, D1 = wI D 367 9 (w.1 + 148) := ⟨_, rfl⟩
  have m1' : MWt D1 (wtPuts F 148 w) := by
    refine ⟨by rw [eD1, wI_at]; exact (wtPuts_1 F w 148).symm, fun k k0 k1 k2 => ?_⟩
    rw [wtPuts_1] at k1
    rw [eD1, wI_no _ (by omega), hD k k0 (by omega), wtPuts_2]
    by_cases c : w.1 ≤ k
    · rw [if_pos c, if_pos ⟨c, by omega⟩]
    · rw [if_neg c, if_neg (fun y => c y.1)]
  obtain ⟨D2, y1, y2, y4, y3⟩ := md_fig (q := q) (v := sm) (n := 6) (w := wtPuts F 148 w) (by omega) (by decide) (by rw [wtPuts_1]; omega) m1'
  obtain ⟨D3, z1, z2, z3, z4⟩ := mw_putF (q := q) 0 (by rw [wtPuts_1, wtPuts_1]; omega) y2
  obtain ⟨D4, eD4⟩ : ∃ D4, D4 = wI D3 367 9 (w.1 + 512) := ⟨_, rfl⟩
  have xx : EX XW B D4 := by
    rw [eD4]
    refine EX.wr (EX.trans (EX.trans ?_ y1) z2) (Or.inl ⟨rfl, rfl⟩)
    rw [eD1]
    exact xD.wr (Or.inl ⟨rfl, rfl⟩)
  refine ⟨D4, xx, ⟨by rw [eD4, wI_at]; exact (wtPuts_1 _ w 512).symm, fun k k0 k1 k2 => ?_⟩, ?_⟩
  · rw [wtPuts_1] at k1
    rw [eD4, wI_no _ (by omega), wtPuts_2]
    by_cases c0 : k < w.1
    · rw [if_neg (by omega), z3.2 k k0 (by rw [wtPut_1, wtPuts_1, wtPuts_1]; omega) k2]
      show b8 (if k = (wtPuts (egF sm 6) 6 (wtPuts F 148 w)).1 then 0 % 256 else (wtPuts (egF sm 6) 6 (wtPuts F 148 w)).2 k) = _
      rw [if_neg (by rw [wtPuts_1, wtPuts_1]; omega), wtPuts_2, if_neg (by rw [wtPuts_1]; omega), wtPuts_2, if_neg (by omega)]
    · rw [if_pos (by omega)]
      obtain ⟨j, ej⟩ : ∃ j : Nat, k = w.1 + j := ⟨(k - w.1).toNat, by omega⟩
      have jk : (k - w.1).toNat = j := by omega
      rw [jk]
      by_cases c1 : j < 155
      · rw [z3.2 k k0 (by rw [wtPut_1, wtPuts_1, wtPuts_1]; omega) k2]
        show b8 (if k = (wtPuts (egF sm 6) 6 (wtPuts F 148 w)).1 then 0 % 256 else (wtPuts (egF sm 6) 6 (wtPuts F 148 w)).2 k) = _
        by_cases c2 : j = 154
        · rw [if_pos (by rw [wtPuts_1, wtPuts_1]; omega), c2]
          unfold tpB
          rw [cW_n (by omega), cW_n (by omega), tpA_z hn (by omega)]
        · rw [if_neg (by rw [wtPuts_1, wtPuts_1]; omega), wtPuts_2, wtPuts_1]
          unfold tpB
          rw [cW_n (by omega)]
          by_cases c3 : 148 ≤ j
          · rw [if_pos (by omega), cW_y (by omega), ← esm (), show (k - (w.1 + ((148 : Nat) : Int))).toNat = j - 148 by omega, show ((j : Int) - ((148 : Nat) : Int)).toNat = j - 148 by omega]
          · rw [if_neg (by omega), cW_n (by omega), wtPuts_2, if_pos (by omega), jk, eF, tpM_n (by omega)]
      · rw [z4 k (by rw [wtPuts_1, wtPuts_1]; omega), y4 k (by rw [wtPuts_1]; omega), eD1, wI_no _ (by omega), hD k k0 (by omega), if_pos (by omega), jk]
        by_cases c2 : j = 155
        · rw [c2, eF]
          unfold tpB tpM
          rw [if_pos (by omega), cW_y (by omega)]
        · unfold tpB
          rw [cW_n (by omega), cW_n (by omega), eF, tpM_n (by omega)]
  · have hsum : ∀ k : Nat, k < 512 → D.1 374 (w.1 + k) % 256 = if 148 ≤ k ∧ k < 156 then 32 else tpA g nn md sz tm k := fun k hk => by
      rw [hD _ (by omega) (by omega), if_pos (by omega), b8_mod, show (w.1 + (k : Int) - w.1).toNat = k by omega, Int.emod_emod_of_dvd _ (Int.dvd_refl 256)]
      have f := Fr k
      rw [show F k % 256 = F k by omega, eF]
      rfl
    have k189 : EV q 383 189 [some (.ref 367), some (vI e), some (vI w.1), some (vI (tsF (tpA g nn md sz tm) 0)), some (vI ((0 : Nat) : Int))] [] D none D4 := by
      refine md_tsm (q := q) (x1 := e) (x2 := w.1) (c := tpA g nn md sz tm) hw2 hsum 512 0 (by decide) (vc_MD_tapeRow_189 _ _ _ _ (cY (by decide) (fun S1 q1 => ?_)))
      rw [← eD1] at q1
      rw [← esm (), w32_of (x := sm) (by omega), q1]
      exact ⟨D2, y3, D3, z1, fun S6 q6 => ⟨rfl, by rw [q6, d9]; exact eD4⟩⟩
    exact kA _ _ (kB _ _ k189)
end WrE
