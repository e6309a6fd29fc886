/-! pack: SORTED; symbolsOut against writeSymbols -/
section PSyz
variable {q : Nat × (Nat → Int32)} {sy : Rst} {m : Nat}
def XYa (o a : Nat) (k : Int) : Prop := XRb o a k ∨ a = 104 ∨ (107 ≤ a ∧ a ≤ 117)
def XYb (a : Nat) (k : Int) : Prop := XWb a k ∨ a = 377 ∨ (412 ≤ a ∧ a ≤ 414)
theorem sh_c0 : sh_r (SH 105).2.2 (w32 0).toNat = some 107 := by
  rw [show w32 0 = 0 by decide]
  rfl
theorem jsyo {s : Wb} (hm : 1 ≤ m ∧ m ≤ 256) (hS : 1 ≤ sy.1 ∧ sy.1 ≤ 2501) (hv : sOk ((m : Int) + 2) sy) (hr : wbR 1 s) (hs : s.1.1 < 400000) : ∃ s' : Wb, (wbR 1 s' ∧ s.1.1 ≤ s'.1.1 ∧ s'.1.1 ≤ s.1.1 + 90000) ∧ (∀ (A : ms) (o : Nat), isRow o 12000 → 342 < o → A.1 94 9 = m → CSy A sy → CBt A o 12000 s → ∃ A', EX (XYa o) A A' ∧ CBt A' o 12000 s' ∧ EV q 106 0 [some (.ref 94), some (.ref o), none, none, none, none] [] A none A') ∧ ∀ B : ms, MSy B sy → MBt B 1 s → ∃ B', EY XYb B B' ∧ MBt B' 1 s' ∧ EV q 325 0 [some (.ref 367), some (vI ((m : Int) + 2)), none, none, none, none, none] [] B none B' := by
  obtain ⟨M, eM⟩ : ∃ M, M = m + 2 := ⟨_, rfl⟩
  have eM' : (m : Int) + 2 = (M : Int) := by omega
  rw [eM'] at hv ⊢
  have hv2 : sOk 258 sy := fun i hi => by have := hv i hi; omega
  obtain ⟨l, l1, lA, lB⟩ := jbyC (q := q) (n := M) (c := c4F sy) (lim := 17) (cd := 107) (a1 := 104) (na1 := 258) (a1m := 412) (na1m := 258) (a4 := 413) (na4 := 1560) (by omega) (by omega) (by decide) is_107 sh_104 (by omega) sh_412 (by omega) sh_413 (by omega) (fun s hs => by
    have := stC_r sy.2 (s : Int) sy.1
    unfold c4F
    omega)
  have lr : ∀ s : Nat, s < M → 1 ≤ l s ∧ l s ≤ 17 := fun s hs => by
    have y := l1 s hs
    refine ⟨y.2.2.2 ?_, y.2.1⟩
    unfold c4F
    omega
  have lr20 : ∀ s : Nat, s < M → 0 ≤ l s ∧ l s ≤ 20 := fun s hs => by have := lr s hs; omega
  have l0 : 1 ≤ l 0 ∧ l 0 ≤ 17 := lr 0 (by omega)
  obtain ⟨tn, etn⟩ : ∃ tn, tn = (sy.1 + 49) / 50 := ⟨_, rfl⟩
  have tnr : 1 ≤ tn ∧ tn ≤ 51 := by omega
  -- what is written
  obtain ⟨sa, esa⟩ : ∃ sa, sa = wbHigh 3 2 s := ⟨_, rfl⟩
  have ra : wbR 1 sa := by rw [esa]; exact wbHigh_r _ _ _ hr
  have na := wbHigh_n 3 2 s
  rw [← esa] at na
  obtain ⟨sb, esb⟩ : ∃ sb, sb = wbHigh 15 tn sa := ⟨_, rfl⟩
  have rb : wbR 1 sb := by rw [esb]; exact wbHigh_r _ _ _ ra
  have nb := wbHigh_n 15 tn sa
  rw [← esb] at nb
  obtain ⟨sc, esc⟩ : ∃ sc, sc = wbHigh 1 0 sb := ⟨_, rfl⟩
  have rc : wbR 1 sc := by rw [esc]; exact wbHigh_r _ _ _ rb
  have nc := wbHigh_n 1 0 sb
  rw [← esc] at nc
  have ud := upB_r 2 (tn - 1) sc rc
  obtain ⟨sd, esd⟩ : ∃ sd, sd = upB 2 (tn - 1) sc := ⟨_, rfl⟩
  rw [← esd] at ud
  have n5 := wbHigh_n 5 (l 0) sd
  have ue := loB_r lr20 M 0 (l 0) (wbHigh 5 (l 0) sd) (by omega) (by omega) (wbHigh_r _ _ _ ud.1)
  obtain ⟨se, ese⟩ : ∃ se, se = loB l 0 M (l 0) (wbHigh 5 (l 0) sd) := ⟨_, rfl⟩
  rw [← ese] at ue
  have n6 := wbHigh_n 5 (l 0) se
  have uf := loB_r lr20 M 0 (l 0) (wbHigh 5 (l 0) se) (by omega) (by omega) (wbHigh_r _ _ _ ue.1)
  obtain ⟨sf, esf⟩ : ∃ sf, sf = loB l 0 M (l 0) (wbHigh 5 (l 0) se) := ⟨_, rfl⟩
  rw [← esf] at uf
  obtain ⟨⟨v1, v2, v3⟩, vc', vm⟩ := jcs (q := q) (sy := sy) (M := M) (l := l) (by omega) lr hS.2 hv sy.1 0 sf (by omega) uf.1 (by omega)
  refine ⟨csB l M sy.2 0 sy.1 sf, ⟨v1, by omega, by omega⟩, fun A o ho o3 h9 hC h => ?_, fun B hC h => ?_⟩
  · obtain ⟨A0, e0⟩ : ∃ A0, A0 = wC A 104 0 (258 : Nat) (fun _ => 0) := ⟨_, rfl⟩
    have f0 := sp_fillI (q := q) (S := A) sh_104 (by decide) 0
    rw [← e0] at f0
    have at0 : ∀ (a : Nat) (k : Int), a ≠ 104 → A0.1 a k = A.1 a k := fun a k y => by rw [e0, rI_C, if_neg (fun w => y w.1)]
    have x0 : EX (fun a _ => a = 104) A A0 := ⟨by rw [e0]; rfl, at0⟩
    obtain ⟨A1, a1, a2, a3⟩ := cl_ty (q := q) (x2 := M) ho hS.2 hv2 sy.1 0 A0 (by omega) ⟨by rw [at0 _ _ (by decide)]; exact hC.1, fun i hi => by rw [at0 _ _ (by decide)]; exact hC.2 i hi⟩ (fun k k0 k1 => by rw [e0, rI_C, if_pos ⟨rfl, by omega, by omega⟩]; rfl)
    obtain ⟨A2, b1, b2, b3⟩ := cl_t1 (q := q) (sy := sy) (M := M) ho (by omega) hS.2 M 0 A1 (by omega) (fun k hk => by rw [if_neg (by omega)]; exact a2 k (by omega) (by omega))
    have x2 : EX (fun a _ => a = 104) A A2 := (x0.trans a1).trans b1
    obtain ⟨A3, c1, c2, ⟨Az, c3⟩, c4⟩ := lA A2 b2
    have at3 : ∀ (a : Nat) (k : Int), a ≠ 104 → ¬ (107 ≤ a ∧ a ≤ 117) → A3.1 a k = A.1 a k := fun a k y z => by rw [c1.2 a k (by unfold cdX; omega), x2.2 a k y]
    have e11 : A3.1 94 11 = sy.1 := by rw [at3 94 11 (by decide) (by decide)]; exact hC.1
    have h3 : CBt A3 o 12000 s := CBt_cg h (fun a k y => by unfold XRb at y; exact at3 a k (by omega) (by omega))
    have k8 : ∀ k : Nat, k < M → A3.1 108 k = l k ∧ A3.1 109 k = cdOf l M k := fun k hk => ⟨(c2.2.2.1 k hk).2, (c3.2.2.2.2 k hk (by have := lr k hk; omega)).1⟩
    obtain ⟨A4, d1, d2, d3⟩ := cw_high_bits (q := q) (v := 2) (n := 3) (by decide) (by decide) ho (by decide) hr (by omega) h3
    rw [← esa] at d3
    obtain ⟨A5, f1, f2, f3⟩ := cw_high_bits (q := q) (v := tn) (n := 15) (by omega) (by decide) ho (by decide) ra (by omega) d3
    rw [← esb] at f3
    obtain ⟨A6, g1, g2, g3⟩ := cw_high_bits (q := q) (v := 0) (n := 1) (by decide) (by decide) ho (by decide) rb (by omega) f3
    rw [← esc] at g3
    obtain ⟨A7, i1, i2, i3⟩ := cl_ch (q := q) (x2 := M) (tn := tn) ho (by omega) (tn - 1) 1 sc A6 (by omega) rc (by omega) g3
    rw [← esd] at i2
    have x7 : EX (XRb o) A3 A7 := ((d2.trans f2).trans g2).trans i1
    have at7 : ∀ (a : Nat) (k : Int), a < 343 → A7.1 a k = A3.1 a k := fun a k y => x7.2 a k (by unfold XRb; omega)
    obtain ⟨A8, j1, j2, j3⟩ := cl_lo0 (q := q) (l := l) (M := M) ho o3 (by omega) lr20 (fun j hj => by rw [at7 _ _ (by omega)]; exact (k8 j hj).1) ud.1 (by omega) i2
    rw [← ese] at j2
    have at8 : ∀ (a : Nat) (k : Int), a < 343 → A8.1 a k = A3.1 a k := fun a k y => by rw [j1.2 a k (by unfold XRb; omega), at7 a k y]
    obtain ⟨A9, p1, p2, p3⟩ := cl_lo0 (q := q) (l := l) (M := M) ho o3 (by omega) lr20 (fun j hj => by rw [at8 _ _ (by omega)]; exact (k8 j hj).1) ue.1 (by omega) j2
    rw [← esf] at p2
    have at9 : ∀ (a : Nat) (k : Int), a < 343 → A9.1 a k = A3.1 a k := fun a k y => by rw [p1.2 a k (by unfold XRb; omega), at8 a k y]
    obtain ⟨A10, r1, r2, r3⟩ := vc' A9 o M tn ho o3 ⟨by rw [at9 _ _ (by omega)]; exact e11, fun i hi => by rw [at9 _ _ (by omega), at3 _ _ (by decide) (by decide)]; exact hC.2 i hi⟩ (fun k hk => by rw [at9 _ _ (by omega), at9 _ _ (by omega)]; exact k8 k hk) p2
    have xall : EX (XYa o) A A10 := ((x2.mono (Y := XYa o) (fun a k y => Or.inr (Or.inl y))).trans (c1.mono (Y := XYa o) (fun a k y => by unfold cdX at y; unfold XYa; omega))).trans (((((x7.trans j1).trans p1).trans r1)).mono (fun a k y => Or.inl y))
    refine ⟨A10, xall, r2, vc_Sorted_symbolsOut _ _ ho ⟨A0, f0, ?_⟩⟩
    rw [h9, eM']
    refine a3 _ _ (b3 _ _ (vc_Sorted_symbolsOut_48 _ _ _ _ ho (cY (Int.le_refl _) ⟨by decide, 107, sh_c0, is_107, A3, c4, A4, d1, A5, ?_, A6, g1, ?_⟩)))
    · rw [e11, show w32 50 = 50 by decide, w32_of (x := (sy.1 : Int) + 50 - 1) (by omega), Int.tdiv_eq_ediv_of_nonneg (by omega), w32_of (x := ((sy.1 : Int) + 50 - 1) / 50) (by omega), show ((sy.1 : Int) + 50 - 1) / 50 = tn by omega]
      exact f1
    · rw [e11, show w32 50 = 50 by decide, w32_of (x := (sy.1 : Int) + 50 - 1) (by omega), Int.tdiv_eq_ediv_of_nonneg (by omega), show ((sy.1 : Int) + 50 - 1) / 50 = tn by omega]
      exact i3 _ _ (vc_Sorted_symbolsOut_133 _ _ _ _ _ ho _ is_107 (cY (Int.le_refl _) ⟨A8, j3, A9, p3, r3⟩))
  · obtain ⟨B1, a1, a2, a3⟩ := md_ty0 (q := q) (M := M) (by omega) M 0 B (by omega) (fun k k0 k1 => absurd k1 (by omega))
    obtain ⟨B2, b1, b2, b3⟩ := md_ty (q := q) (M := M) (by omega) hS.2 hv sy.1 0 B1 (by omega) ⟨by rw [a1.2 _ _ (by decide)]; exact hC.1, fun i hi => by rw [a1.2 411 i (by omega)]; exact hC.2 i hi⟩ (fun k k0 k1 => by rw [a2 k k0 k1]; rfl)
    obtain ⟨B3, c1, c2, c3⟩ := md_t1 (q := q) (sy := sy) (M := M) (by omega) hS.2 M 0 B2 (by omega) (fun k hk => by rw [if_neg (by omega)]; exact b2 k (by omega) (by omega))
    have x3 : EX (fun a _ => a = 412) B B3 := (a1.trans b1).trans c1
    obtain ⟨B4, d1, d2, d3⟩ := lB B3 c2
    obtain ⟨B5, e1, e2, e3, e4, e5⟩ := md_codes (q := q) (B := B4) (fr := 0) (n := M) (l := l) sh_413 sh_414 (by decide) (by omega) (by decide) (by omega) (by omega) (fun s hs => ⟨lr20 s hs, by rw [show (0 : Int) + s = s by omega]; exact d2 s hs⟩)
    have at5 : ∀ (a : Nat) (k : Int), a ≠ 377 → ¬ (412 ≤ a ∧ a ≤ 414) → B5.1 a k = B.1 a k := fun a k y z => by rw [e3 a k (by omega), d1.2 a k (by omega), x3.2 a k (by omega)]
    have k8 : ∀ k : Nat, k < M → B5.1 413 k = l k ∧ B5.1 414 k = cdOf l M k := fun k hk => ⟨by rw [e3 413 k (by decide)]; exact d2 k hk, by
      have := e5 k hk (lr k hk).1
      rw [show (0 : Int) + k = k by omega] at this
      exact this⟩
    have e72 : B5.1 367 72 = sy.1 := by rw [at5 367 72 (by decide) (by decide)]; exact hC.1
    have h5 : MBt B5 1 s := MBt_cg h (fun a k y => by unfold XWb at y; exact at5 a k (by omega) (by omega))
    obtain ⟨B6, f1, f2, f3, -⟩ := mw_high_bits (q := q) (v := 2) (n := 3) (by decide) (by decide) hr (by omega) h5
    rw [← esa] at f3
    obtain ⟨B7, g1, g2, g3, -⟩ := mw_high_bits (q := q) (v := tn) (n := 15) (by omega) (by decide) ra (by omega) f3
    rw [← esb] at g3
    obtain ⟨B8, i1, i2, i3⟩ := mw_b1 (q := q) (b := 0) (Or.inl rfl) rb (by omega) g3
    rw [← esc] at i3
    obtain ⟨B9, j1, j2, j3⟩ := md_ch (q := q) (x1 := M) (x2 := cdF l M 20) (tn := tn) (by omega) (tn - 1) 1 sc B8 (by omega) (by omega) rc (by omega) i3
    rw [← esd] at j2
    have x9 : EX XWb B5 B9 := ((f2.trans g2).trans i2).trans j1
    obtain ⟨B10, p1, p2, p3⟩ := md_lo0 (q := q) (x2 := cdF l M 20) (x3 := tn) (x4 := 0) (l := l) (M := M) (by omega) (by decide) lr20 (fun j hj => by rw [x9.2 _ _ (by unfold XWb; omega)]; exact (k8 j hj).1) ud.1 (by omega) j2
    rw [← ese] at p2
    have x10 := x9.trans p1
    obtain ⟨B11, r1, r2, r3⟩ := md_lo0 (q := q) (x2 := cdF l M 20) (x3 := tn) (x4 := 1) (l := l) (M := M) (by omega) (by decide) lr20 (fun j hj => by rw [x10.2 _ _ (by unfold XWb; omega)]; exact (k8 j hj).1) ue.1 (by omega) p2
    rw [← esf] at r2
    have x11 := x10.trans r1
    obtain ⟨B12, t1, t2, t3⟩ := vm B11 M (cdF l M 20) tn ⟨by rw [x11.2 _ _ (by unfold XWb; omega)]; exact e72, fun i hi => by rw [x11.2 _ _ (by unfold XWb; omega), at5 _ _ (by decide) (by decide)]; exact hC.2 i hi⟩ (fun k hk => by rw [x11.2 _ _ (by unfold XWb; omega), x11.2 _ _ (by unfold XWb; omega)]; exact k8 k hk) r2
    have yall : EY XYb B B12 := ((x3.mono (Y := XYb) (fun a k y => by unfold XYb; omega)).ey.trans (d1.mono (fun a k y => by unfold XYb; omega))).trans (EY.trans (T := B5) ⟨by rw [e2], fun a k y => e3 a k (fun z => y (by unfold XYb; omega))⟩ ((x11.trans t1).mono (fun a k y => Or.inl y)).ey)
    refine ⟨B12, yall, t2, vc_MD_writeSymbols _ (a3 _ _ (b3 _ _ (c3 _ _ (vc_MD_writeSymbols_53 _ _ (cY (Int.le_refl _) ⟨B4, d3, _, B5, e1, B6, f1, B7, ?_, ?_⟩)))))⟩
    · rw [e72, show w32 50 = 50 by decide, w32_of (x := (sy.1 : Int) + 49) (by omega), Int.tdiv_eq_ediv_of_nonneg (by omega), w32_of (x := ((sy.1 : Int) + 49) / 50) (by omega), show ((sy.1 : Int) + 49) / 50 = tn by omega]
      exact g1
    · rw [e72, show w32 50 = 50 by decide, w32_of (x := (sy.1 : Int) + 49) (by omega), Int.tdiv_eq_ediv_of_nonneg (by omega), show ((sy.1 : Int) + 49) / 50 = tn by omega]
      refine vc_MD_writeSymbols_149 _ _ _ _ ?_
      rw [show w32 (tn : Int) = tn from w32_of (by omega), show w32 0 = 0 by decide]
      exact cNo (by omega) (cY (by decide) (vc_MD_writeSymbols_165 _ _ _ _ ⟨B8, i1, j3 _ _ (p3 _ _ (r3 _ _ (vc_MD_writeSymbols_179 _ _ _ _ (cY (by decide) t3))))⟩))
end PSyz
