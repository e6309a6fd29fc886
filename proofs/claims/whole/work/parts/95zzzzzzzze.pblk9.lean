/-! pack: SORTED; a block, the reference; both -/
section PBlk9m
variable {q : Nat × (Nat → Int32)} {x : Int} {t : Int → Int}
theorem md_cp4 {ls : Nat → Int} {m : Nat} {x1 : Int} (hm : m ≤ 256) : ∀ (v i : Nat) (B : ms), i + v = m → (∀ j : Nat, j < m → B.1 409 j = b8 (ls j)) → (∀ j : Nat, j < i → B.1 410 j = b8 (ls j)) → ∃ B', EX (fun a _ => a = 410) B B' ∧ (∀ j : Nat, j < m → B'.1 410 j = b8 (ls j)) ∧ ∀ (Q : Option Value) (S' : ms), EV q 321 277 [some (.ref 367), some (vI x1), some (vI m), some (vI 0), some (vI 0), none, none] [] (wI B' 367 72 0) Q S' → EV q 321 244 [some (.ref 367), some (vI x1), some (vI m), some (vI i), none, none, none] [] B Q S' := by
  intro v
  induction v with
  | zero =>
    intro i B hi h9 h
    have e : i = m := by omega
    subst e
    exact ⟨B, EX.refl _ B, h, fun Q S' k => vc_MD_writeSorted_244 _ _ _ (cY (Int.le_refl _) (fun S1 q1 => by rw [q1]; exact k))⟩
  | succ v ih =>
    intro i B hi h9 h
    obtain ⟨B', g1, g2, g3⟩ := ih (i + 1) (wI B 410 i (b8 (ls i))) (by omega) (fun j hj => by rw [wI_no _ (by omega)]; exact h9 j hj) (fun j hj => by
      by_cases e : j = i
      · rw [e, wI_at]
      · rw [wI_no _ (by omega)]
        exact h j (by omega))
    refine ⟨B', ((EX.refl _ B).wr rfl).trans g1, g2, fun Q S' k => vc_MD_writeSorted_244 _ _ _ ?_⟩
    have g4 := g3 Q S' k
    rw [show ((i + 1 : Nat) : Int) = (i : Int) + 1 by omega] at g4
    rw [show w32 (m : Int) = m from w32_of (by omega), show w32 (i : Int) = i from w32_of (by omega), h9 i (by omega), b8_i]
    exact cNo (by omega) ⟨by omega, by omega, fun S4 q4 => by rw [q4]; exact g4⟩
theorem md_blk9 {fr e : Int} {P : Nat → Int} {K n m o0 : Nat} {u w ls0 : Nat → Int} {R : Nat → Nat} {pr : Int → Int} {sy : Rst} {s s' : Wb} {z x1 : Int} (hx : 0 ≤ x ∧ x ≤ 6000) (hf : 0 ≤ fr ∧ fr < e ∧ e ≤ x ∧ e = min x (fr + 2000)) (hP : P 0 = fr ∧ P K = e ∧ ∀ k : Nat, k < K → (fr ≤ P k ∧ P k < e) ∧ P (k + 1) = P k + ruL t e (P k)) (hr : ∀ k : Nat, k ≤ K → rOk (rAll t P (ruL t e) k) ∧ 4 * ((rAll t P (ruL t e) k).1 : Int) ≤ 5 * (P k - fr)) (er : rAll t P (ruL t e) K = (n, u)) (hn : 1 ≤ n ∧ n ≤ 2500) (hR : Srt u n R) (h0 : o0 < n ∧ R o0 = 0) (ew : ∀ i : Nat, w i = u (laF n (R i))) (epr : pr = prF u n) (em : (m, ls0) = sgS pr 256) (hm : 1 ≤ m ∧ m ≤ 256) (esy : sy = rPut ((m : Int) + 1) (dgR 32 (mkF w ls0 m n).2.1 (mkF w ls0 m n).2.2)) (ez : z = -(crT (fun k => t (fr + k)) (e - fr).toNat : Nat) - 1) (hrs : wbR 1 s) (hs : s.1.1 < 300000) (hsy : ∀ B : ms, MSy B sy → MBt B 1 (hbB pr (gbF pr) 0 16 (hbA (gbF pr) 0 16 (wbHigh 24 o0 (wbHigh 1 0 (wbHigh 32 (w32 z % 4294967296) (wbHigh 48 54156738319193 s)))))) → ∃ B', EY XYb B B' ∧ MBt B' 1 s' ∧ EV q 325 0 [some (.ref 367), some (vI ((m : Int) + 2)), none, none, none, none, none] [] B none B') {B : ms} (hq : ∀ t : Nat, t < 256 → B.1 373 t = tnF 8 (((t : Nat) : Int) * 16777216)) (hB : TXm B x t) (h : MBt B 1 s) : ∃ B', EY XS9m B B' ∧ MBt B' 1 s' ∧ ∀ (Q : Option Value) (S' : ms), EV q 318 33 [some (.ref 367), some (vI (bX (rot x1 1) z)), some (vI (fr + 2000)), none, none, none, none, none] [] B' Q S' → EV q 318 33 [some (.ref 367), some (vI x1), some (vI fr), none, none, none, none, none] [] B Q S' := by
  have hu : ∀ i : Nat, i < n → 0 ≤ u i ∧ u i < 256 := fun i hi => by
    have := (hr K (Nat.le_refl _)).1
    rw [er] at this
    exact this i hi
  have hw : ∀ i : Nat, i < n → 0 ≤ w i ∧ w i < 256 := fun i hi => by rw [ew]; exact hu _ (laF_m (hR.1.1 i hi)).1
  have h01 : ∀ k : Int, pr k = 0 ∨ pr k = 1 := fun k => by rw [epr]; exact prF_01 u k n
  have epw : ∀ k : Int, prF w n k = pr k := fun k => by rw [epr]; exact prF_p (laF_p hR.1) (fun i _ => ew i) k
  -- runs
  obtain ⟨B0, e0⟩ : ∃ B0, B0 = wI B 367 66 0 := ⟨_, rfl⟩
  have at0 : ∀ (a : Nat) (k : Int), ¬ (a = 367 ∧ k = 66) → B0.1 a k = B.1 a k := fun a k y => by rw [e0, wI_no _ y]
  have x0 : EX XRm B B0 := by rw [e0]; exact (EX.refl _ B).wr (Or.inr ⟨rfl, rfl⟩)
  obtain ⟨B1, b1, b2, b3⟩ := md_runs (q := q) (x1 := bX (rot x1 1) z) (x4 := z) (fr := fr) (e := e) hx (by omega) hP hr K 0 B0 (by omega) (TXm_e hB (fun a k y => at0 a k (by omega))) ⟨by rw [e0, wI_at]; rfl, fun i hi => absurd hi (by show ¬ i < 0; omega)⟩
  rw [er] at b2
  rw [hP.1] at b3
  have xb1 : EX XRm B B1 := x0.trans b1
  have h1 : MBt B1 1 s := MBt_cg h (fun a k y => by unfold XWb at y; exact xb1.2 a k (by unfold XRm; omega))
  -- the head
  have m1 := wbHigh_n 48 54156738319193 s
  have r1 := wbHigh_r 48 54156738319193 s hrs
  obtain ⟨s1, es1⟩ : ∃ s1, s1 = wbHigh 48 54156738319193 s := ⟨_, rfl⟩
  rw [← es1] at m1 r1 hsy
  have m2 := wbHigh_n 32 (w32 z % 4294967296) s1
  have r2 := wbHigh_r 32 (w32 z % 4294967296) s1 r1
  obtain ⟨s2, es2⟩ : ∃ s2, s2 = wbHigh 32 (w32 z % 4294967296) s1 := ⟨_, rfl⟩
  rw [← es2] at m2 r2 hsy
  have m3 := wbHigh_n 1 0 s2
  have r3 := wbHigh_r 1 0 s2 r2
  obtain ⟨s3, es3⟩ : ∃ s3, s3 = wbHigh 1 0 s2 := ⟨_, rfl⟩
  rw [← es3] at m3 r3 hsy
  have m4 := wbHigh_n 24 o0 s3
  have r4 := wbHigh_r 24 o0 s3 r3
  obtain ⟨s4, es4⟩ : ∃ s4, s4 = wbHigh 24 o0 s3 := ⟨_, rfl⟩
  rw [← es4] at m4 r4 hsy
  obtain ⟨B2, d1, d2, d3, -⟩ := mw_high_bits (q := q) (v := 54156738319193) (n := 48) (by decide) (by decide) hrs (by omega) h1
  rw [← es1] at d3
  obtain ⟨B3, f1, f2, f3, -⟩ := mw_high_bits (q := q) (v := w32 z % 4294967296) (n := 32) (by omega) (by decide) r1 (by omega) d3
  rw [← es2] at f3
  obtain ⟨B4, g1, g2, g3⟩ := mw_b1 (q := q) (b := 0) (Or.inl rfl) r2 (by omega) f3
  rw [← es3] at g3
  have x4 : EX XWb B1 B4 := (d2.trans f2).trans g2
  have mr4 : MRs B4 (n, u) := ⟨by rw [x4.2 367 66 (by unfold XWb; omega)]; exact b2.1, fun i hi => by rw [x4.2 406 i (by unfold XWb; omega)]; exact b2.2 i hi⟩
  have ru : ∀ B' : ms, MRs B' (n, u) → RuM B' n u := fun B' y => ⟨y.1, fun i hi => oct_eq (hu i hi) (y.2 i hi)⟩
  -- the sort
  obtain ⟨B5, R', c1, c2, c3, c4⟩ := md_srt (q := q) (u := u) hn hu (B := B4) (ru B4 mr4)
  have c3' : ∀ i : Nat, i < n → B5.1 407 i = R i := fun i hi => by rw [c3 i hi, Srt_u hR c2 i hi]
  have mr5 : MRs B5 (n, u) := ⟨by rw [c1.2 367 66 (by unfold XSq; omega)]; exact mr4.1, fun i hi => by rw [c1.2 406 i (by unfold XSq; omega)]; exact mr4.2 i hi⟩
  have h5 : MBt B5 1 s3 := MBt_cg g3 (fun a k y => by unfold XWb at y; exact c1.2 a k (by unfold XSq; omega))
  have n5 : B5.1 367 66 = n := mr5.1
  obtain ⟨B6, i1, i2, i3, -⟩ := mw_high_bits (q := q) (v := o0) (n := 24) (by omega) (by decide) r3 (by omega) h5
  rw [← es4] at i3
  have mr6 : MRs B6 (n, u) := ⟨by rw [i2.2 367 66 (by unfold XWb; omega)]; exact mr5.1, fun i hi => by rw [i2.2 406 i (by unfold XWb; omega)]; exact mr5.2 i hi⟩
  -- the signs
  obtain ⟨B7, j1, j2, j3⟩ := md_sgl (q := q) (x1 := o0) hn.2 hu 256 0 B6 (by omega) (ru B6 mr6) (fun j hj => absurd hj (by show ¬ j < 0; omega))
  rw [← epr] at j2 j3
  have h7 : MBt B7 1 s4 := MBt_cg i3 (fun a k y => by unfold XWb at y; exact j1.2 a k (by omega))
  obtain ⟨B8, p1, p2, p3⟩ := md_hb1 (q := q) (x1 := o0) h01 16 0 s4 B7 (by decide) r4 (by omega) j2 h7
  have hA5 := hbA_r (gbF pr) 16 0 s4 r4
  obtain ⟨s5, es5⟩ : ∃ s5, s5 = hbA (gbF pr) 0 16 s4 := ⟨_, rfl⟩
  rw [← es5] at p2 hA5 hsy
  obtain ⟨B9, v1, v2, v3⟩ := md_hb2 (q := q) (x1 := o0) h01 16 0 s5 B8 (by decide) hA5.1 (by omega) (MSg_x j2 p1) p2
  have ms9 : MSg B9 (sgS pr 256) := MSg_x (MSg_x j2 p1) v1
  have sgm := sgS_m pr 256
  rw [← em] at sgm ms9 j3 p3 v3
  have x9 : EX XWb B7 B9 := p1.trans v1
  obtain ⟨B10, y1, y2, y3⟩ := md_cp4 (q := q) (ls := ls0) (m := m) (x1 := o0) hm.2 m 0 B9 (by omega) ms9 (fun j hj => absurd hj (by omega))
  obtain ⟨B11, e11⟩ : ∃ B11, B11 = wI B10 367 72 0 := ⟨_, rfl⟩
  rw [← e11] at y3
  have at11 : ∀ (a : Nat) (k : Int), ¬ (a = 367 ∧ k = 72) → B11.1 a k = B10.1 a k := fun a k y => by rw [e11, wI_no _ y]
  have hw2 : ∀ i : Nat, i < n → (0 ≤ w i ∧ w i < 256) ∧ ∃ j : Nat, j < m ∧ ls0 j = w i := fun i hi => by
    have wi := hw i hi
    refine ⟨wi, ?_⟩
    have p : pr ((w i).toNat : Int) = 1 := by
      rw [show (((w i).toNat : Nat) : Int) = w i by omega, ← epw]
      exact prF_1.2 ⟨i, hi, rfl⟩
    obtain ⟨j, j1, j2⟩ := sgm.2.2 (w i).toNat (by omega) p
    refine ⟨j, j1, ?_⟩
    rw [show w i = (((w i).toNat : Nat) : Int) by omega]
    exact j2
  have far : ∀ (a : Nat) (k : Int), a = 406 ∨ a = 407 ∨ (a = 367 ∧ k = 66) → B11.1 a k = B6.1 a k := fun a k y => by rw [at11 a k (by omega), y1.2 a k (by omega), x9.2 a k (by unfold XWb; omega), j1.2 a k (by omega)]
  obtain ⟨B12, t1, t2, t3⟩ := md_msy (q := q) (w := w) (ls0 := ls0) (u := u) (R := R) (x1 := o0) hn.2 hm hu hR.1 (fun i _ => ew i) hw2 (fun j hj => (sgm.2.1 j hj).1) n 0 B11 (by omega) ⟨by rw [far 367 66 (by omega)]; exact mr6.1, fun i hi => by rw [far 406 i (by omega)]; exact mr6.2 i hi⟩ (fun i hi => by rw [far 407 i (by omega), i2.2 407 i (by unfold XWb; omega)]; exact c3' i hi) (fun j hj => by rw [at11 _ _ (by omega)]; exact y2 j hj) ⟨by rw [e11, wI_at]; rfl, fun i hi => absurd hi (by show ¬ i < 0; omega)⟩
  rw [← esy] at t2
  have h12 : MBt B12 1 (hbB pr (gbF pr) 0 16 s5) := MBt_cg v2 (fun a k y => by
    unfold XWb at y
    rw [t1.2 a k (by unfold XMl XSz; omega), at11 a k (by omega), y1.2 a k (by omega)])
  obtain ⟨B13, w1, w2, w3⟩ := hsy B12 t2 h12
  have kws : EV q 321 0 [some (.ref 367), none, none, none, none, none, none] [] B5 none B13 := by
    have k277 := t3 B13 w3
    have k4 : EV q 321 4 [some (.ref 367), some (vI o0), some (vI n), none, none, none, none] [] B5 none B13 := by
      refine vc_MD_writeSorted_4 _ _ ?_
      rw [n5, show w32 (o0 : Int) = o0 from w32_of (by omega)]
      exact cY (Int.le_refl _) ⟨B6, i1, j3 none B13 (p3 none B13 (v3 none B13 (y3 none B13 k277)))⟩
    have k40 := md_last (q := q) (R := R) (o0 := o0) hn.2 hR.1 h0 n5 c3' n 0 (by omega) k4
    rw [if_neg (by omega)] at k40
    exact vc_MD_writeSorted k40
  have xX : EX XS9m B B5 := ((xb1.mono (Y := XS9m) (fun a k y => by unfold XRm at y; unfold XS9m; omega)).trans (x4.mono (fun a k y => Or.inl y))).trans (c1.mono (fun a k y => by unfold XSq at y; unfold XS9m; omega))
  have xY : EX XS9m B5 B12 := ((((i2.mono (Y := XS9m) (fun a k y => Or.inl y)).trans (j1.mono (fun a k y => by unfold XS9m; omega))).trans (x9.mono (fun a k y => Or.inl y))).trans ((y1.mono (Y := XS9m) (fun a k y => by unfold XS9m; omega)).trans (by rw [e11]; exact (EX.refl _ B10).wr (by unfold XS9m; omega)))).trans (t1.mono (fun a k y => by unfold XMl XSz at y; unfold XS9m; omega))
  have xall : EY XS9m B B13 := (xX.trans xY).ey.trans (w1.mono (fun a k y => by unfold XYb XWb at y; unfold XS9m XWb; omega))
  refine ⟨B13, xall, w2, fun Q S' kk => vc_MD_packSorted_33 _ _ ?_⟩
  have kt := sp_mtn (q := q) (S := B) (c := 368) (n1 := 6000) (n := (e - fr).toNat) (fr := fr) (g := fun k => t (fr + k)) rfl (by decide) (by omega) (by omega) (fun k hk => by have y := hB.2 (fr + k) (by omega) (by omega); exact ⟨y.1, oct_eq y.1 y.2⟩) hq
  rw [← ez, show (((e - fr).toNat : Nat) : Int) = e - fr by omega] at kt
  have k65 : EV q 318 65 [some (.ref 367), some (vI x1), some (vI fr), none, none, none, none, none] [vI (e - fr)] B Q S' := by
    refine vc_MD_packSorted_65 _ _ _ ⟨z, B, kt, _, B, sp_mrot _ _, fun S7 q7 => ?_⟩
    rw [q7, ← e0]
    refine b3 Q S' (vc_MD_packSorted_95 _ _ _ _ _ ?_)
    rw [show fr + (e - fr) = e by omega]
    exact cY (Int.le_refl _) ⟨B2, d1, B3, f1, B4, g1, B5, c4, B13, kws, kk⟩
  rw [hB.1, w32_of (x := x) (by omega), w32_of (x := fr) (by omega), w32_of (x := x - fr) (by omega)]
  refine cNo (by omega) ?_
  by_cases c : 2000 ≤ x - fr
  · rw [show e - fr = 2000 by omega] at k65
    exact cY c k65
  · rw [show e - fr = x - fr by omega] at k65
    exact cNo c k65
end PBlk9m
