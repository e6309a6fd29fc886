/-! pack: SORTED; a block on both sides -/
section PBlk9
variable {q : Nat × (Nat → Int32)} {x : Int} {t : Int → Int}
theorem bk_ex {fr e : Int} (ht : ∀ k : Int, 0 ≤ k → k < x → 0 ≤ t k ∧ t k < 256) (hf : 0 ≤ fr ∧ fr < e ∧ e ≤ x ∧ e ≤ fr + 2000) : ∃ (P : Nat → Int) (K : Nat), (P 0 = fr ∧ P K = e ∧ ∀ k : Nat, k < K → (fr ≤ P k ∧ P k < e) ∧ P (k + 1) = P k + ruL t e (P k)) ∧ (∀ k : Nat, k ≤ K → (k : Int) ≤ P k - fr ∧ P k ≤ e) ∧ (∀ k : Nat, k ≤ K → rOk (rAll t P (ruL t e) k) ∧ 4 * ((rAll t P (ruL t e) k).1 : Int) ≤ 5 * (P k - fr)) ∧ 1 ≤ (rAll t P (ruL t e) K).1 ∧ (rAll t P (ruL t e) K).1 ≤ 2500 := by
  have hs : ∀ p : Int, 0 ≤ p → p < e - fr → 1 ≤ ruL t e (fr + p) ∧ p + ruL t e (fr + p) ≤ e - fr := fun p p0 p1 => by
    have := ruL_r t (e := e) (p := fr + p) (by omega)
    omega
  obtain ⟨P0, K, hP⟩ := GP_ex (x := e - fr) (fun p => ruL t e (fr + p)) (fun p => ruL t e (fr + p)) (by omega) hs
  have le := GP_le hP hs
  obtain ⟨P, eP⟩ : ∃ P : Nat → Int, ∀ k, P k = fr + P0 k := ⟨_, fun _ => rfl⟩
  have hP' : P 0 = fr ∧ P K = e ∧ ∀ k : Nat, k < K → (fr ≤ P k ∧ P k < e) ∧ P (k + 1) = P k + ruL t e (P k) := by
    refine ⟨by rw [eP, hP.1]; omega, by rw [eP, hP.2.1]; omega, fun k hk => ?_⟩
    have y := hP.2.2 k hk
    have y2 : P0 (k + 1) = P0 k + ruL t e (fr + P0 k) := y.2
    rw [eP, eP, y2]
    exact ⟨by omega, by omega⟩
  have hle : ∀ k : Nat, k ≤ K → (k : Int) ≤ P k - fr ∧ P k ≤ e := fun k hk => by
    have := le k hk
    rw [eP]
    omega
  have hr : ∀ k : Nat, k ≤ K → (rOk (rAll t P (ruL t e) k) ∧ 4 * ((rAll t P (ruL t e) k).1 : Int) ≤ 5 * (P k - fr)) ∧ k ≤ (rAll t P (ruL t e) k).1 := by
    intro k
    induction k with
    | zero =>
      intro _
      refine ⟨⟨fun i hi => absurd hi (by show ¬ i < 0; omega), ?_⟩, Nat.zero_le _⟩
      rw [hP'.1]
      show 4 * ((0 : Nat) : Int) ≤ 5 * (fr - fr)
      omega
    | succ k ih =>
      intro hk
      have i := ih (by omega)
      have y := hP'.2.2 k (by omega)
      have rl := ruL_r t (e := e) (p := P k) y.1.2
      have tp := ht (P k) (by omega) (by omega)
      have ro := rRun_o (c := t (P k)) (l := ruL t e (P k)) (s := rAll t P (ruL t e) k) tp ⟨rl.1, rl.2.1⟩ i.1.1
      rw [rAll_s, y.2]
      exact ⟨⟨ro.1, by omega⟩, by omega⟩
  have K1 : 1 ≤ K := by
    by_cases c : K = 0
    · have a := hP'.1
      have b := hP'.2.1
      rw [c] at b
      omega
    · omega
  have rK := hr K (Nat.le_refl _)
  have lK := hle K (Nat.le_refl _)
  exact ⟨P, K, hP', hle, fun k hk => (hr k hk).1, by omega, by omega⟩
def XS9 (o a : Nat) (k : Int) : Prop := XRb o a k ∨ (94 ≤ a ∧ a ≤ 117)
def XS9m (a : Nat) (k : Int) : Prop := XWb a k ∨ a = 377 ∨ (406 ≤ a ∧ a ≤ 414) ∨ (a = 367 ∧ (k = 66 ∨ k = 72))
theorem cl_blk9 {fr e : Int} {P : Nat → Int} {K n m o0 o a1 : Nat} {u w ls0 : Nat → Int} {R : Nat → Nat} {pr : Int → Int} {sy : Rst} {s s' : Wb} {z x3 : Int} (hx : 0 ≤ x ∧ x ≤ 6000) (hf : 0 ≤ fr ∧ fr < e ∧ e ≤ x ∧ e = min x (fr + 2000)) (hP : P 0 = fr ∧ P K = e ∧ ∀ k : Nat, k < K → (fr ≤ P k ∧ P k < e) ∧ P (k + 1) = P k + ruL t e (P k)) (hle : ∀ k : Nat, k ≤ K → (k : Int) ≤ P k - fr ∧ P k ≤ e) (hr : ∀ k : Nat, k ≤ K → rOk (rAll t P (ruL t e) k) ∧ 4 * ((rAll t P (ruL t e) k).1 : Int) ≤ 5 * (P k - fr)) (er : rAll t P (ruL t e) K = (n, u)) (hn : 1 ≤ n ∧ n ≤ 2500) (hR : Srt u n R) (h0 : o0 < n ∧ R o0 = 0) (ew : ∀ i : Nat, w i = u (laF n (R i))) (epr : pr = prF u n) (em : (m, ls0) = sgS pr 256) (hm : 1 ≤ m ∧ m ≤ 256) (esy : sy = rPut ((m : Int) + 1) (dgR 32 (mkF w ls0 m n).2.1 (mkF w ls0 m n).2.2)) (ez : z = -(crT (fun k => t (fr + k)) (e - fr).toNat : Nat) - 1) (hrs : wbR 1 s) (hs : s.1.1 < 300000) (hsy : ∀ A : ms, A.1 94 9 = m → CSy A sy → CBt A o 12000 (hbB pr (gbF pr) 0 16 (hbA (gbF pr) 0 16 (wbHigh 24 o0 (wbHigh 1 0 (wbHigh 32 (w32 z % 4294967296) (wbHigh 48 54156738319193 s)))))) → ∃ A', EX (XYa o) A A' ∧ CBt A' o 12000 s' ∧ EV q 106 0 [some (.ref 94), some (.ref o), none, none, none, none] [] A none A') {A : ms} (ho : isRow o 12000) (o3 : 342 < o) (hA : TXr A a1 x t) (h : CBt A o 12000 s) : ∃ A', EX (XS9 o) A A' ∧ CBt A' o 12000 s' ∧ ∀ (Q : Option Value) (S' : ms), EV q 92 13 [some (.ref 94), some (.ref a1), some (.ref o), some (vI (bX (rot x3 1) z)), some (vI (fr + 2000)), none, none] [] A' Q S' → EV q 92 13 [some (.ref 94), some (.ref a1), some (.ref o), some (vI x3), some (vI fr), none, none] [] A Q S' := by
  have hu : ∀ i : Nat, i < n → 0 ≤ u i ∧ u i < 256 := fun i hi => by
    have := (hr K (Nat.le_refl _)).1
    rw [er] at this
    exact this i hi
  have hw : ∀ i : Nat, i < n → 0 ≤ w i ∧ w i < 256 := fun i hi => by rw [ew]; exact hu _ (laF_m (hR.1.1 i hi)).1
  have h01 : ∀ k : Int, pr k = 0 ∨ pr k = 1 := fun k => by rw [epr]; exact prF_01 u k n
  have epw : ∀ k : Int, prF w n k = pr k := fun k => by rw [epr]; exact prF_p (laF_p hR.1) (fun i _ => ew i) k
  have ln := (hle K (Nat.le_refl _)).1
  -- runs
  obtain ⟨A0, e0⟩ : ∃ A0, A0 = wI A 94 1 0 := ⟨_, rfl⟩
  have at0 : ∀ (a : Nat) (k : Int), a ≠ 94 → A0.1 a k = A.1 a k := fun a k y => by rw [e0, wI_no _ (fun w => y w.1)]
  have x0 : EX (XS9 o) A A0 := by rw [e0]; exact (EX.refl _ A).wr (Or.inr (by omega))
  have tx : ∀ A1 : ms, EX (XS9 o) A A1 → TXr A1 a1 x t := fun A1 y => ⟨hA.1, by rw [y.2 a1 1 (by have := hA.1.2; unfold XS9 XRb; omega)]; exact hA.2.1, fun k k0 k1 => by rw [y.2 (a1 + 1) k (by have := hA.1.2; unfold XS9 XRb; omega)]; exact hA.2.2 k k0 k1⟩
  obtain ⟨A1, b1, b2, b3⟩ := cl_runs (q := q) (a1 := a1) (fr := fr) (e := e) hx (by omega) hP hle hr K 0 A0 (by omega) (tx A0 x0) ⟨by rw [e0, wI_at]; rfl, fun i hi => absurd hi (by show ¬ i < 0; omega)⟩
  rw [er] at b2
  rw [hP.1, show fr + ((0 : Nat) : Int) = fr by omega] at b3
  have kr : EV q 93 0 [some (.ref 94), some (.ref a1), some (vI fr), some (vI e), none, none, none, none] [] A none A1 := vc_Sorted_makeRuns _ _ _ _ hA.1.1 (fun S1 q1 => by rw [q1, ← e0]; exact b3)
  have x1 : EX (XS9 o) A A1 := x0.trans (b1.mono (fun a k y => by unfold XRa at y; unfold XS9; omega))
  -- the sort
  have n1 : A1.1 94 1 = n := b2.1
  obtain ⟨A2, R', c1, c2, c3, c4⟩ := cl_srt (q := q) (u := u) hn hu (A := A1) n1 (fun j hj => b2.2 j hj)
  have c3' : ∀ i : Nat, i < n → A2.1 96 i = R i := fun i hi => by rw [c3 i hi, Srt_u hR c2 i hi]
  have x2 : EX (XS9 o) A A2 := x1.trans (c1.mono (fun a k y => by unfold XSo at y; unfold XS9; omega))
  have h2 : CBt A2 o 12000 s := CBt_cg h (fun a k y => by
    unfold XRb at y
    rw [c1.2 a k (by unfold XSo; omega), b1.2 a k (by unfold XRa; omega), at0 a k (by omega)])
  -- the head
  have m1 := wbHigh_n 48 54156738319193 s
  have r1 := wbHigh_r 48 54156738319193 s hrs
  obtain ⟨s1, es1⟩ : ∃ s1, s1 = wbHigh 48 54156738319193 s := ⟨_, rfl⟩
  rw [← es1] at m1 r1 hsy
  have m2 := wbHigh_n 32 (w32 z % 4294967296) s1
  have r2 := wbHigh_r 32 (w32 z % 4294967296) s1 r1
  obtain ⟨s2, es2⟩ : ∃ s2, s2 = wbHigh 32 (w32 z % 4294967296) s1 := ⟨_, rfl⟩
  rw [← es2] at m2 r2 hsy
  have m3 := wbHigh_n 1 0 s2
  have r3 := wbHigh_r 1 0 s2 r2
  obtain ⟨s3, es3⟩ : ∃ s3, s3 = wbHigh 1 0 s2 := ⟨_, rfl⟩
  rw [← es3] at m3 r3 hsy
  have m4 := wbHigh_n 24 o0 s3
  have r4 := wbHigh_r 24 o0 s3 r3
  obtain ⟨s4, es4⟩ : ∃ s4, s4 = wbHigh 24 o0 s3 := ⟨_, rfl⟩
  rw [← es4] at m4 r4 hsy
  obtain ⟨A3, d1, d2, d3⟩ := cw_high_bits (q := q) (v := 54156738319193) (n := 48) (by decide) (by decide) ho (by decide) hrs (by omega) h2
  rw [← es1] at d3
  obtain ⟨A4, f1, f2, f3⟩ := cw_high_32 (q := q) (v := w32 z) ho (by decide) r1 (by omega) d3
  rw [← es2] at f3
  obtain ⟨A5, g1, g2, g3⟩ := cw_high_bits (q := q) (v := 0) (n := 1) (by decide) (by decide) ho (by decide) r2 (by omega) f3
  rw [← es3] at g3
  have x5 : EX (XRb o) A2 A5 := (d2.trans f2).trans g2
  have at5 : ∀ (a : Nat) (k : Int), a < 343 → A5.1 a k = A2.1 a k := fun a k y => x5.2 a k (by unfold XRb; omega)
  have n5 : A5.1 94 1 = n := by rw [at5 _ _ (by omega), c1.2 94 1 (by unfold XSo; omega)]; exact n1
  obtain ⟨A6, i1, i2, i3⟩ := cl_last (q := q) (a1 := o) (u := u) ho hn.2 hu hR.1 h0 n 0 A5 (by omega) n5 (fun j hj => by rw [at5 _ _ (by omega)]; exact c3' j hj) (fun j hj => by rw [at5 _ _ (by omega), c1.2 95 j (by unfold XSo; omega)]; exact b2.2 j hj) (fun j hj => absurd hj (by omega))
  rw [if_neg (by omega)] at i3
  have h6 : CBt A6 o 12000 s3 := CBt_cg g3 (fun a k y => by unfold XRb at y; exact i1.2 a k (by omega))
  obtain ⟨A7, j1, j2, j3⟩ := cw_high_bits (q := q) (v := o0) (n := 24) (by omega) (by decide) ho (by decide) r3 (by omega) h6
  rw [← es4] at j3
  have k99 : EV q 99 0 [some (.ref 94), some (.ref o), none, none] [] A5 none A7 := by
    refine vc_Sorted_lastOctets _ _ ho (i3 none A7 (vc_Sorted_lastOctets_4 _ _ _ _ ho ?_))
    rw [show A6.1 94 1 = n by rw [i1.2 94 1 (by decide)]; exact n5]
    refine cY (Int.le_refl _) ⟨A7, ?_, rfl, rfl⟩
    rw [show w32 (o0 : Int) = o0 from w32_of (by omega)]
    exact j1
  have at7 : ∀ (a : Nat) (k : Int), a < 343 → a ≠ 101 → A7.1 a k = A2.1 a k := fun a k y z => by rw [j2.2 a k (by unfold XRb; omega), i1.2 a k z, at5 a k y]
  have w7 : ∀ j : Nat, j < n → A7.1 101 j = w j := fun j hj => by rw [j2.2 101 j (by unfold XRb; omega), i2 j hj, ew]
  have n7 : A7.1 94 1 = n := by rw [at7 _ _ (by omega) (by decide), c1.2 94 1 (by unfold XSo; omega)]; exact n1
  -- the signs
  obtain ⟨A8, e8⟩ : ∃ A8, A8 = wC A7 104 0 (258 : Nat) (fun _ => 0) := ⟨_, rfl⟩
  have f8 := sp_fillI (q := q) (S := A7) sh_104 (by decide) 0
  rw [← e8] at f8
  have at8 : ∀ (a : Nat) (k : Int), a ≠ 104 → A8.1 a k = A7.1 a k := fun a k y => by rw [e8, rI_C, if_neg (fun w => y w.1)]
  have z8 : A8.2 = A7.2 := by rw [e8]; rfl
  obtain ⟨A9, p1, p2, p3⟩ := cl_sg1 (q := q) (a1 := o) ho hn.2 hw n 0 A8 (by omega) (by rw [at8 _ _ (by decide)]; exact n7) (fun j hj => by rw [at8 _ _ (by decide)]; exact w7 j hj) (fun k k0 k1 => by rw [e8, rI_C, if_pos ⟨rfl, by omega, by omega⟩]; rfl)
  obtain ⟨A10, e10⟩ : ∃ A10, A10 = wI A9 94 9 0 := ⟨_, rfl⟩
  rw [← e10] at p3
  have at10 : ∀ (a : Nat) (k : Int), ¬ (a = 94 ∧ k = 9) → A10.1 a k = A9.1 a k := fun a k y => by rw [e10, wI_no _ y]
  have p10 : ∀ k : Int, 0 ≤ k → k < 256 → A10.1 104 k = pr k := fun k k0 k1 => by rw [at10 _ _ (by omega), p2 k k0 k1, epw]
  obtain ⟨A11, v1, v2, v3⟩ := cl_sg2 (q := q) (a1 := o) ho h01 256 0 A10 (by omega) p10 ⟨by rw [e10, wI_at]; rfl, fun j hj => absurd hj (by show ¬ j < 0; omega)⟩
  rw [← em] at v2
  have p11 : ∀ k : Int, 0 ≤ k → k < 256 → A11.1 104 k = pr k := fun k k0 k1 => by rw [v1.2 104 k (by unfold XSg; omega)]; exact p10 k k0 k1
  have h11 : CBt A11 o 12000 s4 := CBt_cg j3 (fun a k y => by
    unfold XRb at y
    rw [v1.2 a k (by unfold XSg; omega), at10 a k (by omega), p1.2 a k (by omega), at8 a k (by omega)])
  have sxl := (sxN_b pr 256 (Nat.le_refl _)).1
  have e16 : 2 ^ 16 = 65536 := by decide
  obtain ⟨A12, y1, y2, y3⟩ := cw_high_bits (q := q) (v := (sxN pr 256 : Nat)) (n := 16) (by omega) (by decide) ho (by decide) r4 (by omega) h11
  have hA5 := hbA_r (gbF pr) 16 0 s4 r4
  rw [hbA_16 (g := gbF pr) (fun j hj => (gbF_1 hj).2.2) 16 0 s4 (by decide)] at y3
  obtain ⟨s5, es5⟩ : ∃ s5, s5 = hbA (gbF pr) 0 16 s4 := ⟨_, rfl⟩
  rw [← es5] at y3 hA5 hsy
  obtain ⟨A13, l1, l2, l3⟩ := cl_hb2 (q := q) ho o3 h01 16 0 s5 A12 (by decide) hA5.1 (by omega) (fun k k0 k1 => by rw [y2.2 104 k (by unfold XRb; omega)]; exact p11 k k0 k1) y3
  have k100 : EV q 100 0 [some (.ref 94), some (.ref o), none, none, none] [] A7 none A13 := by
    refine vc_Sorted_signsOut _ _ ho ⟨A8, f8, p3 none A13 (v3 none A13 (vc_Sorted_signsOut_45 _ _ _ _ ho (cY (by decide) ⟨A12, ?_, l3⟩)))⟩
    rw [show w32 ((sxN pr 256 : Nat) : Int) = (sxN pr 256 : Nat) from w32_of (by omega)]
    exact y1
  have x13 : EX (XRb o) A11 A13 := y2.trans l1
  have at13 : ∀ (a : Nat) (k : Int), a < 343 → A13.1 a k = A11.1 a k := fun a k y => x13.2 a k (by unfold XRb; omega)
  -- the symbols
  obtain ⟨A14, e14⟩ : ∃ A14, A14 = wI A13 94 11 0 := ⟨_, rfl⟩
  have at14 : ∀ (a : Nat) (k : Int), ¬ (a = 94 ∧ k = 11) → A14.1 a k = A13.1 a k := fun a k y => by rw [e14, wI_no _ y]
  have sgm := sgS_m pr 256
  rw [← em] at sgm
  have hw2 : ∀ i : Nat, i < n → (0 ≤ w i ∧ w i < 256) ∧ ∃ j : Nat, j < m ∧ ls0 j = w i := fun i hi => by
    have wi := hw i hi
    refine ⟨wi, ?_⟩
    have p : pr ((w i).toNat : Int) = 1 := by
      rw [show (((w i).toNat : Nat) : Int) = w i by omega, ← epw]
      exact prF_1.2 ⟨i, hi, rfl⟩
    obtain ⟨j, j1, j2⟩ := sgm.2.2 (w i).toNat (by omega) p
    refine ⟨j, j1, ?_⟩
    rw [show w i = (((w i).toNat : Nat) : Int) by omega]
    exact j2
  have n14 : A14.1 94 1 = n := by rw [at14 _ _ (by omega), at13 _ _ (by omega), v1.2 94 1 (by unfold XSg; omega), at10 _ _ (by omega), p1.2 94 1 (by decide), at8 _ _ (by decide)]; exact n7
  have m14 : A14.1 94 9 = m := by rw [at14 _ _ (by omega), at13 _ _ (by omega)]; exact v2.1
  obtain ⟨A15, t1, t2, t3⟩ := cl_msy (q := q) (w := w) (ls0 := ls0) hn.2 hm hw2 (fun j hj => (sgm.2.1 j hj).1) n 0 A14 (by omega) n14 m14 (fun i hi => by rw [at14 _ _ (by omega), at13 _ _ (by omega), v1.2 101 i (by unfold XSg; omega), at10 _ _ (by omega), p1.2 101 i (by omega), at8 _ _ (by omega)]; exact w7 i hi) (fun j hj => by rw [at14 _ _ (by omega), at13 _ _ (by omega)]; exact v2.2 j hj) ⟨by rw [e14, wI_at]; rfl, fun i hi => absurd hi (by show ¬ i < 0; omega)⟩
  rw [← esy] at t2
  have k101 : EV q 101 0 [some (.ref 94), none, none, none] [] A13 none A15 := vc_Sorted_makeSymbols (fun S1 q1 => by rw [q1, ← e14]; exact t3)
  have h15 : CBt A15 o 12000 (hbB pr (gbF pr) 0 16 s5) := CBt_cg l2 (fun a k y => by
    unfold XRb at y
    rw [t1.2 a k (by unfold XMk XSy; omega), at14 a k (by omega)])
  obtain ⟨A16, w1, w2, w3⟩ := hsy A15 (by rw [t1.2 94 9 (by unfold XMk XSy; omega)]; exact m14) t2 h15
  have x7 : EX (XS9 o) A A7 := (x2.trans (x5.mono (fun a k y => Or.inl y))).trans ((i1.mono (Y := XS9 o) (fun a k y => Or.inr (by omega))).trans (j2.mono (fun a k y => Or.inl y)))
  have x11 : EX (XS9 o) A7 A11 := ((EX.trans (T := A8) ⟨z8, fun a k y => at8 a k (fun z => y (Or.inr (by omega)))⟩ (p1.mono (fun a k y => Or.inr (by omega)))).trans (by rw [e10]; exact (EX.refl _ A9).wr (Or.inr (by omega)))).trans (v1.mono (fun a k y => by unfold XSg at y; exact Or.inr (by omega)))
  have x15 : EX (XS9 o) A13 A15 := EX.trans (by rw [e14]; exact (EX.refl _ A13).wr (Or.inr (by omega))) (t1.mono (fun a k y => by unfold XMk XSy at y; exact Or.inr (by omega)))
  have xall : EX (XS9 o) A A16 := (((x7.trans x11).trans (x13.mono (fun a k y => Or.inl y))).trans x15).trans (w1.mono (fun a k y => by unfold XYa XRb at y; unfold XS9 XRb; omega))
  refine ⟨A16, xall, w2, fun Q S' kk => vc_Sorted_packSorted_13 _ _ _ _ hA.1.1 _ _ ho ?_⟩
  have kt := sp_ctn (q := q) (S := A) (c := a1 + 1) (n1 := 6000) (n := (e - fr).toNat) (fr := fr) (g := fun k => t (fr + k)) hA.1.1.2 (by decide) (by omega) (by omega) (fun k hk => hA.2.2 (fr + k) (by omega) (by omega))
  rw [← ez, show fr + (((e - fr).toNat : Nat) : Int) = e by omega] at kt
  rw [hA.2.1, w32_of (x := x) (by omega), w32_of (x := fr) (by omega), w32_of (x := fr + 2000) (by omega), ← hf.2.2.2]
  exact cNo (by omega) ⟨z, A, kt, _, A, sp_crot _ _, A1, kr, A2, c4, A3, d1, A4, f1, A5, g1, A7, k99, A13, k100, A15, k101, A16, w3, kk⟩
end PBlk9
