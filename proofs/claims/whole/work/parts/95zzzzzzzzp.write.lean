/-! write: BENCH, a card and an entry on both sides -/
section WrH
variable {q : Nat × (Nat → Int32)} {n : Nat} {E : Nat → En} {g : Nat → Int} {nn m1 m2 m3 : Nat} {md sz tm : Int} {w : Wt}
def bnA (g : Nat → Int) (nn m1 m2 m3 : Nat) (md sz tm : Int) : Int → Int := cW 59 1 (fun _ => 10) (cW 58 1 (fun _ => 96) (cW 48 m3 (dgF 10 sz m3) (cW 40 m2 (dgF 8 md m2) (cW 34 1 (dgF 10 0 1) (cW 28 1 (dgF 10 0 1) (cW 16 m1 (dgF 10 tm m1) (cW nn 1 (fun _ => 47) (cW 0 nn g (fun _ => 32)))))))))
def bnM (m1 m2 m3 : Nat) (md sz tm : Int) : Prop := (NdF 10 tm m1 ∧ m1 ≤ 10) ∧ (NdF 8 md m2 ∧ m2 ≤ 3) ∧ NdF 10 sz m3 ∧ m3 ≤ 4
theorem bn_ex (h : (0 ≤ md ∧ md ≤ 511) ∧ (0 ≤ sz ∧ sz ≤ 6000) ∧ 0 ≤ tm ∧ tm ≤ 2147483647) : ∃ m1 m2 m3 : Nat, bnM m1 m2 m3 md sz tm := by
  have p1 : tm < (10 : Int) ^ (9 + 1) := by
    rw [show (10 : Int) ^ (9 + 1) = 10000000000 by decide]
    omega
  have p2 : md < (8 : Int) ^ (2 + 1) := by
    rw [show (8 : Int) ^ (2 + 1) = 512 by decide]
    omega
  have p3 : sz < (10 : Int) ^ (3 + 1) := by
    rw [show (10 : Int) ^ (3 + 1) = 10000 by decide]
    omega
  obtain ⟨m1, a1, a2⟩ := Nd_ex (b := 10) (v := tm) (Or.inr rfl) 9 p1
  obtain ⟨m2, b1, b2⟩ := Nd_ex (b := 8) (v := md) (Or.inl rfl) 2 p2
  obtain ⟨m3, c1, c2⟩ := Nd_ex (b := 10) (v := sz) (Or.inr rfl) 3 p3
  exact ⟨m1, m2, m3, ⟨a1, a2⟩, ⟨b1, b2⟩, c1, c2⟩
theorem Nd_0 : NdF 10 0 1 := ⟨Nat.le_refl _, fun j h1 h2 => absurd h2 (by omega), by decide⟩
theorem bnA_r (hg : ∀ k : Nat, k < nn → 0 ≤ g k ∧ g k < 256) (k : Int) : 0 ≤ bnA g nn m1 m2 m3 md sz tm k ∧ bnA g nn m1 m2 m3 md sz tm k < 256 := by
  have d8 : ∀ (v : Int) (m k : Nat), 0 ≤ dgF 8 v m k ∧ dgF 8 v m k < 256 := fun v m k => by have := dgF_r (b := 8) (Or.inl rfl) v m k; omega
  have d10 : ∀ (v : Int) (m k : Nat), 0 ≤ dgF 10 v m k ∧ dgF 10 v m k < 256 := fun v m k => by have := dgF_r (b := 10) (Or.inr rfl) v m k; omega
  unfold bnA
  exact cW_r (fun _ _ => by decide) (cW_r (fun _ _ => by decide) (cW_r (fun k _ => d10 _ _ k) (cW_r (fun k _ => d8 _ _ k) (cW_r (fun k _ => d10 _ _ k) (cW_r (fun k _ => d10 _ _ k) (cW_r (fun k _ => d10 _ _ k) (cW_r (fun _ _ => by decide) (cW_r hg (fun _ => by decide))))))))) k
/-- the name comes into the card, the class -/
theorem cl_bnN {sh o e : Nat} (hs : isSh sh) (ho : isRow o 12000) (he : e < 16) (hn : nn ≤ 15) : ∀ (r i : Nat) (A : ms), i + r = nn → A.1 (sh + 11 + 4 * e) 1 = nn → (∀ k : Nat, k < nn → A.1 (sh + 11 + 4 * e + 1) k = g k) → (∀ k : Int, 0 ≤ k → k < 512 → A.1 (sh + 7) k = cW 0 i g (fun _ => 32) k) → ∃ A', EX (fun a _ => a = sh + 7) A A' ∧ (∀ k : Int, 0 ≤ k → k < 512 → A'.1 (sh + 7) k = cW 0 nn g (fun _ => 32) k) ∧ ∀ (Q : Option Value) (S' : ms), EV q 188 75 [some (.ref sh), some (.ref o), some (vI e), some (vI nn)] [] A' Q S' → EV q 188 33 [some (.ref sh), some (.ref o), some (vI e), some (vI i)] [] A Q S' := by
  have is := isSh_is hs
  obtain ⟨r1, r2, r3, r4⟩ := sh_nm hs he
  have ee : Unit → w32 (e : Int) = e := fun _ => w32_of (by omega)
  have r1' : sh_r (SH (sh + 1)).2.2 (w32 (e : Int)).toNat = some (sh + 11 + 4 * e) := by rw [ee ()]; exact r1
  intro r
  induction r with
  | zero =>
    intro i A hi h1 hg h
    have e' : i = nn := by omega
    subst e'
    refine ⟨A, EX.refl _ A, h, fun Q S' k => vc_Shelf_writeBench_33 _ _ _ is _ _ ho ⟨by rw [ee ()]; omega, sh + 11 + 4 * e, 100, r1', r2, ?_⟩⟩
    rw [h1]
    exact cY (Int.le_refl _) k
  | succ r ih =>
    intro i A hi h1 hg h
    obtain ⟨A', g1, g2, g3⟩ := ih (i + 1) (wI A (sh + 7) i (g i)) (by omega) (by rw [wI_no _ (by omega)]; exact h1) (fun k hk => by rw [wI_no _ (by omega)]; exact hg k hk) (fun k k0 k1 => by
      by_cases c : k = i
      · rw [c, wI_at, cW_y (by omega), show (((i : Int) - ((0 : Nat) : Int)).toNat : Nat) = i by omega]
      · rw [wI_no _ (fun z => c z.2), h k k0 k1]
        by_cases d : ((0 : Nat) : Int) ≤ k ∧ k < ((0 : Nat) : Int) + i
        · rw [cW_y d, cW_y (by omega)]
        · rw [cW_n d, cW_n (by omega)])
    refine ⟨A', ((EX.refl _ A).wr rfl).trans g1, g2, fun Q S' k => vc_Shelf_writeBench_33 _ _ _ is _ _ ho ?_⟩
    have g4 := g3 Q S' k
    rw [show ((i + 1 : Nat) : Int) = (i : Int) + 1 by omega] at g4
    refine ⟨by rw [ee ()]; omega, sh + 11 + 4 * e, 100, r1', r2, ?_⟩
    rw [h1, show w32 (nn : Int) = nn from w32_of (by omega), show w32 (i : Int) = i from w32_of (by omega)]
    refine cNo (by omega) (cNo (by omega) ⟨by rw [ee ()]; omega, sh + 11 + 4 * e, 100, r1', r2, by omega, by omega, fun S29 q29 => ?_⟩)
    rw [q29, hg i (by omega)]
    exact g4
/-- a BENCH's entry -/
def bnG (E : En) (m1 m2 m3 : Nat) (w : Wt) : Wt := wtPuts (fun _ => 10) (E.2.2.2.2.1 % 2).toNat (wtPuts (fun k => E.2.2.2.2.2 k) E.2.2.2.2.1.toNat (wtPuts (fun k => bnA (fun j => E.2.1 j) E.1.toNat m1 m2 m3 E.2.2.1 E.2.2.2.2.1 E.2.2.2.1 k) 60 w))
theorem bnG_1 {E : En} (h : EnOk E) (m1 m2 m3 : Nat) (w : Wt) : (bnG E m1 m2 m3 w).1 = w.1 + 60 + E.2.2.2.2.1 + E.2.2.2.2.1 % 2 := by
  have s := h.2.1
  unfold bnG
  rw [wtPuts_1, wtPuts_1, wtPuts_1]
  omega
theorem cl_bnE {A : ms} {sh o e : Nat} (hs : isSh sh) (ho : isRow o 12000) (o3 : 342 < o) (hn : n ≤ 16) (he : e < n) (hok : EnOk (E e)) (h15 : (E e).1 ≤ 15) (hM : bnM m1 m2 m3 (E e).2.2.1 (E e).2.2.2.2.1 (E e).2.2.2.1) (hC : ShC A sh n E) (hw : 0 ≤ w.1) (h : CWt A o 12000 w) : ∃ A', EX (Xtp sh o) A A' ∧ CWt A' o 12000 (bnG (E e) m1 m2 m3 w) ∧ ∀ (R : Option Value) (S' : ms), EV q 188 14 [some (.ref sh), some (.ref o), some (vI ((e : Int) + 1)), none] [] A' R S' → EV q 188 14 [some (.ref sh), some (.ref o), some (vI e), none] [] A R S' := by
  have is := isSh_is hs
  have hsr : sh = 193 ∨ sh = 268 := hs
  obtain ⟨r1, r2, r3, r4⟩ := sh_nm hs (show e < 16 by omega)
  have ee : Unit → w32 (e : Int) = e := fun _ => w32_of (by omega)
  have r1' : sh_r (SH (sh + 1)).2.2 (w32 (e : Int)).toNat = some (sh + 11 + 4 * e) := by rw [ee ()]; exact r1
  have r3' : sh_r (SH (sh + 2)).2.2 (w32 (e : Int)).toNat = some (sh + 13 + 4 * e) := by rw [ee ()]; exact r3
  have s7 : SH (sh + 7) = (0, 512, []) := is.2.2.2.2.2.2.2.1
  obtain ⟨⟨c1, c2⟩, ⟨c3, c4⟩, c5, c6⟩ := hC.2 e he
  obtain ⟨⟨n1, n2⟩, s1, s2, u1, t1⟩ := hok
  obtain ⟨⟨v1, v2⟩, ⟨v3, v4⟩, v5, v6⟩ := hM
  have hg : ∀ k : Nat, k < (E e).1.toNat → 0 ≤ (E e).2.1 k ∧ (E e).2.1 k < 256 := fun k hk => by have := n2 k (by omega) (by omega); omega
  obtain ⟨nn, enn⟩ : ∃ nn : Nat, nn = (E e).1.toNat := ⟨_, rfl⟩
  have enI : (E e).1 = (nn : Int) := by omega
  obtain ⟨A0, e0⟩ : ∃ A0, A0 = wC A (sh + 7) 0 (512 : Nat) (fun _ => 32) := ⟨_, rfl⟩
  have f0 := sp_fillI (q := q) (S := A) s7 (by decide) 32
  rw [← e0] at f0
  have at0 : ∀ (a : Nat) (k : Int), a ≠ sh + 7 → A0.1 a k = A.1 a k := fun a k y => by rw [e0, rI_C, if_neg (fun w => y w.1)]
  have x0 : EX (fun a _ => a = sh + 7) A A0 := ⟨by rw [e0]; rfl, at0⟩
  obtain ⟨A1, a1, a2, a3⟩ := cl_bnN (q := q) (o := o) (g := fun j => (E e).2.1 j) (nn := nn) hs ho (show e < 16 by omega) (by omega) nn 0 A0 (by omega) (by rw [at0 _ _ (by omega), c1]; exact enI) (fun k hk => by rw [at0 _ _ (by omega)]; exact c2 k (by omega) (by omega)) (fun k k0 k1 => by
    rw [e0, rI_C, if_pos ⟨rfl, by omega, by omega⟩, cW_n (by omega)])
  obtain ⟨A2, e2⟩ : ∃ A2, A2 = wI A1 (sh + 7) nn 47 := ⟨_, rfl⟩
  have w2 : ∀ k : Int, 0 ≤ k → k < 512 → A2.1 (sh + 7) k = cW nn 1 (fun _ => 47) (cW 0 nn (fun j => (E e).2.1 j) (fun _ => 32)) k := fun k k0 k1 => by
    rw [e2]
    by_cases c : k = nn
    · rw [c, wI_at, cW_y (by omega)]
    · rw [wI_no _ (fun z => c z.2), a2 k k0 k1, cW_n (p := nn) (by omega)]
  have x2 : EX (fun a _ => a = sh + 7) A A2 := by rw [e2]; exact (x0.trans a1).wr rfl
  obtain ⟨A3, b1, b2, b3⟩ := cl_figW (q := q) (b := 10) (v := (E e).2.2.2.1) (m := m1) (p := 16) (fl := 1) is (Or.inr ⟨rfl, rfl⟩) (by omega) v1 (by omega) (by omega) w2
  obtain ⟨A4, d1, d2, d3⟩ := cl_figW (q := q) (b := 10) (v := 0) (m := 1) (p := 28) (fl := 1) is (Or.inr ⟨rfl, rfl⟩) (by decide) Nd_0 (by decide) (by decide) b2
  obtain ⟨A5, i1, i2, i3⟩ := cl_figW (q := q) (b := 10) (v := 0) (m := 1) (p := 34) (fl := 1) is (Or.inr ⟨rfl, rfl⟩) (by decide) Nd_0 (by decide) (by decide) d2
  have x5 := ((x2.trans b1).trans d1).trans i1
  obtain ⟨A6, j1, j2, j3⟩ := cl_figW (q := q) (b := 8) (v := (E e).2.2.1) (m := m2) (p := 40) (fl := 0) is (Or.inl ⟨rfl, rfl⟩) (by omega) v3 (by omega) (by omega) i2
  have x6 := x5.trans j1
  obtain ⟨A7, l1, l2, l3⟩ := cl_figW (q := q) (b := 10) (v := (E e).2.2.2.2.1) (m := m3) (p := 48) (fl := 1) is (Or.inr ⟨rfl, rfl⟩) (by omega) v5 (by omega) (by omega) j2
  obtain ⟨A8, e8⟩ : ∃ A8, A8 = wI A7 (sh + 7) 58 96 := ⟨_, rfl⟩
  obtain ⟨A9, e9⟩ : ∃ A9, A9 = wI A8 (sh + 7) 59 10 := ⟨_, rfl⟩
  have w9 : ∀ k : Int, 0 ≤ k → k < 512 → A9.1 (sh + 7) k = bnA (fun j => (E e).2.1 j) nn m1 m2 m3 (E e).2.2.1 (E e).2.2.2.2.1 (E e).2.2.2.1 k := fun k k0 k1 => by
    unfold bnA
    rw [e9]
    by_cases c : k = 59
    · rw [c, wI_at, cW_y (by omega)]
    · rw [wI_no _ (fun z => c z.2), e8, cW_n (p := 59) (by omega)]
      by_cases d : k = 58
      · rw [d, wI_at, cW_y (by omega)]
      · rw [wI_no _ (fun z => d z.2), l2 k k0 k1, cW_n (p := 58) (by omega)]
  have x9 : EX (fun a _ => a = sh + 7) A A9 := by
    rw [e9, e8]
    exact ((x6.trans l1).wr rfl).wr rfl
  have h9 : CWt A9 o 12000 w := CWt_cg h (fun a k y => x9.2 a k (by unfold XRo at y; omega))
  obtain ⟨B1, y1, y2, y3⟩ := cw_span (q := q) (a1 := sh + 7) (n1 := 512) (b := 0) (n := 60) (g := fun k => bnA (fun j => (E e).2.1 j) nn m1 m2 m3 (E e).2.2.1 (E e).2.2.2.2.1 (E e).2.2.2.1 k) s7 (by decide) (by decide) (fun k hk => ⟨bnA_r (by rw [enn]; exact hg) k, by rw [show ((0 : Nat) : Int) + (k : Int) = k by omega]; exact w9 k (by omega) (by omega)⟩) ho (by decide) hw h9
  have xB1 : EX (Xtp sh o) A B1 := (x9.mono (fun a k y => Or.inl y)).trans (y2.mono (fun a k y => Or.inr y))
  have atB : ∀ (a : Nat) (k : Int), sh + 11 ≤ a → a < 343 → B1.1 a k = A.1 a k := fun a k y1 y2 => xB1.2 a k (by unfold Xtp XRo; omega)
  obtain ⟨B2, z1, z2, z3⟩ := cw_span (q := q) (A := B1) (a1 := sh + 13 + 4 * e + 1) (n1 := 6000) (b := 0) (n := (E e).2.2.2.2.1.toNat) (g := fun k => (E e).2.2.2.2.2 k) r4.2 (by omega) (by decide) (fun k hk => ⟨s2 k (by omega) (by omega), by rw [show ((0 : Nat) : Int) + (k : Int) = k by omega, atB _ _ (by omega) (by omega)]; exact c6 k (by omega) (by omega)⟩) ho (by decide) (by rw [wtPuts_1]; omega) y3
  have z0 : 0 ≤ (wtPuts (fun k => (E e).2.2.2.2.2 k) (E e).2.2.2.2.1.toNat (wtPuts (fun k => bnA (fun j => (E e).2.1 j) nn m1 m2 m3 (E e).2.2.1 (E e).2.2.2.2.1 (E e).2.2.2.1 k) 60 w)).1 := by rw [wtPuts_1, wtPuts_1]; omega
  obtain ⟨B3, p1, p2, p3⟩ := cw_put (q := q) 10 ho (by decide) z0 z3
  have xB2 : EX (Xtp sh o) A B2 := xB1.trans (z2.mono (fun a k y => Or.inr y))
  have xB3 : EX (Xtp sh o) A B3 := xB2.trans (p2.mono (fun a k y => Or.inr y))
  have e5 : B1.1 (sh + 13 + 4 * e) 1 = (E e).2.2.2.2.1 := by rw [atB _ _ (by omega) (by omega)]; exact c5
  have e6 : B2.1 (sh + 13 + 4 * e) 1 = (E e).2.2.2.2.1 := by rw [z2.2 _ _ (by unfold XRo; omega)]; exact e5
  have e7 : w32 (Int.tmod (w32 (B2.1 (sh + 13 + 4 * e) 1)) (w32 2)) = (E e).2.2.2.2.1 % 2 := by
    rw [e6, show w32 2 = 2 by decide, w32_of (x := (E e).2.2.2.2.1) (by omega), Int.tmod_eq_emod_of_nonneg (by omega), w32_of (by omega)]
  rw [show ((0 : Nat) : Int) + (((E e).2.2.2.2.1.toNat : Nat) : Int) = (E e).2.2.2.2.1 by omega] at z1
  -- the way to the end of the row
  have way : ∀ (R : Option Value) (S' : ms), ((¬ (E e).2.2.2.2.1 % 2 = 1) → EV q 188 227 [some (.ref sh), some (.ref o), some (vI e), some (vI nn)] [] B2 R S') ∧ ((¬ ¬ (E e).2.2.2.2.1 % 2 = 1) → ∃ S43 : ms, EV q 19 0 [some (.ref o), some (vI 10)] [] B2 none S43 ∧ EV q 188 227 [some (.ref sh), some (.ref o), some (vI e), some (vI nn)] [] S43 R S') → EV q 188 14 [some (.ref sh), some (.ref o), some (vI e), none] [] A R S' := fun R S' hh => by
    refine vc_Shelf_writeBench_14 _ _ is _ _ ho ?_
    rw [hC.1, ee (), show w32 (n : Int) = n from w32_of (by omega)]
    refine cNo (by omega) ⟨A0, f0, a3 _ _ (vc_Shelf_writeBench_75 _ _ _ is _ _ ho ⟨by rw [ee ()]; omega, sh + 11 + 4 * e, 100, r1', r2, ?_⟩)⟩
    have en : w32 (min (w32 (A1.1 (sh + 11 + 4 * e) 1)) (w32 15)) = nn := by
      rw [(x0.trans a1).2 _ _ (by omega), c1, enI, show w32 15 = 15 by decide, show w32 (nn : Int) = nn from w32_of (by omega), show min (nn : Int) 15 = nn by omega, show w32 (nn : Int) = nn from w32_of (by omega)]
    rw [en]
    refine ⟨by omega, fun S6 q6 => ?_⟩
    rw [← e2] at q6
    rw [q6, ee (), x2.2 (sh + 4) _ (by omega), c4]
    refine ⟨by omega, A3, b3, A4, d3, A5, i3, by omega, A6, ?_, by omega, sh + 13 + 4 * e, 6000, by rw [show ((e : Int)).toNat = e by omega]; exact r3, r4, A7, ?_, by decide, fun S24 q24 => ⟨by decide, fun S26 q26 => ?_⟩⟩
    · rw [x5.2 (sh + 3) _ (by omega), c3]
      exact j3
    · rw [x6.2 (sh + 13 + 4 * e) 1 (by omega), c5]
      exact l3
    · rw [show w32 58 = 58 by decide, ← e8] at q24
      rw [show w32 59 = 59 by decide, q24, ← e9] at q26
      rw [q26]
      refine ⟨B1, y1, by omega, sh + 13 + 4 * e, 6000, by rw [show ((e : Int)).toNat = e by omega]; exact r3, r4, by omega, sh + 13 + 4 * e, 6000, by rw [show ((e : Int)).toNat = e by omega]; exact r3, r4, B2, by rw [e5]; exact z1, by omega, sh + 13 + 4 * e, 6000, by rw [show ((e : Int)).toNat = e by omega]; exact r3, r4, ?_⟩
      rw [e7]
      exact hh
  by_cases c : (E e).2.2.2.2.1 % 2 = 1
  · refine ⟨B3, xB3, ?_, fun R S' kk => way R S' (cNN c ⟨B3, p1, vc_Shelf_writeBench_227 _ _ _ is _ _ ho kk⟩)⟩
    unfold bnG
    rw [c, ← enn]
    exact p3
  · refine ⟨B2, xB2, ?_, fun R S' kk => way R S' (cY c (vc_Shelf_writeBench_227 _ _ _ is _ _ ho kk))⟩
    unfold bnG
    rw [show (E e).2.2.2.2.1 % 2 = 0 by omega, ← enn]
    exact z3
end WrH
