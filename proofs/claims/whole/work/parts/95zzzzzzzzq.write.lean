/-! write: BENCH, the reference; what fits; whole -/
section WrI
variable {q : Nat × (Nat → Int32)} {n : Nat} {E : Nat → En} {w : Wt}
theorem md_bnE {B : ms} {e m1 m2 m3 : Nat} (hn : n ≤ 16) (he : e < n) (hok : EnOk (E e)) (h15 : (E e).1 ≤ 15) (hM : bnM m1 m2 m3 (E e).2.2.1 (E e).2.2.2.2.1 (E e).2.2.2.1) (hC : ShN B n E) (hw : 0 ≤ w.1 ∧ w.1 ≤ 12000) (h : MWt B w) : ∃ B', EX XW B B' ∧ MWt B' (bnG (E e) m1 m2 m3 w) ∧ ∀ (R : Option Value) (S' : ms), EV q 388 25 [some (.ref 367), some (vI ((e : Int) + 1)), none] [] B' R S' → EV q 388 25 [some (.ref 367), some (vI e), none] [] B R S' := by
  have ee : Unit → w32 (e : Int) = e := fun _ => w32_of (by omega)
  obtain ⟨⟨c1, c2⟩, ⟨c3, c4⟩, c5, c6⟩ := hC.2 e he
  obtain ⟨⟨n1, n2⟩, s1, s2, u1, t1⟩ := hok
  obtain ⟨⟨v1, v2⟩, ⟨v3, v4⟩, v5, v6⟩ := hM
  have hw2 : 0 ≤ w.1 ∧ w.1 ≤ 20000 := by omega
  obtain ⟨nn, enn⟩ : ∃ nn : Nat, nn = (E e).1.toNat := ⟨_, rfl⟩
  have enI : (E e).1 = (nn : Int) := by omega
  have q1 := v1.1
  have q2 := v3.1
  have q3 := v5.1
  obtain ⟨F, eF⟩ : ∃ F : Nat → Int, ∀ k : Nat, F k = bnA (fun j => (E e).2.1 j) nn m1 m2 m3 (E e).2.2.1 (E e).2.2.2.2.1 (E e).2.2.2.1 k := ⟨_, fun _ => rfl⟩
  have F32 : ∀ k : Nat, (nn < k ∧ k < 16) ∨ (16 + m1 ≤ k ∧ k < 28) ∨ (29 ≤ k ∧ k < 34) ∨ (35 ≤ k ∧ k < 40) ∨ (40 + m2 ≤ k ∧ k < 48) ∨ (48 + m3 ≤ k ∧ k < 58) → F k = 32 := fun k hk => by
    rw [eF]
    unfold bnA
    rw [cW_n (by omega), cW_n (by omega), cW_n (by omega), cW_n (by omega), cW_n (by omega), cW_n (by omega), cW_n (by omega), cW_n (by omega), cW_n (by omega)]
  have F0 : ∀ k : Nat, k < nn → F k = (E e).2.1 k := fun k hk => by
    rw [eF]
    unfold bnA
    rw [cW_n (by omega), cW_n (by omega), cW_n (by omega), cW_n (by omega), cW_n (by omega), cW_n (by omega), cW_n (by omega), cW_n (by omega), cW_y (by omega), show ((k : Int) - ((0 : Nat) : Int)).toNat = k by omega]
  have F47 : F nn = 47 := by
    rw [eF]
    unfold bnA
    rw [cW_n (by omega), cW_n (by omega), cW_n (by omega), cW_n (by omega), cW_n (by omega), cW_n (by omega), cW_n (by omega), cW_y (by omega)]
  have F1 : ∀ k : Nat, k < m1 → F (16 + k) = dgF 10 (E e).2.2.2.1 m1 k := fun k hk => by
    rw [eF]
    unfold bnA
    rw [cW_n (by omega), cW_n (by omega), cW_n (by omega), cW_n (by omega), cW_n (by omega), cW_n (by omega), cW_y (by omega), show (((16 + k : Nat) : Int) - ((16 : Nat) : Int)).toNat = k by omega]
  have F2 : ∀ k : Nat, k < 1 → F (28 + k) = dgF 10 0 1 k := fun k hk => by
    rw [eF]
    unfold bnA
    rw [cW_n (by omega), cW_n (by omega), cW_n (by omega), cW_n (by omega), cW_n (by omega), cW_y (by omega), show (((28 + k : Nat) : Int) - ((28 : Nat) : Int)).toNat = k by omega]
  have F3 : ∀ k : Nat, k < 1 → F (34 + k) = dgF 10 0 1 k := fun k hk => by
    rw [eF]
    unfold bnA
    rw [cW_n (by omega), cW_n (by omega), cW_n (by omega), cW_n (by omega), cW_y (by omega), show (((34 + k : Nat) : Int) - ((34 : Nat) : Int)).toNat = k by omega]
  have F4 : ∀ k : Nat, k < m2 → F (40 + k) = dgF 8 (E e).2.2.1 m2 k := fun k hk => by
    rw [eF]
    unfold bnA
    rw [cW_n (by omega), cW_n (by omega), cW_n (by omega), cW_y (by omega), show (((40 + k : Nat) : Int) - ((40 : Nat) : Int)).toNat = k by omega]
  have F5 : ∀ k : Nat, k < m3 → F (48 + k) = dgF 10 (E e).2.2.2.2.1 m3 k := fun k hk => by
    rw [eF]
    unfold bnA
    rw [cW_n (by omega), cW_n (by omega), cW_y (by omega), show (((48 + k : Nat) : Int) - ((48 : Nat) : Int)).toNat = k by omega]
  have F6 : F 58 = 96 := by
    rw [eF]
    unfold bnA
    rw [cW_n (by omega), cW_y (by omega)]
  have F7 : F 59 = 10 := by
    rw [eF]
    unfold bnA
    rw [cW_y (by omega)]
  obtain ⟨B1, a1, a2, -, a3⟩ := md_nmO (q := q) (w := w) (g := fun j => (E e).2.1 j) (e := e) (n := nn) (by omega) (by omega) (by omega) nn 0 B (by omega) (by rw [c1]; exact enI) (fun k hk => c2 k (by omega) (by omega)) h
  rw [wtPuts_cg (g := F) nn (fun k hk => by rw [F0 k hk])] at a2
  obtain ⟨B2, b1, b2, b3⟩ := md_segP (q := q) (v := 47) (i := nn) hw2 (by omega) (by rw [F47]) a2
  obtain ⟨B3, d1, d2, d3⟩ := md_segF (q := q) (v := 32) (m := 16 - (nn + 1)) hw2 (by omega) (fun k hk => by rw [F32 _ (by omega)]) b2
  rw [show nn + 1 + (16 - (nn + 1)) = 16 by omega] at d2 d3
  have x3 := (a1.trans b1).trans d1
  obtain ⟨B4, f1, f2, f3⟩ := md_segT (q := q) (b := 10) (v := (E e).2.2.2.1) (m := m1) (n := 12) (i := 16) (Or.inr rfl) (by omega) v1 (by omega) (by omega) (by decide) hw2 (fun k hk => by rw [F1 k hk]) (fun k h1 h2 => by rw [F32 _ (by omega)]) d2
  obtain ⟨B5, i1, i2, i3⟩ := md_segT (q := q) (b := 10) (v := 0) (m := 1) (n := 6) (i := 28) (Or.inr rfl) (by decide) Nd_0 (by decide) (by decide) (by decide) hw2 (fun k hk => by rw [F2 k hk]) (fun k h1 h2 => by rw [F32 _ (by omega)]) f2
  obtain ⟨B6, j1, j2, j3⟩ := md_segT (q := q) (b := 10) (v := 0) (m := 1) (n := 6) (i := 34) (Or.inr rfl) (by decide) Nd_0 (by decide) (by decide) (by decide) hw2 (fun k hk => by rw [F3 k hk]) (fun k h1 h2 => by rw [F32 _ (by omega)]) i2
  have x6 := ((x3.trans f1).trans i1).trans j1
  obtain ⟨B7, l1, l2, l3⟩ := md_segT (q := q) (b := 8) (v := (E e).2.2.1) (m := m2) (n := 8) (i := 40) (Or.inl rfl) (by omega) v3 (by omega) (by omega) (by decide) hw2 (fun k hk => by rw [F4 k hk]) (fun k h1 h2 => by rw [F32 _ (by omega)]) j2
  have x7 := x6.trans l1
  obtain ⟨B8, o1, o2, o3⟩ := md_segT (q := q) (b := 10) (v := (E e).2.2.2.2.1) (m := m3) (n := 10) (i := 48) (Or.inr rfl) (by omega) v5 (by omega) (by omega) (by decide) hw2 (fun k hk => by rw [F5 k hk]) (fun k h1 h2 => by rw [F32 _ (by omega)]) l2
  obtain ⟨B9, p1, p2, p3⟩ := md_segP (q := q) (v := 96) (i := 58) hw2 (by decide) (by rw [F6]) o2
  obtain ⟨C, r1, r2, r3⟩ := md_segP (q := q) (v := 10) (i := 59) hw2 (by decide) (by rw [F7]) p2
  have xC := ((x7.trans o1).trans p1).trans r1
  have atC : ∀ (a : Nat) (k : Int), 419 ≤ a → C.1 a k = B.1 a k := fun a k y => xC.2 a k (by unfold XW; omega)
  have r2' : MWt C (wtPuts F 60 w) := r2
  rw [wtPuts_cg (g := fun k => bnA (fun j => (E e).2.1 j) (E e).1.toNat m1 m2 m3 (E e).2.2.1 (E e).2.2.2.2.1 (E e).2.2.2.1 k) 60 (fun k hk => by rw [eF, enn])] at r2'
  obtain ⟨C2, y1, y2, y3⟩ := md_txO (q := q) (g := fun k => (E e).2.2.2.2.2 k) (e := e) (n := (E e).2.2.2.2.1.toNat) (w := wtPuts (fun k => bnA (fun j => (E e).2.1 j) (E e).1.toNat m1 m2 m3 (E e).2.2.1 (E e).2.2.2.2.1 (E e).2.2.2.1 k) 60 w) (by rw [wtPuts_1]; omega) (by omega) (by omega) (E e).2.2.2.2.1.toNat 0 C (by omega) (by rw [atC _ _ (by omega), c5]; omega) (fun k hk => by rw [atC _ _ (by omega)]; exact c6 k (by omega) (by omega)) r2'
  have z0 : 0 ≤ (wtPuts (fun k => (E e).2.2.2.2.2 k) (E e).2.2.2.2.1.toNat (wtPuts (fun k => bnA (fun j => (E e).2.1 j) (E e).1.toNat m1 m2 m3 (E e).2.2.1 (E e).2.2.2.2.1 (E e).2.2.2.1 k) 60 w)).1 ∧ (wtPuts (fun k => (E e).2.2.2.2.2 k) (E e).2.2.2.2.1.toNat (wtPuts (fun k => bnA (fun j => (E e).2.1 j) (E e).1.toNat m1 m2 m3 (E e).2.2.1 (E e).2.2.2.2.1 (E e).2.2.2.1 k) 60 w)).1 < 1000000000 := by rw [wtPuts_1, wtPuts_1]; omega
  obtain ⟨C3, z1, z2, z3⟩ := mw_put (q := q) 10 z0 y2
  have e7 : w32 (Int.tmod (w32 (C2.1 424 (e : Int))) (w32 2)) = (E e).2.2.2.2.1 % 2 := by
    rw [y1.2 424 _ (by unfold XW; omega), atC _ _ (by omega), c5, show w32 2 = 2 by decide, w32_of (x := (E e).2.2.2.2.1) (by omega), Int.tmod_eq_emod_of_nonneg (by omega), w32_of (by omega)]
  have way : ∀ (R : Option Value) (S' : ms) (x2 : Int), ((¬ (E e).2.2.2.2.1 % 2 = 1) → EV q 388 167 [some (.ref 367), some (vI e), some (vI (B.1 367 9))] [] C2 R S') ∧ ((¬ ¬ (E e).2.2.2.2.1 % 2 = 1) → ∃ S27 : ms, EV q 282 0 [some (.ref 367), some (vI 10)] [] C2 none S27 ∧ EV q 388 167 [some (.ref 367), some (vI e), some (vI (B.1 367 9))] [] S27 R S') → EV q 388 25 [some (.ref 367), some (vI e), none] [] B R S' := fun R S' _ hh => by
    refine vc_MD_writeBench_25 _ ?_
    rw [hC.1, ee (), show w32 (n : Int) = n from w32_of (by omega)]
    refine cNo (by omega) (cNo (by rw [h.1, w32_of (x := w.1) (by omega)]; omega) ⟨B1, vc_MD_nameOf _ a3, B2, b3, B3, by rw [h.1]; exact d3 _ (by omega), by omega, B4, ?_, B5, i3, B6, j3, by omega, B7, ?_, by omega, B8, ?_, B9, p3, C, r3, C2, vc_MD_textOf _ y3, by omega, ?_⟩)
    · rw [x3.2 422 _ (by unfold XW; omega), c4, w32_of (x := (E e).2.2.2.1) (by omega)]
      exact f3
    · rw [x6.2 421 _ (by unfold XW; omega), c3, w32_of (x := (E e).2.2.1) (by omega)]
      exact l3
    · rw [x7.2 424 _ (by unfold XW; omega), c5, w32_of (x := (E e).2.2.2.2.1) (by omega)]
      exact o3
    · rw [e7]
      exact hh
  by_cases c : (E e).2.2.2.2.1 % 2 = 1
  · refine ⟨C3, (xC.trans y1).trans z2, ?_, fun R S' kk => way R S' 0 (cNN c ⟨C3, z1, vc_MD_writeBench_167 _ _ kk⟩)⟩
    unfold bnG
    rw [c]
    exact z3
  · refine ⟨C2, xC.trans y1, ?_, fun R S' kk => way R S' 0 (cY c (vc_MD_writeBench_167 _ _ kk))⟩
    unfold bnG
    rw [show (E e).2.2.2.2.1 % 2 = 0 by omega]
    exact y2
/-- which names fit -/
def nmF (E : En) : Nat → Int
  | 0 => if E.1 ≤ 15 then 1 else 0
  | k + 1 => if E.2.1 k = 47 ∨ E.2.1 k = 32 then 0 else nmF E k
theorem nmF_s (E : En) (k : Nat) : nmF E (k + 1) = if E.2.1 k = 47 ∨ E.2.1 k = 32 then 0 else nmF E k := rfl
theorem nmF_r (E : En) : ∀ k : Nat, (nmF E k = 0 ∨ nmF E k = 1) ∧ (nmF E k = 1 → E.1 ≤ 15)
  | 0 => by
    show ((if E.1 ≤ 15 then (1 : Int) else 0) = 0 ∨ (if E.1 ≤ 15 then (1 : Int) else 0) = 1) ∧ ((if E.1 ≤ 15 then (1 : Int) else 0) = 1 → E.1 ≤ 15)
    by_cases c : E.1 ≤ 15
    · rw [if_pos c]; exact ⟨Or.inr rfl, fun _ => c⟩
    · rw [if_neg c]; exact ⟨Or.inl rfl, fun y => absurd y (by decide)⟩
  | k + 1 => by
    rw [nmF_s]
    by_cases c : E.2.1 k = 47 ∨ E.2.1 k = 32
    · rw [if_pos c]; exact ⟨Or.inl rfl, fun y => absurd y (by decide)⟩
    · rw [if_neg c]; exact nmF_r E k
def bnO (E : Nat → En) : Nat → Nat → Int
  | 0, _ => 1
  | d + 1, i => if nmF (E i) (E i).1.toNat = 0 then 0 else bnO E d (i + 1)
theorem bnO_s (E : Nat → En) (d i : Nat) : bnO E (d + 1) i = if nmF (E i) (E i).1.toNat = 0 then 0 else bnO E d (i + 1) := rfl
theorem bnO_r (E : Nat → En) : ∀ d i : Nat, (bnO E d i = 0 ∨ bnO E d i = 1) ∧ (bnO E d i = 1 → ∀ e : Nat, i ≤ e → e < i + d → (E e).1 ≤ 15)
  | 0, i => ⟨Or.inr rfl, fun _ e h1 h2 => absurd h2 (by omega)⟩
  | d + 1, i => by
    rw [bnO_s]
    by_cases c : nmF (E i) (E i).1.toNat = 0
    · rw [if_pos c]; exact ⟨Or.inl rfl, fun y => absurd y (by decide)⟩
    · rw [if_neg c]
      have a := bnO_r E d (i + 1)
      have b := nmF_r (E i) (E i).1.toNat
      refine ⟨a.1, fun y e h1 h2 => ?_⟩
      by_cases c1 : e = i
      · rw [c1]; exact b.2 (by omega)
      · exact a.2 y e (by omega) (by omega)
theorem bA_01 : bA 0 1 = 0 ∧ bA 1 1 = 1 ∧ bA 0 0 = 0 ∧ bA 1 0 = 0 := by decide
theorem cl_fit1 {A : ms} {sh e : Nat} (hs : isSh sh) (hn : n ≤ 16) (he : e < n) (hok : EnOk (E e)) (hC : ShC A sh n E) {R : Option Value} {S' : ms} : ∀ (r i : Nat), i + r = (E e).1.toNat → EV q 182 32 [some (.ref sh), some (vI e), some (vI (nmF (E e) (E e).1.toNat)), some (vI ((E e).1.toNat : Nat))] [] A R S' → EV q 182 32 [some (.ref sh), some (vI e), some (vI (nmF (E e) i)), some (vI i)] [] A R S' := by
  have is := isSh_is hs
  obtain ⟨r1, r2, r3, r4⟩ := sh_nm hs (show e < 16 by omega)
  have ee : Unit → w32 (e : Int) = e := fun _ => w32_of (by omega)
  have r1' : sh_r (SH (sh + 1)).2.2 (w32 (e : Int)).toNat = some (sh + 11 + 4 * e) := by rw [ee ()]; exact r1
  obtain ⟨⟨c1, c2⟩, -, -, -⟩ := hC.2 e he
  obtain ⟨⟨n1, n2⟩, -⟩ := hok
  intro r
  induction r with
  | zero =>
    intro i hi k
    rw [show i = (E e).1.toNat by omega]
    exact k
  | succ r ih =>
    intro i hi k
    have g := ih (i + 1) (by omega) k
    rw [nmF_s, show ((i + 1 : Nat) : Int) = (i : Int) + 1 by omega] at g
    have b := (nmF_r (E e) i).1
    have nr := n2 i (by omega) (by omega)
    have cv := c2 i (by omega) (by omega)
    have k83 : ∀ y : Int, (y = if (E e).2.1 i = 47 ∨ (E e).2.1 i = 32 then 0 else 1) → EV q 182 83 [some (.ref sh), some (vI e), some (vI (nmF (E e) i)), some (vI i)] [vI y, vI (nmF (E e) i)] A R S' := fun y ey => by
      refine vc_Shelf_fitsBench_83 _ _ _ _ _ _ is ?_
      have e3 : bA (nmF (E e) i) y = if (E e).2.1 i = 47 ∨ (E e).2.1 i = 32 then 0 else nmF (E e) i := by
        by_cases c : (E e).2.1 i = 47 ∨ (E e).2.1 i = 32
        · rw [if_pos c] at ey ⊢
          rw [ey]
          rcases b with b | b <;> rw [b]
          · exact bA_01.2.2.1
          · exact bA_01.2.2.2
        · rw [if_neg c] at ey ⊢
          rw [ey]
          rcases b with b | b <;> rw [b]
          · exact bA_01.1
          · exact bA_01.2.1
      rw [e3]
      exact g
    refine vc_Shelf_fitsBench_32 _ _ _ _ is ⟨by rw [ee ()]; omega, sh + 11 + 4 * e, 100, r1', r2, ?_⟩
    rw [c1, w32_of (x := (E e).1) (by omega), show w32 (i : Int) = i from w32_of (by omega)]
    refine cNo (by omega) ⟨by rw [ee ()]; omega, sh + 11 + 4 * e, 100, r1', r2, by omega, ?_⟩
    rw [cv, w32_of (x := (E e).2.1 i) (by omega)]
    by_cases d1 : (E e).2.1 i = 47
    · exact cY d1 (vc_Shelf_fitsBench_82 _ _ _ _ _ is (k83 0 (by rw [if_pos (Or.inl d1)])))
    · refine cNo d1 ⟨by rw [ee ()]; omega, sh + 11 + 4 * e, 100, r1', r2, by omega, ?_⟩
      rw [cv, w32_of (x := (E e).2.1 i) (by omega)]
      by_cases d2 : (E e).2.1 i = 32
      · exact cY d2 (vc_Shelf_fitsBench_82 _ _ _ _ _ is (k83 0 (by rw [if_pos (Or.inr d2)])))
      · exact cNo d2 (k83 1 (by rw [if_neg (by omega)]))
theorem cl_fits {A : ms} {sh : Nat} (hs : isSh sh) (hn : n ≤ 16) (hE : ∀ e : Nat, e < n → EnOk (E e)) (hC : ShC A sh n E) : ∀ (d i : Nat), i + d = n → EV q 182 2 [some (.ref sh), some (vI i), none, none] [] A (some (vI (bnO E d i))) A := by
  have is := isSh_is hs
  intro d
  induction d with
  | zero =>
    intro i hi
    refine vc_Shelf_fitsBench_2 _ _ is ?_
    rw [hC.1, show i = n by omega]
    exact cY (Int.le_refl _) ⟨rfl, rfl⟩
  | succ d ih =>
    intro i hi
    have g := ih (i + 1) (by omega)
    rw [show ((i + 1 : Nat) : Int) = (i : Int) + 1 by omega] at g
    obtain ⟨r1, r2, r3, r4⟩ := sh_nm hs (show i < 16 by omega)
    have ee : Unit → w32 (i : Int) = i := fun _ => w32_of (by omega)
    have r1' : sh_r (SH (sh + 1)).2.2 (w32 (i : Int)).toNat = some (sh + 11 + 4 * i) := by rw [ee ()]; exact r1
    obtain ⟨⟨c1, c2⟩, -, -, -⟩ := hC.2 i (by omega)
    have hok := hE i (by omega)
    have n1 := hok.1.1
    have b := (nmF_r (E i) (E i).1.toNat).1
    have k32 : EV q 182 32 [some (.ref sh), some (vI i), some (vI (nmF (E i) (E i).1.toNat)), some (vI ((E i).1.toNat : Nat))] [] A (some (vI (bnO E (d + 1) i))) A := by
      refine vc_Shelf_fitsBench_32 _ _ _ _ is ⟨by rw [ee ()]; omega, sh + 11 + 4 * i, 100, r1', r2, ?_⟩
      rw [c1, w32_of (x := (E i).1) (by omega), w32_of (x := (((E i).1.toNat : Nat) : Int)) (by omega)]
      refine cY (by omega) ?_
      rw [bnO_s]
      rcases b with b | b
      · rw [b, if_pos rfl]
        exact cNN (by decide) ⟨rfl, rfl⟩
      · rw [b, if_neg (by decide)]
        exact cY (by decide) g
    have k32' := cl_fit1 (q := q) hs hn (show i < n by omega) hok hC (E i).1.toNat 0 (by omega) k32
    refine vc_Shelf_fitsBench_2 _ _ is ?_
    rw [hC.1, ee (), show w32 (n : Int) = n from w32_of (by omega)]
    refine cNo (by omega) ⟨by omega, sh + 11 + 4 * i, 100, by rw [show ((i : Int)).toNat = i by omega]; exact r1, r2, ?_⟩
    rw [c1, w32_of (x := (E i).1) (by omega)]
    by_cases c : 16 ≤ (E i).1
    · have e0 : nmF (E i) 0 = 0 := if_neg (by omega)
      rw [e0] at k32'
      exact cY c (vc_Shelf_fitsBench_29 _ _ _ is k32')
    · have e0 : nmF (E i) 0 = 1 := if_pos (by omega)
      rw [e0] at k32'
      exact cNo c (vc_Shelf_fitsBench_29 _ _ _ is k32')
theorem md_can1 {B : ms} {e : Nat} (hn : n ≤ 16) (he : e < n) (hok : EnOk (E e)) (hC : ShN B n E) {R : Option Value} {S' : ms} (z : Int) (hz : z = 0 ∨ z = 1) : ∀ (r i : Nat), i + r = (E e).1.toNat → EV q 381 4 [some (.ref 367), some (vI (if z = 0 then 0 else nmF (E e) (E e).1.toNat)), some (vI ((e : Int) + 1)), none] [] B R S' → EV q 381 35 [some (.ref 367), some (vI (if z = 0 then 0 else nmF (E e) i)), some (vI e), some (vI i)] [] B R S' := by
  have ee : Unit → w32 (e : Int) = e := fun _ => w32_of (by omega)
  obtain ⟨⟨c1, c2⟩, -, -, -⟩ := hC.2 e he
  obtain ⟨⟨n1, n2⟩, -⟩ := hok
  intro r
  induction r with
  | zero =>
    intro i hi k
    have ei : i = (E e).1.toNat := by omega
    refine vc_MD_canBench_35 _ _ _ ?_
    rw [ee (), c1, w32_of (x := (E e).1) (by omega), show w32 (i : Int) = i from w32_of (by omega)]
    rw [← ei] at k
    exact ⟨by omega, cY (by omega) k⟩
  | succ r ih =>
    intro i hi k
    have g := ih (i + 1) (by omega) k
    rw [nmF_s, show ((i + 1 : Nat) : Int) = (i : Int) + 1 by omega] at g
    have b := (nmF_r (E e) i).1
    have nr := n2 i (by omega) (by omega)
    have cv := c2 i (by omega) (by omega)
    obtain ⟨y, ey⟩ : ∃ y : Int, y = if z = 0 then 0 else nmF (E e) i := ⟨_, rfl⟩
    have yr : y = 0 ∨ y = 1 := by
      rw [ey]
      by_cases c : z = 0
      · rw [if_pos c]; exact Or.inl rfl
      · rw [if_neg c]; exact b
    obtain ⟨y', ey'⟩ : ∃ y' : Int, y' = if z = 0 then 0 else if (E e).2.1 i = 47 ∨ (E e).2.1 i = 32 then 0 else nmF (E e) i := ⟨_, rfl⟩
    rw [← ey'] at g
    rw [← ey]
    have k85 : y' = 0 → EV q 381 85 [some (.ref 367), some (vI y), some (vI e), some (vI i)] [] B R S' := fun h0 => by
      rw [h0] at g
      exact vc_MD_canBench_85 _ _ _ (vc_MD_canBench_86 _ _ _ _ g)
    refine vc_MD_canBench_35 _ _ _ ?_
    rw [ee (), c1, w32_of (x := (E e).1) (by omega), show w32 (i : Int) = i from w32_of (by omega), w32_of (x := 100 * (e : Int) + i) (by omega), cv, w32_of (x := y) (by omega), w32_of (x := b8 ((E e).2.1 i)) (by have := b8_rg ((E e).2.1 i); omega)]
    refine ⟨by omega, cNo (by omega) ?_⟩
    by_cases c0 : y = 0
    · refine cY c0 (k85 ?_)
      rw [ey']
      rw [ey] at c0
      by_cases c : z = 0
      · rw [if_pos c]
      · rw [if_neg c] at c0 ⊢
        rw [c0]
        split <;> rfl
    · have cz : ¬ z = 0 := fun y0 => c0 (by rw [ey, if_pos y0])
      have e1 : nmF (E e) i = 1 := by
        rw [ey, if_neg cz] at c0
        omega
      rw [if_neg cz] at ey'
      refine cNo c0 ⟨by omega, ?_⟩
      by_cases d1 : (E e).2.1 i = 47
      · exact cY (by rw [d1]; decide) (k85 (by rw [ey', if_pos (Or.inl d1)]))
      · refine cNo (by unfold b8; omega) ⟨by omega, ?_⟩
        by_cases d2 : (E e).2.1 i = 32
        · exact cY (by rw [d2]; decide) (k85 (by rw [ey', if_pos (Or.inr d2)]))
        · rw [if_neg (by omega), e1] at ey'
          rw [ey'] at g
          exact cNo (by unfold b8; omega) (vc_MD_canBench_86 _ _ _ _ g)
theorem md_can {B : ms} (hn : n ≤ 16) (hE : ∀ e : Nat, e < n → EnOk (E e)) (hC : ShN B n E) : ∀ (d i : Nat) (z : Int), i + d = n → (z = 0 ∨ z = 1) → EV q 381 4 [some (.ref 367), some (vI z), some (vI i), none] [] B (some (vI (if z = 0 then 0 else bnO E d i))) B := by
  intro d
  induction d with
  | zero =>
    intro i z hi hz
    refine vc_MD_canBench_4 _ _ ?_
    rw [hC.1, show i = n by omega]
    refine cY (Int.le_refl _) ⟨hz, ?_, rfl⟩
    rcases hz with e | e
    · rw [e, if_pos rfl]
    · rw [e, if_neg (by decide)]; rfl
  | succ d ih =>
    intro i z hi hz
    have ee : Unit → w32 (i : Int) = i := fun _ => w32_of (by omega)
    obtain ⟨⟨c1, c2⟩, -, -, -⟩ := hC.2 i (by omega)
    have hok := hE i (by omega)
    have n1 := hok.1.1
    have b := (nmF_r (E i) (E i).1.toNat).1
    obtain ⟨z', ez'⟩ : ∃ z' : Int, z' = if z = 0 then 0 else nmF (E i) (E i).1.toNat := ⟨_, rfl⟩
    have g := ih (i + 1) z' (by omega) (by
      rw [ez']
      by_cases c : z = 0
      · rw [if_pos c]; exact Or.inl rfl
      · rw [if_neg c]; exact b)
    have ef : (if z' = 0 then 0 else bnO E d (i + 1)) = if z = 0 then 0 else bnO E (d + 1) i := by
      rw [bnO_s, ez']
      by_cases c : z = 0
      · rw [if_pos c, if_pos c, if_pos rfl]
      · rw [if_neg c, if_neg c]
    rw [ef, ez', show ((i + 1 : Nat) : Int) = (i : Int) + 1 by omega] at g
    have k35 := md_can1 (q := q) hn (show i < n by omega) hok hC z hz (E i).1.toNat 0 (by omega) g
    have k32 : ∀ y : Int, y = (if z = 0 then 0 else nmF (E i) 0) → EV q 381 32 [some (.ref 367), some (vI z), some (vI i), none] [vI y] B (some (vI (if z = 0 then 0 else bnO E (d + 1) i))) B := fun y ey => by
      rw [ey]
      exact vc_MD_canBench_32 _ _ _ k35
    refine vc_MD_canBench_4 _ _ ?_
    rw [hC.1, ee (), show w32 (n : Int) = n from w32_of (by omega), c1, w32_of (x := (E i).1) (by omega), w32_of (x := z) (by omega)]
    refine cNo (by omega) ?_
    by_cases c : z = 0
    · exact cY c (vc_MD_canBench_31 _ _ (k32 0 (by rw [if_pos c])))
    · refine cNo c ⟨by omega, ?_⟩
      by_cases c5 : 15 < (E i).1
      · exact cY c5 (vc_MD_canBench_31 _ _ (k32 0 (by rw [if_neg c]; exact (if_neg (by omega)).symm)))
      · exact cNo c5 (k32 1 (by rw [if_neg c]; exact (if_pos (by omega)).symm))
end WrI
