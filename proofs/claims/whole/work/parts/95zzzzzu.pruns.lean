/-! pack: RUNS -/
section PRun
variable {q : Nat × (Nat → Int32)} {x : Int} {t : Int → Int}
def TXc (A : ms) (x : Int) (t : Int → Int) : Prop := A.1 1 1 = x ∧ TC A x t
def TXm (B : ms) (x : Int) (t : Int → Int) : Prop := B.1 367 2 = x ∧ TM B x t
theorem TXc_e {A A' : ms} (h : TXc A x t) (e : ∀ (a : Nat) (k : Int), (a = 1 ∧ k = 1) ∨ a = 2 → A'.1 a k = A.1 a k) : TXc A' x t := ⟨by rw [e 1 1 (by omega)]; exact h.1, fun k k0 k1 => ⟨(h.2 k k0 k1).1, by rw [e 2 k (by omega)]; exact (h.2 k k0 k1).2⟩⟩
theorem TXm_e {B B' : ms} (h : TXm B x t) (e : ∀ (a : Nat) (k : Int), (a = 367 ∧ k = 2) ∨ a = 368 → B'.1 a k = B.1 a k) : TXm B' x t := ⟨by rw [e 367 2 (by omega)]; exact h.1, fun k k0 k1 => ⟨(h.2 k k0 k1).1, by rw [e 368 k (by omega)]; exact (h.2 k k0 k1).2⟩⟩
theorem TXc_x {o : Nat} {A A' : ms} (ho : 300 < o) (h : TXc A x t) (e : EX (XRo o) A A') : TXc A' x t := TXc_e h (fun a k y => e.2 a k (by unfold XRo; omega))
theorem TXm_x {B B' : ms} (h : TXm B x t) (e : EX XW B B') : TXm B' x t := TXm_e h (fun a k y => e.2 a k (by unfold XW; omega))
theorem tr_row : isRow 1 6000 := ⟨rfl, rfl⟩
/-- how many octets are alike from p on -/
theorem jalike {p most : Int} (hx : 0 ≤ x ∧ x ≤ 6000) (ht : ∀ k : Int, 0 ≤ k → k < x → 0 ≤ t k ∧ t k < 256) (hp : 0 ≤ p ∧ p < x) (hm : 1 ≤ most ∧ most ≤ 1000) : ∃ n : Int, (1 ≤ n ∧ n ≤ most ∧ p + n ≤ x) ∧ (∀ i : Int, 0 ≤ i → i < n → t (p + i) = t p) ∧ (n = most ∨ p + n = x ∨ t (p + n) ≠ t p) ∧ (∀ A : ms, TXc A x t → EV q 47 0 [some (.ref 1), some (vI p), some (vI most), none] [] A (some (vI n)) A) ∧ ∀ B : ms, TXm B x t → EV q 281 0 [some (.ref 368), some (vI p), some (vI x), some (vI most), none] [] B (some (vI n)) B := by
  have wm : w32 most = most := w32_of (by omega)
  have wx : w32 x = x := w32_of (by omega)
  have wp : w32 p = p := w32_of (by omega)
  have lp : ∀ (d : Nat) (j : Int), j + d = most → 1 ≤ j → p + j ≤ x → (∀ i : Int, 0 ≤ i → i < j → t (p + i) = t p) → ∃ n : Int, (1 ≤ n ∧ n ≤ most ∧ p + n ≤ x) ∧ (∀ i : Int, 0 ≤ i → i < n → t (p + i) = t p) ∧ (n = most ∨ p + n = x ∨ t (p + n) ≠ t p) ∧ (∀ A : ms, TXc A x t → EV q 47 2 [some (.ref 1), some (vI p), some (vI most), some (vI j)] [] A (some (vI n)) A) ∧ ∀ B : ms, TXm B x t → EV q 281 3 [some (.ref 368), some (vI p), some (vI x), some (vI most), some (vI j)] [] B (some (vI n)) B := by
    intro d
    induction d with
    | zero =>
      intro j hj h1 h2 h3
      have e : j = most := by omega
      subst e
      refine ⟨j, ⟨h1, Int.le_refl _, h2⟩, h3, Or.inl rfl, fun A hA => vc_Plain_alike_2 _ _ _ 1 6000 tr_row (cY (Int.le_refl _) ⟨rfl, rfl⟩), fun B hB => vc_MD_alike_3 _ _ _ _ 368 6000 rfl ?_⟩
      rw [wx, w32_of (x := p + j) (by omega)]
      exact ⟨fun _ => ⟨rfl, rfl⟩, fun _ => cY (Int.le_refl _) ⟨rfl, rfl⟩⟩
    | succ d ih =>
      intro j hj h1 h2 h3
      have wj : w32 j = j := w32_of (by omega)
      have wpj : w32 (p + j) = p + j := w32_of (by omega)
      by_cases c : p + j = x
      · refine ⟨j, ⟨h1, by omega, h2⟩, h3, Or.inr (Or.inl c), fun A hA => vc_Plain_alike_2 _ _ _ 1 6000 tr_row ?_, fun B hB => vc_MD_alike_3 _ _ _ _ 368 6000 rfl ?_⟩
        · rw [hA.1, wm, wj, wx, wpj]
          exact cNo (by omega) (cY (by omega) ⟨rfl, rfl⟩)
        · rw [wx, wpj]
          exact cY (by omega) ⟨rfl, rfl⟩
      have tp := ht p hp.1 hp.2
      have tj := ht (p + j) (by omega) (by omega)
      have eA : ∀ A : ms, TXc A x t → (w32 (A.1 2 (p + j)) = w32 (A.1 2 p) ↔ t (p + j) = t p) := fun A hA => by
        rw [(hA.2 p hp.1 hp.2).2, (hA.2 (p + j) (by omega) (by omega)).2, w32_of (x := t (p + j)) (by omega), w32_of (x := t p) (by omega)]
      have eB : ∀ B : ms, TXm B x t → (w32 (B.1 368 (p + j)) = w32 (B.1 368 p) ↔ t (p + j) = t p) := fun B hB => by
        rw [(hB.2 p hp.1 hp.2).2, (hB.2 (p + j) (by omega) (by omega)).2, w32_of (x := b8 (t (p + j))) (by have := b8_rg (t (p + j)); omega), w32_of (x := b8 (t p)) (by have := b8_rg (t p); omega)]
        exact b8_eq tj tp
      by_cases c2 : t (p + j) = t p
      · obtain ⟨n, i1, i2, i3, i4, i5⟩ := ih (j + 1) (by omega) (by omega) (by omega) (fun i i0 i1 => by
          by_cases e : i = j
          · rw [e]; exact c2
          · exact h3 i i0 (by omega))
        refine ⟨n, i1, i2, i3, fun A hA => vc_Plain_alike_2 _ _ _ 1 6000 tr_row ?_, fun B hB => vc_MD_alike_3 _ _ _ _ 368 6000 rfl ?_⟩
        · rw [hA.1, wm, wj, wx, wpj, wp]
          exact cNo (by omega) (cNo (by omega) ⟨by omega, by omega, cNN ((eA A hA).2 c2) (i4 A hA)⟩)
        · rw [wx, wpj, wm, wj, wp]
          exact cNo (by omega) (cNo (by omega) ⟨by omega, by omega, cNN ((eB B hB).2 c2) (i5 B hB)⟩)
      · refine ⟨j, ⟨h1, by omega, h2⟩, h3, Or.inr (Or.inr c2), fun A hA => vc_Plain_alike_2 _ _ _ 1 6000 tr_row ?_, fun B hB => vc_MD_alike_3 _ _ _ _ 368 6000 rfl ?_⟩
        · rw [hA.1, wm, wj, wx, wpj, wp]
          exact cNo (by omega) (cNo (by omega) ⟨by omega, by omega, cY (fun y => c2 ((eA A hA).1 y)) ⟨rfl, rfl⟩⟩)
        · rw [wx, wpj, wm, wj, wp]
          exact cNo (by omega) (cNo (by omega) ⟨by omega, by omega, cY (fun y => c2 ((eB B hB).1 y)) ⟨rfl, rfl⟩⟩)
  obtain ⟨n, i1, i2, i3, i4, i5⟩ := lp (most - 1).toNat 1 (by omega) (by omega) (by omega) (fun i i0 i1 => by rw [show p + i = p by omega])
  exact ⟨n, i1, i2, i3, fun A hA => vc_Plain_alike _ _ 1 6000 tr_row (i4 A hA), fun B hB => vc_MD_alike _ _ _ 368 6000 rfl (i5 B hB)⟩
/-- literals: as far as the next run, 128 at most -/
theorem jrunS {p : Int} (hx : 0 ≤ x ∧ x ≤ 6000) (ht : ∀ k : Int, 0 ≤ k → k < x → 0 ≤ t k ∧ t k < 256) (hp : 0 ≤ p ∧ p < x) : ∀ (d : Nat) (k0 : Int), k0 + d = p + 128 → p ≤ k0 → k0 ≤ x → ∃ k : Int, (k0 ≤ k ∧ k ≤ x ∧ k ≤ p + 128) ∧ (∀ (A : ms) (o : Nat) (x4 x5 : Int) (R : Option Value) (T : ms), isRow o 12000 → TXc A x t → EV q 46 107 [some (.ref 22), some (.ref 1), some (.ref o), some (vI p), some (vI x4), some (vI x5), some (vI k)] [] A R T → EV q 46 71 [some (.ref 22), some (.ref 1), some (.ref o), some (vI p), some (vI x4), some (vI x5), some (vI k0)] [] A R T) ∧ ∀ (B : ms) (x2 : Int) (R : Option Value) (T : ms), TXm B x t → EV q 280 99 [some (.ref 367), some (vI p), some (vI x2), some (vI k)] [] B R T → EV q 280 59 [some (.ref 367), some (vI p), some (vI x2), some (vI k0)] [] B R T := by
  have wx : w32 x = x := w32_of (by omega)
  have w3 : w32 3 = 3 := by decide
  intro d
  induction d with
  | zero =>
    intro k0 h1 h2 h3
    have wk : w32 k0 = k0 := w32_of (by omega)
    have wd : w32 (k0 - p) = k0 - p := w32_of (by omega)
    refine ⟨k0, ⟨by omega, h3, by omega⟩, fun A o x4 x5 R T ho hA k => vc_Plain_packRuns_71 _ _ _ _ 1 6000 tr_row _ _ ho ?_, fun B x2 R T hB k => vc_MD_packRuns_59 _ _ _ ?_⟩
    · rw [hA.1, wx, wk, wd]
      exact ⟨fun _ => k, fun _ => cY (by omega) k⟩
    · rw [hB.1, wx, wk, wd]
      exact ⟨fun _ => k, fun _ => cY (by omega) k⟩
  | succ d ih =>
    intro k0 h1 h2 h3
    have wk : w32 k0 = k0 := w32_of (by omega)
    have wd : w32 (k0 - p) = k0 - p := w32_of (by omega)
    by_cases c : k0 = x
    · refine ⟨k0, ⟨by omega, h3, by omega⟩, fun A o x4 x5 R T ho hA k => vc_Plain_packRuns_71 _ _ _ _ 1 6000 tr_row _ _ ho ?_, fun B x2 R T hB k => vc_MD_packRuns_59 _ _ _ ?_⟩
      · rw [hA.1, wx, wk]
        exact cY (by omega) k
      · rw [hB.1, wx, wk]
        exact cY (by omega) k
    obtain ⟨n, i1, -, -, i4, i5⟩ := jalike (q := q) (p := k0) (most := 3) hx ht (by omega) (by omega)
    have wn : w32 n = n := w32_of (by omega)
    by_cases c3 : 3 ≤ n
    · refine ⟨k0, ⟨by omega, h3, by omega⟩, fun A o x4 x5 R T ho hA k => vc_Plain_packRuns_71 _ _ _ _ 1 6000 tr_row _ _ ho ?_, fun B x2 R T hB k => vc_MD_packRuns_59 _ _ _ ?_⟩
      · rw [hA.1, wx, wk, wd]
        refine cNo (by omega) (cNo (by omega) ⟨n, A, i4 A hA, ?_⟩)
        rw [wn]
        exact cY c3 k
      · rw [hB.1, wx, wk, wd]
        refine cNo (by omega) (cNo (by omega) ⟨n, B, i5 B hB, ?_⟩)
        rw [wn]
        exact cY c3 k
    · obtain ⟨k, j1, j2, j3⟩ := ih (k0 + 1) (by omega) (by omega) (by omega)
      refine ⟨k, ⟨by omega, j1.2⟩, fun A o x4 x5 R T ho hA kk => vc_Plain_packRuns_71 _ _ _ _ 1 6000 tr_row _ _ ho ?_, fun B x2 R T hB kk => vc_MD_packRuns_59 _ _ _ ?_⟩
      · rw [hA.1, wx, wk, wd]
        refine cNo (by omega) (cNo (by omega) ⟨n, A, i4 A hA, ?_⟩)
        rw [wn]
        exact cNo c3 (j2 A o x4 x5 R T ho hA kk)
      · rw [hB.1, wx, wk, wd]
        refine cNo (by omega) (cNo (by omega) ⟨n, B, i5 B hB, ?_⟩)
        rw [wn]
        exact cNo c3 (j3 B x2 R T hB kk)
/-- the reference puts octets p .. k - 1 -/
theorem mw_octs {p : Int} {n : Nat} (hx : 0 ≤ x ∧ x ≤ 6000) (hp : 0 ≤ p ∧ p + n ≤ x) : ∀ (d i : Nat) (B : ms) (w : Wt), i + d = n → (0 ≤ w.1 ∧ w.1 < 100000) → TXm B x t → MWt B (wtPuts (fun j => t (p + j)) i w) → ∃ B', EX XW B B' ∧ MWt B' (wtPuts (fun j => t (p + j)) n w) ∧ ∀ (x2 : Int) (R : Option Value) (T : ms), EV q 280 2 [some (.ref 367), some (vI (p + n)), none, none] [] B' R T → EV q 280 108 [some (.ref 367), some (vI (p + i)), some (vI x2), some (vI (p + n))] [] B R T := by
  have wk : w32 (p + n) = p + n := w32_of (by omega)
  intro d
  induction d with
  | zero =>
    intro i B w hi hw hB h
    have e : i = n := by omega
    subst e
    exact ⟨B, EX.refl _ B, h, fun x2 R T k => vc_MD_packRuns_108 _ _ _ (cY (Int.le_refl _) k)⟩
  | succ d ih =>
    intro i B w hi hw hB h
    have wi : w32 (p + i) = p + i := w32_of (by omega)
    have hti := hB.2 (p + i) (by omega) (by omega)
    obtain ⟨B1, k1, k2, k3⟩ := mw_put (q := q) (b8 (t (p + i))) (by rw [wtPuts_1]; omega) h
    rw [wtPut_m (show b8 (t (p + i)) % 256 = t (p + i) % 256 by unfold b8; omega), ← wtPuts_s (fun j => t (p + j))] at k3
    obtain ⟨B', k4, k5, k6⟩ := ih (i + 1) B1 w (by omega) hw (TXm_x hB k2) k3
    refine ⟨B', k2.trans k4, k5, fun x2 R T k => vc_MD_packRuns_108 _ _ _ ?_⟩
    have k7 := k6 x2 R T k
    rw [show p + ((i + 1 : Nat) : Int) = p + i + 1 by omega] at k7
    rw [wi, wk, hti.2]
    exact cNo (by omega) ⟨by omega, B1, k1, k7⟩
theorem jpRuns (hx : 0 ≤ x ∧ x ≤ 6000) (ht : ∀ k : Int, 0 ≤ k → k < x → 0 ≤ t k ∧ t k < 256) : ∀ (v : Nat) (p : Int) (w : Wt), x - p ≤ v → 0 ≤ p → p ≤ x → (0 ≤ w.1 ∧ w.1 ≤ 2 * p) → wtO w → ∃ w' : Wt, ((0 ≤ w'.1 ∧ w'.1 ≤ 12000) ∧ wtO w') ∧ (∀ (A : ms) (o : Nat) (x4 : Int), isRow o 12000 → 300 < o → TXc A x t → 0 ≤ x4 → x4 ≤ p → CWt A o 12000 w → ∃ A', EX (XRo o) A A' ∧ CWt A' o 12000 w' ∧ EV q 46 5 [some (.ref 22), some (.ref 1), some (.ref o), some (vI p), some (vI x4), none, none] [] A none A') ∧ ∀ B : ms, TXm B x t → MWt B w → ∃ B', EX XW B B' ∧ MWt B' w' ∧ EV q 280 2 [some (.ref 367), some (vI p), none, none] [] B none B' := by
  have wx : w32 x = x := w32_of (by omega)
  intro v
  induction v with
  | zero =>
    intro p w hv p0 p1 hw hO
    have e : p = x := by omega
    subst e
    refine ⟨w, ⟨by omega, hO⟩, fun A o x4 ho h3 hA h4 h5 h => ⟨A, EX.refl _ A, h, vc_Plain_packRuns_5 _ _ 1 6000 tr_row _ _ ho ?_⟩, fun B hB h => ⟨B, EX.refl _ B, h, vc_MD_packRuns_2 _ ?_⟩⟩
    · rw [hA.1, wx, w32_of (x := x4) (by omega)]
      exact ⟨fun _ => ⟨rfl, rfl⟩, fun _ => cY (Int.le_refl _) ⟨rfl, rfl⟩⟩
    · rw [hB.1]
      exact cY (Int.le_refl _) ⟨rfl, rfl⟩
  | succ v ih =>
    intro p w hv p0 p1 hw hO
    by_cases c : p = x
    · exact ih p w (by omega) p0 p1 hw hO
    have wp : w32 p = p := w32_of (by omega)
    have tp := ht p p0 (by omega)
    obtain ⟨n, i1, i2, i3, i4, i5⟩ := jalike (q := q) (p := p) (most := 128) hx ht (by omega) (by omega)
    have wn : w32 n = n := w32_of (by omega)
    by_cases c3 : n < 3
    · obtain ⟨n3, l1, l2, -, l4, l5⟩ := jalike (q := q) (p := p) (most := 3) hx ht (by omega) (by omega)
      have wn3 : w32 n3 = n3 := w32_of (by omega)
      have n33 : n3 < 3 := by
        by_cases d : n3 < 3
        · exact d
        · have := l2 n (by omega) (by omega)
          omega
      obtain ⟨k, j1, j2, j3⟩ := jrunS (q := q) hx ht ⟨p0, by omega⟩ 127 (p + 1) (by omega) (by omega) (by omega)
      obtain ⟨m, em⟩ : ∃ m : Nat, k = p + m := ⟨(k - p).toNat, by omega⟩
      obtain ⟨w', h1, h2, h3⟩ := ih k (wtPuts (fun j => t (p + j)) m (wtPut (k - p - 1) w)) (by omega) (by omega) j1.2.1 (by rw [wtPuts_1, wtPut_1]; omega) (wtO_puts _ (wtO_put _ hO) _)
      refine ⟨w', h1, fun A o x4 ho ho3 hA h4 h5 h => ?_, fun B hB h => ?_⟩
      · obtain ⟨A1, k1, k2, k3⟩ := cw_put (q := q) (k - p - 1) ho (by decide) hw.1 h
        have hA1 := TXc_x ho3 hA k2
        obtain ⟨A2, k4, k5, k6⟩ := cw_span (q := q) (a1 := 2) (n1 := 6000) (b := p.toNat) (n := m) (g := fun j => t (p + j)) rfl (by omega) (by decide) (fun j hj => by
          have := hA1.2 (p + j) (by omega) (by omega)
          rw [show ((p.toNat : Nat) : Int) = p by omega]
          exact this) ho (by decide) (by rw [wtPut_1]; omega) k3
        rw [show ((p.toNat : Nat) : Int) = p by omega, ← em] at k4
        obtain ⟨A', k7, k8, k9⟩ := h2 A2 o (x4 + 1) ho ho3 (TXc_x ho3 hA1 k5) (by omega) (by omega) k6
        refine ⟨A', (k2.trans k5).trans k7, k8, vc_Plain_packRuns_5 _ _ 1 6000 tr_row _ _ ho ?_⟩
        rw [hA.1, wx, w32_of (x := x4) (by omega), wp]
        refine cNo (by omega) (cNo (by omega) ⟨n, A, i4 A hA, ?_⟩)
        rw [wn]
        exact cY c3 (j2 A o x4 n _ _ ho hA (vc_Plain_packRuns_107 _ _ _ _ 1 6000 tr_row _ _ ho ⟨A1, k1, A2, k4, vc_Plain_packRuns_131 _ _ _ 1 6000 tr_row _ _ ho k9⟩))
      · obtain ⟨B1, k1, k2, k3⟩ := mw_put (q := q) (k - p - 1) (by omega) h
        have hB1 := TXm_x hB k2
        obtain ⟨B2, k4, k5, k6⟩ := mw_octs (q := q) (x := x) (t := t) (p := p) (n := m) hx (by omega) m 0 B1 (wtPut (k - p - 1) w) (by omega) (by rw [wtPut_1]; omega) hB1 k3
        obtain ⟨B', k7, k8, k9⟩ := h3 B2 (TXm_x hB1 k4) k5
        refine ⟨B', (k2.trans k4).trans k7, k8, vc_MD_packRuns_2 _ ?_⟩
        rw [hB.1, wx, wp]
        refine cNo (by omega) ⟨n, B, i5 B hB, ?_⟩
        rw [wn]
        have k10 := k6 n none B' (by rw [← em]; exact k9)
        rw [← em, show p + ((0 : Nat) : Int) = p by omega] at k10
        refine cY c3 (vc_MD_packRuns_59 _ _ _ ?_)
        rw [hB.1, wx, wp, show w32 (p - p) = 0 by rw [Int.sub_self]; decide]
        refine cNo (by omega) (cNo (by omega) ⟨n3, B, l5 B hB, ?_⟩)
        rw [wn3]
        exact cNo (by omega) (j3 B n _ _ hB (vc_MD_packRuns_99 _ _ _ ⟨B1, k1, k10⟩))
    · obtain ⟨w', h1, h2, h3⟩ := ih (p + n) (wtPut (t p) (wtPut (257 - n) w)) (by omega) (by omega) (by omega) (by rw [wtPut_1, wtPut_1]; omega) (wtO_put _ (wtO_put _ hO))
      refine ⟨w', h1, fun A o x4 ho ho3 hA h4 h5 h => ?_, fun B hB h => ?_⟩
      · obtain ⟨A1, k1, k2, k3⟩ := cw_put (q := q) (257 - n) ho (by decide) hw.1 h
        have hA1 := TXc_x ho3 hA k2
        obtain ⟨A2, k4, k5, k6⟩ := cw_put (q := q) (t p) ho (by decide) (by rw [wtPut_1]; omega) k3
        obtain ⟨A', k7, k8, k9⟩ := h2 A2 o (x4 + 1) ho ho3 (TXc_x ho3 hA1 k5) (by omega) (by omega) k6
        refine ⟨A', (k2.trans k5).trans k7, k8, vc_Plain_packRuns_5 _ _ 1 6000 tr_row _ _ ho ?_⟩
        rw [hA.1, wx, w32_of (x := x4) (by omega), wp]
        refine cNo (by omega) (cNo (by omega) ⟨n, A, i4 A hA, ?_⟩)
        rw [wn]
        exact cNo c3 ⟨A1, k1, by omega, A2, by rw [(hA1.2 p p0 (by omega)).2]; exact k4, vc_Plain_packRuns_131 _ _ _ 1 6000 tr_row _ _ ho k9⟩
      · obtain ⟨B1, k1, k2, k3⟩ := mw_put (q := q) (257 - n) (by omega) h
        have hB1 := TXm_x hB k2
        obtain ⟨B2, k4, k5, k6⟩ := mw_put (q := q) (b8 (t p)) (by rw [wtPut_1]; omega) k3
        rw [wtPut_m (show b8 (t p) % 256 = t p % 256 by unfold b8; omega)] at k6
        obtain ⟨B', k7, k8, k9⟩ := h3 B2 (TXm_x hB1 k5) k6
        refine ⟨B', (k2.trans k5).trans k7, k8, vc_MD_packRuns_2 _ ?_⟩
        rw [hB.1, wx, wp]
        refine cNo (by omega) ⟨n, B, i5 B hB, ?_⟩
        rw [wn]
        exact cNo c3 ⟨B1, k1, by omega, B2, by rw [(hB1.2 p p0 (by omega)).2]; exact k4, k9⟩
end PRun
