/-! pack: BLOCKS; level 0: stored -/
section PLev0
variable {q : Nat × (Nat → Int32)} {x : Int} {t : Int → Int}
theorem low3 {b : Int} (hb : b = 0 ∨ b = 1) (s : Wb) : wbLow 3 b s = wbLow 2 0 (wbLow 1 b s) := by
  rw [wbLow_s, wbLow_s 0, wbLow_0]
  rw [show b / 2 = 0 by omega]
def stN (x i : Int) : Int := min 1000 (x - 1000 * i)
def stB (t : Int → Int) (x i b : Int) (s : Wb) : Wb := (wtPuts (fun j => t (1000 * i + j)) (stN x i).toNat (wtPuts (loF (-(stN x i) - 1)) 2 (wtPuts (loF (stN x i)) 2 (wbLow 3 b s).1)), 0)
/-- the reference puts the octets of a stored block -/
theorem mw_oct9 {i x1 : Int} {n : Nat} (hx : 0 ≤ x ∧ x ≤ 6000) (ha : 0 ≤ i ∧ i + n ≤ x) : ∀ (d k : Nat) (B : ms) (w : Wt), k + d = n → (0 ≤ w.1 ∧ w.1 < 1000000) → TXm B x t → MWt B (wtPuts (fun j => t (i + j)) k w) → ∃ B', EX XW B B' ∧ MWt B' (wtPuts (fun j => t (i + j)) n w) ∧ ∀ (R : Option Value) (T : ms), EV q 289 99 [some (.ref 367), some (vI x1), some (vI i), some (vI n), some (vI n), none, none] [] B' R T → EV q 289 99 [some (.ref 367), some (vI x1), some (vI i), some (vI n), some (vI k), none, none] [] B R T := by
  have wn : Unit → w32 (n : Int) = n := fun _ => w32_of (by omega)
  intro d
  induction d with
  | zero =>
    intro k B w hk hw hB h
    have e : k = n := by omega
    subst e
    exact ⟨B, EX.refl _ B, h, fun R T kk => kk⟩
  | succ d ih =>
    intro k B w hk hw hB h
    have wk : Unit → w32 (k : Int) = k := fun _ => w32_of (by omega)
    have wa : w32 (i + k) = i + k := w32_of (by omega)
    have hti := hB.2 (i + k) (by omega) (by omega)
    obtain ⟨B1, k1, k2, k3⟩ := mw_put (q := q) (b8 (t (i + k))) (by rw [wtPuts_1]; omega) h
    rw [wtPut_m (show b8 (t (i + k)) % 256 = t (i + k) % 256 by unfold b8; omega), ← wtPuts_s (fun j => t (i + j))] at k3
    obtain ⟨B', k4, k5, k6⟩ := ih (k + 1) B1 w (by omega) hw (TXm_x hB k2) k3
    refine ⟨B', k2.trans k4, k5, fun R T kk => vc_MD_packBlocks_99 _ _ _ _ ?_⟩
    have k7 := k6 R T kk
    rw [show ((k + 1 : Nat) : Int) = (k : Int) + 1 by omega] at k7
    rw [wn (), wk (), wa, hti.2]
    exact cNo (by omega) ⟨by omega, B1, k1, k7⟩
/-- one stored block -/
theorem jst1 {M i : Int} {s : Wb} (hx : 0 ≤ x ∧ x ≤ 6000) (ht : ∀ k : Int, 0 ≤ k → k < x → 0 ≤ t k ∧ t k < 256) (hM : (1 ≤ M ∧ M ≤ 7) ∧ x ≤ 1000 * M ∧ (M = 1 ∨ 1000 * (M - 1) < x)) (hi : 0 ≤ i ∧ i < M) (hr : wbR 0 s) (hs : s.1.1 < 100000) : (wbR 0 (stB t x i (if i = M - 1 then 1 else 0) s) ∧ s.1.1 ≤ (stB t x i (if i = M - 1 then 1 else 0) s).1.1 ∧ (stB t x i (if i = M - 1 then 1 else 0) s).1.1 ≤ s.1.1 + 1010) ∧ (∀ (A : ms) (o a1 : Nat), isRow o 12000 → (342 < o ∨ o = 7) → TXr A a1 x t → CBt A o 12000 s → ∃ A', EX (XRb o) A A' ∧ CBt A' o 12000 (stB t x i (if i = M - 1 then 1 else 0) s) ∧ ∀ (R : Option Value) (T : ms), EV q 56 21 [some (.ref a1), some (.ref o), some (vI M), some (vI (i + 1)), none, none] [] A' R T → EV q 56 21 [some (.ref a1), some (.ref o), some (vI M), some (vI i), none, none] [] A R T) ∧ ∀ (B : ms) (x1 : Int), TXm B x t → MBt B 0 s → ∃ B', EX XWb B B' ∧ MBt B' 0 (stB t x i (if i = M - 1 then 1 else 0) s) ∧ B'.1 367 12 = B.1 367 12 + (wbB (stB t x i (if i = M - 1 then 1 else 0) s) - wbB s) ∧ ∀ (R : Option Value) (T : ms), (i < M - 1 → EV q 289 25 [some (.ref 367), some (vI x1), some (vI (1000 * (i + 1))), none, none, none, none] [] B' R T) → (i = M - 1 → EV q 289 357 [some (.ref 367), some (vI x1), none, none, none, none, none] [] B' R T) → EV q 289 25 [some (.ref 367), some (vI x1), some (vI (1000 * i)), none, none, none, none] [] B R T := by
  have wx : w32 x = x := w32_of (by omega)
  obtain ⟨b, eb⟩ : ∃ b : Int, b = if i = M - 1 then 1 else 0 := ⟨_, rfl⟩
  have hb : b = 0 ∨ b = 1 := by rw [eb]; split <;> omega
  have hb1 : b = 1 ↔ i = M - 1 := by rw [eb]; split <;> omega
  rw [← eb]
  obtain ⟨n, en⟩ : ∃ n, n = stN x i := ⟨_, rfl⟩
  have nr : 0 ≤ n ∧ n ≤ 1000 ∧ 1000 * i + n ≤ x ∧ (i < M - 1 → n = 1000 ∧ 1000 * i + n < x) ∧ (i = M - 1 → 1000 * i + n = x) := by
    rw [en]
    unfold stN
    omega
  have r3 := wbLow_r 3 b s hr
  have n3 := wbLow_n 3 b s
  have hs0 := hr.1.1
  obtain ⟨s3, e3⟩ : ∃ s3, s3 = wbLow 3 b s := ⟨_, rfl⟩
  rw [← e3] at r3 n3
  have eS : stB t x i b s = (wtPuts (fun j => t (1000 * i + j)) n.toNat (wtPuts (loF (-n - 1)) 2 (wtPuts (loF n) 2 s3.1)), 0) := by
    unfold stB
    rw [← en, ← e3]
  have hO : wtO (wtPuts (fun j => t (1000 * i + j)) n.toNat (wtPuts (loF (-n - 1)) 2 (wtPuts (loF n) 2 s3.1))) := wtO_puts _ (wtO_puts _ (wtO_puts _ r3.1.2 _) _) _
  have c1 : (wtPuts (fun j => t (1000 * i + j)) n.toNat (wtPuts (loF (-n - 1)) 2 (wtPuts (loF n) 2 s3.1))).1 = s3.1.1 + 4 + n := by
    rw [wtPuts_1, wtPuts_1, wtPuts_1]
    omega
  rw [eS]
  have wn : w32 n = n := w32_of (by omega)
  have wn1 : w32 (-n - 1) = -n - 1 := w32_of (by omega)
  refine ⟨⟨⟨⟨by rw [c1]; omega, hO⟩, by show (0 : Nat) < 8; decide, fun y => absurd rfl y⟩, by show s.1.1 ≤ (wtPuts _ _ _).1; rw [c1]; omega, by show (wtPuts _ _ _).1 ≤ _; rw [c1]; omega⟩, fun A o a1 ho o3 hA h => ?_, fun B x1 hB h => ?_⟩
  · obtain ⟨A1, k1, k2, k3⟩ := cw_low_bits (q := q) (v := b) (n := 3) (by omega) (by decide) ho (by decide) hr (by omega) h
    rw [← e3] at k3
    obtain ⟨A2, j1, j2, j3⟩ := cw_close (q := q) ho k3
    obtain ⟨A3, i1, i2, i3⟩ := cw_low (q := q) n (n := 2) (by decide) ho (by decide) r3.1.1 j3.1
    obtain ⟨A4, l1, l2, l3⟩ := cw_low (q := q) (-n - 1) (n := 2) (by decide) ho (by decide) (by rw [wtPuts_1]; show 0 ≤ s3.1.1 + _; omega) i3
    have x4 : EX (XRb o) A A4 := ((k2.trans j2).trans (EX.mono i2 (fun a k y => by unfold XRo at y; unfold XRb; omega))).trans (EX.mono l2 (fun a k y => by unfold XRo at y; unfold XRb; omega))
    have hA4 := TXr_b o3 hA x4
    obtain ⟨A5, m1, m2, m3⟩ := cw_span (q := q) (a1 := a1 + 1) (n1 := 6000) (b := (1000 * i).toNat) (n := n.toNat) (g := fun j => t (1000 * i + j)) hA.1.1.2 (by omega) (by decide) (fun j hj => by
      have := hA4.2.2 (1000 * i + j) (by omega) (by omega)
      rw [show (((1000 * i).toNat : Nat) : Int) = 1000 * i by omega]
      exact this) ho (by decide) (by rw [wtPuts_1, wtPuts_1]; show 0 ≤ s3.1.1 + _ + _; omega) l3
    rw [show (((1000 * i).toNat : Nat) : Int) = 1000 * i by omega, show ((n.toNat : Nat) : Int) = n by omega] at m1
    have f3 : A5.1 o 3 = 0 := by
      rw [m2.2 o 3 (by unfold XRo; omega), l2.2 o 3 (by unfold XRo; omega), i2.2 o 3 (by unfold XRo; omega)]
      exact j3.2
    refine ⟨A5, x4.trans (EX.mono m2 (fun a k y => by unfold XRo at y; unfold XRb; omega)), ⟨m3, by rw [f3]; rfl⟩, fun R T kk => vc_Blocks_storedBlocks_21 _ _ _ _ hA.1.1 _ _ ho ?_⟩
    rw [hA.2.1, wx, w32_of (x := M) (by omega), w32_of (x := i) (by omega), w32_of (x := M - 1) (by omega), w32_of (x := i * 1000 + 1000) (by omega), show min x (i * 1000 + 1000) = 1000 * i + n by rw [en]; unfold stN; omega, show i * 1000 = 1000 * i by omega]
    have k61 : EV q 56 61 [some (.ref a1), some (.ref o), some (vI M), some (vI i), some (vI (1000 * i)), some (vI (1000 * i + n))] [vI b, .ref o] A R T := by
      refine vc_Blocks_storedBlocks_61 _ _ _ _ _ _ _ hA.1.1 _ _ ho _ _ ho ⟨A1, k1, A2, j1, A3, ?_, A4, ?_, A5, m1, kk⟩
      · rw [show 1000 * i + n - 1000 * i = n by omega, wn]
        exact i1
      · rw [show 1000 * i + n - 1000 * i = n by omega, wn1]
        exact l1
    refine cNo (by omega) ?_
    rcases hb with e | e
    · rw [e] at k61
      exact cY (fun y => by have := hb1.2 y; omega) k61
    · rw [e] at k61
      exact cNN (hb1.1 e) k61
  · obtain ⟨B1, k1, k2, k3, k4⟩ := mw_low_bits (q := q) (v := b) (n := 1) (by omega) (by decide) hr (by omega) h
    have r1 := wbLow_r 1 b s hr
    have n1 := wbLow_n 1 b s
    obtain ⟨B2, j1, j2, j3, j4⟩ := mw_low_bits (q := q) (v := 0) (n := 2) (by decide) (by decide) r1 (by omega) k3
    rw [← low3 hb, ← e3] at j3
    obtain ⟨B3, i1, i2, i3, i4⟩ := mw_fill (q := q) r3 j3
    obtain ⟨B4, l1, l2, l3⟩ := mw_low (q := q) n (n := 2) (by decide) (by show 0 ≤ s3.1.1 ∧ s3.1.1 < _; omega) i3.1
    obtain ⟨B5, m1, m2, m3⟩ := mw_low (q := q) (-n - 1) (n := 2) (by decide) (by rw [wtPuts_1]; show 0 ≤ s3.1.1 + _ ∧ s3.1.1 + _ < _; omega) l3
    have x5 : EX XWb B B5 := (((k2.trans j2).trans i2).trans (EX.mono l2 (fun a k y => by unfold XW at y; unfold XWb; omega))).trans (EX.mono m2 (fun a k y => by unfold XW at y; unfold XWb; omega))
    obtain ⟨B6, o1, o2, o4⟩ := mw_oct9 (q := q) (x := x) (t := t) (i := 1000 * i) (x1 := x1) (n := n.toNat) hx (by omega) n.toNat 0 B5 (wtPuts (loF (-n - 1)) 2 (wtPuts (loF n) 2 s3.1)) (by omega) (by rw [wtPuts_1, wtPuts_1]; omega) (TXm_b hB x5) m3
    rw [show ((n.toNat : Nat) : Int) = n by omega] at o4
    have x6 : EX XWb B B6 := x5.trans (EX.mono o1 (fun a k y => by unfold XW at y; unfold XWb; omega))
    have hB6 := TXm_b hB x6
    obtain ⟨B7, e7⟩ : ∃ B7, B7 = wI B6 367 12 (B6.1 367 12 + (32 + 8 * n)) := ⟨_, rfl⟩
    have at7 : ∀ (a : Nat) (k : Int), ¬ (a = 367 ∧ k = 12) → B7.1 a k = B6.1 a k := fun a k y => by rw [e7, wI_no _ y]
    have f12 : B6.1 367 12 = B3.1 367 12 := by rw [o1.2 367 12 (by unfold XW; omega), m2.2 367 12 (by unfold XW; omega), l2.2 367 12 (by unfold XW; omega)]
    have f10 : B7.1 367 10 = 0 := by
      rw [at7 367 10 (by omega), o1.2 367 10 (by unfold XW; omega), m2.2 367 10 (by unfold XW; omega), l2.2 367 10 (by unfold XW; omega)]
      exact i3.2.1
    have f11 : B7.1 367 11 = 0 := by
      rw [at7 367 11 (by omega), o1.2 367 11 (by unfold XW; omega), m2.2 367 11 (by unfold XW; omega), l2.2 367 11 (by unfold XW; omega)]
      exact i3.2.2
    have b3 := wbB_low 3 b s hr.2.1
    rw [← e3] at b3
    refine ⟨B7, ?_, ⟨MWt_cg o2 (fun a k y => at7 a k (by unfold XW at y; omega)), by rw [f10]; rfl, f11⟩, ?_, fun R T y1 y2 => vc_MD_packBlocks_25 _ _ ?_⟩
    · rw [e7]
      exact x6.wr (by unfold XWb; omega)
    · rw [e7, wI_at, f12, i4, j4, k4]
      have e8 : wbB (wtPuts (fun j => t (1000 * i + j)) n.toNat (wtPuts (loF (-n - 1)) 2 (wtPuts (loF n) 2 s3.1)), (0 : Nat)) = 8 * (s3.1.1 + 4 + n) := by
        unfold wbB
        show 8 * (wtPuts _ _ _).1 - (if (0 : Nat) = 0 then 0 else _) = _
        rw [c1, if_pos rfl]
        omega
      rw [e8]
      unfold wbB at b3 ⊢
      split at b3 <;> split <;> split <;> omega
    · have k66 : EV q 289 66 [some (.ref 367), some (vI x1), some (vI (1000 * i)), some (vI n), none, none, none] [vL b, .ref 367] B R T := by
        refine vc_MD_packBlocks_66 _ _ _ _ ⟨B1, k1, B2, j1, B3, i1, B4, by rw [wn]; exact l1, B5, by rw [wn1]; exact m1, o4 R T (vc_MD_packBlocks_99 _ _ _ _ (cY (Int.le_refl _) (fun S1 q1 => ?_)))⟩
        rw [← e7] at q1
        subst q1
        rw [at7 367 2 (by omega), hB6.1, wx, w32_of (x := 1000 * i + n) (by omega)]
        by_cases cl : i = M - 1
        · exact cNo (by have := nr.2.2.2.2 cl; omega) (y2 cl)
        · have y3 := y1 (by omega)
          rw [show 1000 * (i + 1) = 1000 * i + n by have := nr.2.2.2.1 (by omega); omega] at y3
          exact cY (by have := nr.2.2.2.1 (by omega); omega) y3
      have k49 : EV q 289 49 [some (.ref 367), some (vI x1), some (vI (1000 * i)), none, none, none, none] [vI n] B R T := by
        refine vc_MD_packBlocks_49 _ _ _ ?_
        rw [hB.1, wx, w32_of (x := 1000 * i + n) (by omega)]
        rcases hb with e | e
        · rw [e] at k66
          exact cY (fun y => by
            have := hb1.2 (by
              by_cases cl : i = M - 1
              · exact cl
              · have := (nr.2.2.2.1 (by omega)).2
                omega)
            omega) k66
        · rw [e] at k66
          exact cNN (nr.2.2.2.2 (hb1.1 e)) k66
      rw [hB.1, w32_of (x := x - 1000 * i) (by omega)]
      by_cases c : 1000 ≤ x - 1000 * i
      · rw [show n = 1000 by rw [en]; unfold stN; omega] at k49
        exact cY c k49
      · rw [show n = x - 1000 * i by rw [en]; unfold stN; omega] at k49
        exact cNo c k49
theorem RlB_st (t : Int → Int) (x i b : Int) : ShE (stB t x i b) := fun s0 s u h => by
  have r := (RlB_low 3 b _ _ _ h).1
  exact ⟨Rl_puts _ (Rl_puts _ (Rl_puts _ r _) _) _, rfl, fun y => absurd rfl y⟩
theorem jst {M : Int} (hx : 0 ≤ x ∧ x ≤ 6000) (ht : ∀ k : Int, 0 ≤ k → k < x → 0 ≤ t k ∧ t k < 256) (hM : (1 ≤ M ∧ M ≤ 7) ∧ x ≤ 1000 * M ∧ (M = 1 ∨ 1000 * (M - 1) < x)) : ∀ (v : Nat) (i : Int), i + v + 1 = M → 0 ≤ i → ∃ F : Wb → Wb, ShE F ∧ ∀ s : Wb, wbR 0 s → s.1.1 ≤ 20000 + 2000 * i → (wbR 0 (F s) ∧ s.1.1 ≤ (F s).1.1 ∧ (F s).1.1 ≤ 20000 + 2000 * M) ∧ (∀ (A : ms) (o a1 : Nat), isRow o 12000 → (342 < o ∨ o = 7) → TXr A a1 x t → CBt A o 12000 s → ∃ A', EX (XRb o) A A' ∧ CBt A' o 12000 (F s) ∧ EV q 56 21 [some (.ref a1), some (.ref o), some (vI M), some (vI i), none, none] [] A none A') ∧ ∀ (B : ms) (x1 : Int), TXm B x t → MBt B 0 s → ∃ B', EX XWb B B' ∧ MBt B' 0 (F s) ∧ B'.1 367 12 = B.1 367 12 + (wbB (F s) - wbB s) ∧ ∀ (R : Option Value) (T : ms), EV q 289 357 [some (.ref 367), some (vI x1), none, none, none, none, none] [] B' R T → EV q 289 25 [some (.ref 367), some (vI x1), some (vI (1000 * i)), none, none, none, none] [] B R T := by
  intro v
  induction v with
  | zero =>
    intro i hi i0
    refine ⟨stB t x i (if i = M - 1 then 1 else 0), RlB_st _ _ _ _, fun s hr hs => ?_⟩
    obtain ⟨a1, a2, a3⟩ := jst1 (q := q) (s := s) hx ht hM ⟨i0, by omega⟩ hr (by omega)
    refine ⟨⟨a1.1, a1.2.1, by omega⟩, fun A o a1 ho o3 hA h => ?_, fun B x1 hB h => ?_⟩
    · obtain ⟨A', k1, k2, k3⟩ := a2 A o a1 ho o3 hA h
      exact ⟨A', k1, k2, k3 _ _ (vc_Blocks_storedBlocks_21 _ _ _ _ hA.1.1 _ _ ho (by rw [show i + 1 = M by omega]; exact cY (Int.le_refl _) ⟨rfl, rfl⟩))⟩
    · obtain ⟨B', k1, k2, k3, k4⟩ := a3 B x1 hB h
      exact ⟨B', k1, k2, k3, fun R T kk => k4 R T (fun y => absurd y (by omega)) (fun _ => kk)⟩
  | succ v ih =>
    intro i hi i0
    obtain ⟨F, hF, hG⟩ := ih (i + 1) (by omega) (by omega)
    obtain ⟨F2, eF2⟩ : ∃ F2 : Wb → Wb, ∀ s, F2 s = F (stB t x i (if i = M - 1 then 1 else 0) s) := ⟨_, fun _ => rfl⟩
    refine ⟨F2, fun _ _ _ h => by rw [eF2, eF2]; exact hF _ _ _ (RlB_st _ _ _ _ _ _ _ h), fun s hr hs => ?_⟩
    rw [eF2]
    obtain ⟨a1, a2, a3⟩ := jst1 (q := q) (s := s) hx ht hM ⟨i0, by omega⟩ hr (by omega)
    obtain ⟨b1, b2, b3⟩ := hG _ a1.1 (by omega)
    refine ⟨⟨b1.1, by have := a1.2.1; have := b1.2.1; omega, b1.2.2⟩, fun A o a1 ho o3 hA h => ?_, fun B x1 hB h => ?_⟩
    · obtain ⟨A1, k1, k2, k3⟩ := a2 A o a1 ho o3 hA h
      obtain ⟨A', g1, g2, g3⟩ := b2 A1 o a1 ho o3 (TXr_b o3 hA k1) k2
      exact ⟨A', k1.trans g1, g2, k3 _ _ g3⟩
    · obtain ⟨B1, k1, k2, k3, k4⟩ := a3 B x1 hB h
      obtain ⟨B', g1, g2, g3, g4⟩ := b3 B1 x1 (TXm_b hB k1) k2
      exact ⟨B', k1.trans g1, g2, by omega, fun R T kk => k4 R T (fun _ => g4 R T kk) (fun y => absurd y (by omega))⟩
theorem jb_0 (hx : 0 ≤ x ∧ x ≤ 6000) (ht : ∀ k : Int, 0 ≤ k → k < x → 0 ≤ t k ∧ t k < 256) : JBs q 0 x t := by
  obtain ⟨M, eM⟩ : ∃ M, M = max 1 ((x + 1000 - 1) / 1000) := ⟨_, rfl⟩
  have hM : (1 ≤ M ∧ M ≤ 7) ∧ x ≤ 1000 * M ∧ (M = 1 ∨ 1000 * (M - 1) < x) := by omega
  obtain ⟨F, hF, hG⟩ := jst (q := q) hx ht hM (M - 1).toNat 0 (by omega) (by omega)
  refine ⟨F, fun _ => (0, 0, 0), 0, hF, fun s0 h0 hr hs => ?_⟩
  have hs0 := hr.1.1
  obtain ⟨j1, jc, jm⟩ := hG s0 hr (by omega)
  refine ⟨⟨j1.1, ⟨j1.2.1, by omega⟩, by decide, fun _ => rfl⟩, fun A o a1 ho o3 hI hA h hs1 => ?_, fun B hK hB h => ?_⟩
  · obtain ⟨A2, l1, l2, l3⟩ := jc A o a1 ho o3 hA h
    have hc := (h.1.1 (by omega)).1
    obtain ⟨A3, z, m1, m2, m3, m4⟩ := cl_pend (q := q) (A := A2) (lv := 0) (b0 := A.1 o 1) (s0 := s0) hA.1.1 ho j1.1 ⟨h0, hc⟩ l2
    have xx := l1.trans m2
    have em : max (w32 1) (w32 (Int.tdiv (w32 (A.1 a1 1 + 1000 - 1)) (w32 1000))) = M := by
      rw [hA.2.1, w32_of (x := x + 1000 - 1) (by omega), show w32 1000 = 1000 by decide, Int.tdiv_eq_ediv_of_nonneg (by omega), show w32 1 = 1 by decide, w32_of (x := (x + 1000 - 1) / 1000) (by omega), eM]
    refine ⟨A3, A.2.2 10 2, z, m1, by rw [wR_id]; exact (EX.mono xx (fun a k y => by unfold XRb at y; unfold XPa XRb; omega)).ey, m3, fun y => ⟨by rw [xx.2 10 8 (by unfold XRb; omega)]; exact y.elim id (fun z => absurd rfl z), fun k k0 k1 => absurd k0 (by omega)⟩, vc_Blocks_packAll _ _ _ hA.1.1 _ _ ho ⟨fun _ => ⟨A2, vc_Blocks_storedBlocks _ _ hA.1.1 _ _ ho (by rw [em]; exact l3), m4⟩, fun c => absurd c (by decide), fun c => absurd c (by decide), fun c => absurd c (by decide), fun c => absurd (by decide) c⟩⟩
  · obtain ⟨B1, B5, b1, b2, b3, b4, b5, b6, b7, b8, b9⟩ := md_pre (q := q) hK hB h
    obtain ⟨B8, i1, i2, i3, i4⟩ := jm B5 0 b4 b5
    rw [show (1000 : Int) * 0 = 0 by decide] at i4
    obtain ⟨B9, e9⟩ : ∃ B9, B9 = wI (wI B8 367 56 (B8.1 367 12)) 367 10 0 := ⟨_, rfl⟩
    have at9 : ∀ (a : Nat) (k : Int), ¬ (a = 367 ∧ (k = 10 ∨ k = 56)) → B9.1 a k = B8.1 a k := fun a k y => by rw [e9, wI_no _ (by omega), wI_no _ (by omega)]
    have k357 : EV q 289 357 [some (.ref 367), some (vI 0), none, none, none, none, none] [] B8 none B9 := vc_MD_packBlocks_357 _ (fun S1 q1 S2 q2 => ⟨rfl, by rw [q2, q1]; exact e9⟩)
    have y9 : EY XPb B B9 := by
      refine ⟨by rw [e9]; show B8.2.2 = B.2.2; rw [i1.1, b1.1], fun a k y => ?_⟩
      unfold XPb at y
      rw [at9 a k (by omega), i1.2 a k (by unfold XWb; omega), b1.2 a k (by unfold XPr XTb; omega)]
    have y5 : EY (fun a k => XWb a k ∨ (a = 367 ∧ k = 56)) B5 B9 := by
      refine ⟨by rw [e9]; show B8.2.2 = B5.2.2; rw [i1.1], fun a k y => ?_⟩
      unfold XWb at y
      rw [at9 a k (by omega), i1.2 a k (by unfold XWb; omega)]
    refine ⟨B9, y9, TbK_ey b3 y5 (fun a k y => by unfold XWb at y; omega), ⟨MWt_cg i2.1 (fun a k y => at9 a k (by unfold XW at y; omega)), by rw [e9, wI_at]; rfl, by rw [at9 367 11 (by omega)]; exact i2.2.2⟩, fun y => absurd y (by decide), ?_, vc_MD_packBlocks _ ⟨B1, b8, fun S3 q3 S4 q4 S5 q5 => ?_⟩⟩
    · rw [e9, wI_no _ (by omega), wI_at, i3, b7]
      omega
    · rw [q4, q3, ← b9] at q5
      subst q5
      exact ⟨fun c => absurd (by decide) c, fun _ => i4 _ _ k357⟩
end PLev0
