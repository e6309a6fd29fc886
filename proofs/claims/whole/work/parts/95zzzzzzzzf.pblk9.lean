/-! pack: SORTED whole -/
section PJp9
variable {q : Nat × (Nat → Int32)} {x : Int} {t : Int → Int} {IC : ms → Prop}
theorem jblk9 {fr e : Int} {s : Wb} (hx : 0 ≤ x ∧ x ≤ 6000) (ht : ∀ k : Int, 0 ≤ k → k < x → 0 ≤ t k ∧ t k < 256) (hf : 0 ≤ fr ∧ fr < e ∧ e ≤ x ∧ e = min x (fr + 2000)) (hrs : wbR 1 s) (hs : s.1.1 < 300000) : ∃ (s' : Wb) (z : Int), (wbR 1 s' ∧ s.1.1 ≤ s'.1.1 ∧ s'.1.1 ≤ s.1.1 + 100000) ∧ (∀ (A : ms) (o a1 : Nat) (x3 : Int), isRow o 12000 → 342 < o → TXr A a1 x t → CBt A o 12000 s → ∃ A', EX (XS9 o) A A' ∧ CBt A' o 12000 s' ∧ ∀ (Q : Option Value) (S' : ms), EV q 92 13 [some (.ref 94), some (.ref a1), some (.ref o), some (vI (bX (rot x3 1) z)), some (vI (fr + 2000)), none, none] [] A' Q S' → EV q 92 13 [some (.ref 94), some (.ref a1), some (.ref o), some (vI x3), some (vI fr), none, none] [] A Q S') ∧ ∀ (B : ms) (x1 : Int), (∀ t : Nat, t < 256 → B.1 373 t = tnF 8 (((t : Nat) : Int) * 16777216)) → TXm B x t → MBt B 1 s → ∃ B', EY XS9m B B' ∧ MBt B' 1 s' ∧ ∀ (Q : Option Value) (S' : ms), EV q 318 33 [some (.ref 367), some (vI (bX (rot x1 1) z)), some (vI (fr + 2000)), none, none, none, none, none] [] B' Q S' → EV q 318 33 [some (.ref 367), some (vI x1), some (vI fr), none, none, none, none, none] [] B Q S' := by
  obtain ⟨P, K, hP, hle, hr, hn1, hn2⟩ := bk_ex (x := x) (t := t) (fr := fr) (e := e) ht (by omega)
  obtain ⟨⟨n, u⟩, er⟩ : ∃ nu, rAll t P (ruL t e) K = nu := ⟨_, rfl⟩
  rw [er] at hn1 hn2
  have hn : 1 ≤ n ∧ n ≤ 2500 := ⟨hn1, hn2⟩
  have hu : ∀ i : Nat, i < n → 0 ≤ u i ∧ u i < 256 := fun i hi => by
    have := (hr K (Nat.le_refl _)).1
    rw [er] at this
    exact this i hi
  obtain ⟨R, hR⟩ : ∃ R, Srt u n R := by
    obtain ⟨_, R, _, hR, _⟩ := cl_srt (q := q) (u := u) hn hu (A := (fun a k => if a = 94 then (n : Int) else u k.toNat, fun _ _ => 0, fun _ _ => 0)) rfl (fun j _ => rfl)
    exact ⟨R, hR⟩
  obtain ⟨o0, h0⟩ : ∃ o0 : Nat, o0 < n ∧ R o0 = 0 := hR.1.2 0 (by omega)
  obtain ⟨w, ew⟩ : ∃ w : Nat → Int, ∀ i, w i = u (laF n (R i)) := ⟨_, fun _ => rfl⟩
  obtain ⟨pr, epr⟩ : ∃ pr, pr = prF u n := ⟨_, rfl⟩
  obtain ⟨⟨m, ls0⟩, em⟩ : ∃ ml, ml = sgS pr 256 := ⟨_, rfl⟩
  have sgm := sgS_m pr 256
  rw [← em] at sgm
  have hw : ∀ i : Nat, i < n → (0 ≤ w i ∧ w i < 256) ∧ ∃ j : Nat, j < m ∧ ls0 j = w i := fun i hi => by
    have li := (laF_m (hR.1.1 i hi)).1
    have wi := hu _ li
    rw [← ew] at wi
    refine ⟨wi, ?_⟩
    have p : pr ((w i).toNat : Int) = 1 := by
      rw [show (((w i).toNat : Nat) : Int) = w i by omega, epr]
      exact prF_1.2 ⟨_, li, (ew i).symm⟩
    obtain ⟨j, j1, j2⟩ := sgm.2.2 (w i).toNat (by omega) p
    refine ⟨j, j1, ?_⟩
    rw [show w i = (((w i).toNat : Nat) : Int) by omega]
    exact j2
  have hm : 1 ≤ m ∧ m ≤ 256 := by
    obtain ⟨j, j1, -⟩ := (hw 0 (by omega)).2
    have : m ≤ 256 := sgm.1
    omega
  have mk := mkF_i (w := w) (ls0 := ls0) hm.1 (fun i hi => (hw i hi).2) n (Nat.le_refl _)
  have dn := dgR_n (M := (m : Int) + 2) (by omega) 32 (mkF w ls0 m n).2.1 (mkF w ls0 m n).2.2 mk.2.1
  obtain ⟨sy, esy⟩ : ∃ sy, sy = rPut ((m : Int) + 1) (dgR 32 (mkF w ls0 m n).2.1 (mkF w ls0 m n).2.2) := ⟨_, rfl⟩
  have sy1 : sy.1 = (dgR 32 (mkF w ls0 m n).2.1 (mkF w ls0 m n).2.2).1 + 1 := by rw [esy]; rfl
  have syo : sOk ((m : Int) + 2) sy := by rw [esy]; exact sOk_p dn.1 (by omega)
  obtain ⟨z, ez⟩ : ∃ z : Int, z = -(crT (fun k => t (fr + k)) (e - fr).toNat : Nat) - 1 := ⟨_, rfl⟩
  have m1 := wbHigh_n 48 54156738319193 s
  have r1 := wbHigh_r 48 54156738319193 s hrs
  have m2 := wbHigh_n 32 (w32 z % 4294967296) (wbHigh 48 54156738319193 s)
  have r2 := wbHigh_r 32 (w32 z % 4294967296) _ r1
  have m3 := wbHigh_n 1 0 (wbHigh 32 (w32 z % 4294967296) (wbHigh 48 54156738319193 s))
  have r3 := wbHigh_r 1 0 _ r2
  have m4 := wbHigh_n 24 o0 (wbHigh 1 0 (wbHigh 32 (w32 z % 4294967296) (wbHigh 48 54156738319193 s)))
  have r4 := wbHigh_r 24 o0 _ r3
  have m5 := hbA_r (gbF pr) 16 0 _ r4
  have m6 := hbB_r pr (gbF pr) 16 0 _ m5.1
  obtain ⟨s6, es6⟩ : ∃ s6, s6 = hbB pr (gbF pr) 0 16 (hbA (gbF pr) 0 16 (wbHigh 24 o0 (wbHigh 1 0 (wbHigh 32 (w32 z % 4294967296) (wbHigh 48 54156738319193 s))))) := ⟨_, rfl⟩
  rw [← es6] at m6
  obtain ⟨s', ⟨v1, v2, v3⟩, vc', vm⟩ := jsyo (q := q) (sy := sy) (m := m) (s := s6) hm (by omega) syo m6.1 (by omega)
  refine ⟨s', z, ⟨v1, by omega, by omega⟩, fun A o a1 x3 ho o3 hA h => ?_, fun B x1 hq hB h => ?_⟩
  · exact cl_blk9 (x3 := x3) hx hf hP hle hr er hn hR h0 ew epr em hm esy ez hrs hs (fun A h9 hC hb => vc' A o ho o3 h9 hC (by rw [es6]; exact hb)) ho o3 hA h
  · exact md_blk9 (x1 := x1) hx hf hP hr er hn hR h0 ew epr em hm esy ez hrs hs (fun B hC hb => vm B hC (by rw [es6]; exact hb)) hq hB h
theorem jall9 (hx : 0 ≤ x ∧ x ≤ 6000) (ht : ∀ k : Int, 0 ≤ k → k < x → 0 ≤ t k ∧ t k < 256) : ∀ (v : Nat) (fr y : Int) (s : Wb), 0 ≤ fr → fr ≤ 8000 → x ≤ fr + 2000 * v → wbR 1 s → s.1.1 + 100000 * v < 380000 → ∃ s' : Wb, (wbR 1 s' ∧ s.1.1 ≤ s'.1.1 ∧ s'.1.1 < 900000) ∧ (∀ (A : ms) (o a1 : Nat), isRow o 12000 → 342 < o → TXr A a1 x t → CBt A o 12000 s → ∃ A', EX (XS9 o) A A' ∧ CBt A' o 12000 (wbEnd s') ∧ EV q 92 13 [some (.ref 94), some (.ref a1), some (.ref o), some (vI y), some (vI fr), none, none] [] A none A') ∧ ∀ B : ms, (∀ t : Nat, t < 256 → B.1 373 t = tnF 8 (((t : Nat) : Int) * 16777216)) → TXm B x t → MBt B 1 s → ∃ B', EY XS9m B B' ∧ MBt B' 1 (wbEnd s') ∧ EV q 318 33 [some (.ref 367), some (vI y), some (vI fr), none, none, none, none, none] [] B none B' := by
  have fin : ∀ (fr y : Int) (s : Wb), 0 ≤ fr → fr ≤ 8000 → x ≤ fr → wbR 1 s → s.1.1 < 380000 → ∃ s' : Wb, (wbR 1 s' ∧ s.1.1 ≤ s'.1.1 ∧ s'.1.1 < 900000) ∧ (∀ (A : ms) (o a1 : Nat), isRow o 12000 → 342 < o → TXr A a1 x t → CBt A o 12000 s → ∃ A', EX (XS9 o) A A' ∧ CBt A' o 12000 (wbEnd s') ∧ EV q 92 13 [some (.ref 94), some (.ref a1), some (.ref o), some (vI y), some (vI fr), none, none] [] A none A') ∧ ∀ B : ms, (∀ t : Nat, t < 256 → B.1 373 t = tnF 8 (((t : Nat) : Int) * 16777216)) → TXm B x t → MBt B 1 s → ∃ B', EY XS9m B B' ∧ MBt B' 1 (wbEnd s') ∧ EV q 318 33 [some (.ref 367), some (vI y), some (vI fr), none, none, none, none, none] [] B none B' := fun fr y s f0 f8 hxf hr hs => by
    have m1 := wbHigh_n 48 25779555029136 s
    have r1 := wbHigh_r 48 25779555029136 s hr
    obtain ⟨s1, es1⟩ : ∃ s1, s1 = wbHigh 48 25779555029136 s := ⟨_, rfl⟩
    rw [← es1] at m1 r1
    have m2 := wbHigh_n 32 (w32 y % 4294967296) s1
    have r2 := wbHigh_r 32 (w32 y % 4294967296) s1 r1
    obtain ⟨s2, es2⟩ : ∃ s2, s2 = wbHigh 32 (w32 y % 4294967296) s1 := ⟨_, rfl⟩
    rw [← es2] at m2 r2
    refine ⟨s2, ⟨r2, by omega, by omega⟩, fun A o a1 ho o3 hA h => ?_, fun B hq hB h => ?_⟩
    · obtain ⟨A1, a1', a2, a3⟩ := cw_high_bits (q := q) (v := 25779555029136) (n := 48) (by decide) (by decide) ho (by decide) hr (by omega) h
      rw [← es1] at a3
      obtain ⟨A2, b1, b2, b3⟩ := cw_high_32 (q := q) (v := w32 y) ho (by decide) r1 (by omega) a3
      rw [← es2] at b3
      obtain ⟨A3, c1, c2, c3⟩ := cw_close (q := q) ho b3
      refine ⟨A3, ((a2.trans b2).trans c2).mono (fun a k w => Or.inl w), c3, vc_Sorted_packSorted_13 _ _ _ _ hA.1.1 _ _ ho ?_⟩
      rw [hA.2.1, w32_of (x := x) (by omega), w32_of (x := fr) (by omega)]
      exact cY hxf ⟨A1, a1', A2, b1, A3, c1, rfl, rfl⟩
    · obtain ⟨B1, a1', a2, a3, -⟩ := mw_high_bits (q := q) (v := 25779555029136) (n := 48) (by decide) (by decide) hr (by omega) h
      rw [← es1] at a3
      obtain ⟨B2, b1, b2, b3, -⟩ := mw_high_bits (q := q) (v := w32 y % 4294967296) (n := 32) (by omega) (by decide) r1 (by omega) a3
      rw [← es2] at b3
      obtain ⟨B3, c1, c2, c3, -⟩ := mw_fill (q := q) r2 b3
      refine ⟨B3, (((a2.trans b2).trans c2).mono (Y := XS9m) (fun a k w => Or.inl w)).ey, c3, vc_MD_packSorted_33 _ _ ?_⟩
      rw [hB.1, w32_of (x := x) (by omega), w32_of (x := fr) (by omega)]
      exact cY hxf ⟨B1, a1', B2, b1, B3, c1, rfl, rfl⟩
  intro v
  induction v with
  | zero =>
    intro fr y s f0 f8 hv hr hs
    exact fin fr y s f0 f8 (by omega) hr (by omega)
  | succ v ih =>
    intro fr y s f0 f8 hv hr hs
    by_cases c : x ≤ fr
    · exact fin fr y s f0 f8 c hr (by omega)
    · obtain ⟨s1, z, ⟨u1, u2, u3⟩, uc, um⟩ := jblk9 (q := q) (x := x) (t := t) (fr := fr) (e := min x (fr + 2000)) (s := s) hx ht (by omega) hr (by omega)
      obtain ⟨s', ⟨w1, w2, w3⟩, wc, wm⟩ := ih (fr + 2000) (bX (rot y 1) z) s1 (by omega) (by omega) (by omega) u1 (by omega)
      refine ⟨s', ⟨w1, by omega, w3⟩, fun A o a1 ho o3 hA h => ?_, fun B hq hB h => ?_⟩
      · obtain ⟨A1, a1', a2, a3⟩ := uc A o a1 y ho o3 hA h
        obtain ⟨A', g1, g2, g3⟩ := wc A1 o a1 ho o3 ⟨hA.1, by rw [a1'.2 a1 1 (by have := hA.1.2; unfold XS9 XRb; omega)]; exact hA.2.1, fun k k0 k1 => by rw [a1'.2 (a1 + 1) k (by have := hA.1.2; unfold XS9 XRb; omega)]; exact hA.2.2 k k0 k1⟩ a2
        exact ⟨A', a1'.trans g1, g2, a3 _ _ g3⟩
      · obtain ⟨B1, a1', a2, a3⟩ := um B y hq hB h
        obtain ⟨B', g1, g2, g3⟩ := wm B1 (fun t ht => by rw [a1'.2 373 t (by unfold XS9m XWb; omega)]; exact hq t ht) (TXm_e hB (fun a k y => a1'.2 a k (by unfold XS9m XWb; omega))) a2
        exact ⟨B', a1'.trans g1, g2, a3 _ _ g3⟩
theorem wtPut_eq {a b : Int} (h : a % 256 = b % 256) (w : Wt) : wtPut a w = wtPut b w := by unfold wtPut; rw [h]
theorem h4_eq : wtHi 4 1113221169 w00 = wtPut 49 (wtPut 104 (wtPut 90 (wtPut 66 w00))) := by
  rw [wtHi_s, wtHi_s, wtHi_s, wtHi_s, wtPut_eq (a := 1113221169 / (2 : Int) ^ (8 * 3)) (b := 66) (by decide), wtPut_eq (a := 1113221169 / (2 : Int) ^ (8 * 2)) (b := 90) (by decide), wtPut_eq (a := 1113221169 / (2 : Int) ^ (8 * 1)) (b := 104) (by decide), wtPut_eq (a := 1113221169 / (2 : Int) ^ (8 * 0)) (b := 49) (by decide)]
  rfl
theorem jp_9 (hx : 0 ≤ x ∧ x ≤ 6000) (ht : ∀ k : Int, 0 ≤ k → k < x → 0 ≤ t k ∧ t k < 256) : JPw q IC 9 0 x t := by
  have hr4 := wtHi_r 1113221169 4 w00 w00_O
  obtain ⟨w4, ew4⟩ : ∃ w4, w4 = wtHi 4 1113221169 w00 := ⟨_, rfl⟩
  have ep := h4_eq
  rw [← ew4] at hr4 ep
  have n4 : w4.1 = 4 := by rw [hr4.1]; rfl
  obtain ⟨s', ⟨v1, v2, v3⟩, vc', vm⟩ := jall9 (q := q) (x := x) (t := t) hx ht 3 0 0 (w4, 0) (by decide) (by decide) (by omega) ⟨⟨by show 0 ≤ w4.1; omega, hr4.2⟩, by show (0 : Nat) < 8; decide, fun c => absurd rfl c⟩ (by show w4.1 + 100000 * ((3 : Nat) : Int) < 380000; omega)
  have v2' : w4.1 ≤ s'.1.1 := v2
  refine ⟨s'.1, fun _ => (0, 0, 0), 0, 0, ⟨⟨by omega, v1.1.2⟩, by decide, fun _ => rfl, fun _ => rfl⟩, fun A o ho o3 _ hA h h8 => ?_, fun B hQ hK hB h => ?_⟩
  · obtain ⟨A1, k1, k2, k3⟩ := cw_high (q := q) (v := 1113221169) (x3 := 4) (by decide) ho 4 A w00 (by decide) (by decide) h.1
    rw [← ew4] at k2
    have h1 : CBt A1 o 12000 (w4, 0) := ⟨k2, by rw [k1.2 o 3 (by unfold XRo; omega)]; exact h.2⟩
    obtain ⟨A', g1, g2, g3⟩ := vc' A1 o 1 ho o3 (TXc_r (TXc_e hA (fun a k y => k1.2 a k (by unfold XRo; omega)))) h1
    have xx : EX (XPa o) A A' := (k1.mono (fun a k y => by unfold XRo at y; unfold XPa XRb; omega)).trans (g1.mono (fun a k y => by unfold XS9 XRb at y; unfold XPa XRb; omega))
    have e8 : A'.1 10 8 = 0 := by rw [g1.2 10 8 (by unfold XS9 XRb; omega), k1.2 10 8 (by unfold XRo; omega)]; exact h8
    refine ⟨A', A.2.2 10 2, 0, fun _ => rfl, by rw [wR_id]; exact xx.ey, g2.1, ⟨e8, fun k k0 k1 => absurd k0 (by omega)⟩, vc_PH_packKind _ _ _ _ ho ⟨fun c => absurd c (by decide), fun c => absurd c (by decide), fun c => absurd c (by decide), fun c => absurd c (by decide), fun c => absurd c (by decide), fun c => absurd c (by decide), fun c => absurd c (by decide), fun c => absurd c (by decide), fun _ => ⟨A', vc_Sorted_packSorted 1 6000 tr_row _ _ ho ⟨A1, vc_Row_addHigh _ _ _ _ ho k3, g3⟩, rfl, rfl⟩, fun _ _ _ _ _ _ _ _ c => absurd (by decide) c⟩⟩
  · obtain ⟨B0, e0⟩ : ∃ B0, B0 = wI B 367 11 1 := ⟨_, rfl⟩
    have at0 : ∀ (a : Nat) (k : Int), ¬ (a = 367 ∧ k = 11) → B0.1 a k = B.1 a k := fun a k y => by rw [e0, wI_no _ y]
    have h0 : MWt B0 w00 := MWt_cg h.1 (fun a k y => by unfold XW at y; exact at0 a k (by omega))
    obtain ⟨B1, a1, a2, a3⟩ := mw_put (q := q) 66 (by show (0 : Int) ≤ 0 ∧ (0 : Int) < 1000000000; decide) h0
    obtain ⟨B2, b1, b2, b3⟩ := mw_put (q := q) 90 (by show (0 : Int) ≤ 0 + 1 ∧ (0 : Int) + 1 < 1000000000; decide) a3
    obtain ⟨B3, c1, c2, c3⟩ := mw_put (q := q) 104 (by show (0 : Int) ≤ 0 + 1 + 1 ∧ (0 : Int) + 1 + 1 < 1000000000; decide) b3
    obtain ⟨B4, d1, d2, d3⟩ := mw_put (q := q) 49 (by show (0 : Int) ≤ 0 + 1 + 1 + 1 ∧ (0 : Int) + 1 + 1 + 1 < 1000000000; decide) c3
    rw [← ep] at d3
    have x4 : EX XW B0 B4 := ((a2.trans b2).trans c2).trans d2
    have h4 : MBt B4 1 (w4, 0) := ⟨d3, by rw [x4.2 367 10 (by unfold XW; omega), at0 _ _ (by omega)]; exact h.2.1, by rw [x4.2 367 11 (by unfold XW; omega), e0, wI_at]⟩
    have at4 : ∀ (a : Nat) (k : Int), ¬ XW a k → ¬ (a = 367 ∧ k = 11) → B4.1 a k = B.1 a k := fun a k y z => by rw [x4.2 a k y, at0 a k z]
    obtain ⟨B', g1, g2, g3⟩ := vm B4 (fun t ht => by rw [at4 373 t (by unfold XW; omega) (by omega)]; exact hQ.2 t ht) (TXm_e hB (fun a k y => at4 a k (by unfold XW; omega) (by omega))) h4
    have y0 : EY (fun a k => XW a k ∨ (a = 367 ∧ k = 11)) B B4 := ⟨by rw [x4.1, e0]; rfl, fun a k y => at4 a k (fun z => y (Or.inl z)) (fun z => y (Or.inr z))⟩
    have yy : EY XPb B B' := (y0.mono (fun a k y => by unfold XW at y; unfold XPb; omega)).trans (g1.mono (fun a k y => by unfold XS9m XWb at y; unfold XPb; omega))
    have tb : TbK B' := TbK_ey (TbK_ey hK y0 (fun a k y => by unfold XW at y; omega)) g1 (fun a k y => by unfold XS9m XWb at y; omega)
    refine ⟨B', yy, tb, g2.1, fun c => absurd c (by unfold tkK; decide), fun c => absurd c (by decide), vc_MD_packAs _ _ ⟨fun c => absurd c (by decide), fun c => absurd c (by decide), fun c => absurd c (by decide), fun c => absurd c (by decide), fun c => absurd c (by decide), fun c => absurd c (by decide), fun c => absurd c (by decide), fun c => absurd c (by decide), fun _ => ⟨B', vc_MD_packSorted (fun S1 q1 => by rw [q1, ← e0]; exact ⟨B1, a1, B2, b1, B3, c1, B4, d1, g3⟩), rfl, rfl⟩, fun _ _ _ _ _ _ _ _ c => absurd (by decide) c⟩⟩
end PJp9
