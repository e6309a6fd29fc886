/-! pack: FRAME -/
section PFrame2
variable {q : Nat × (Nat → Int32)} {x : Int} {t : Int → Int} {IC : ms → Prop}
/-- put, and what it leaves as it was -/
theorem mw_putF {B : ms} {w : Wt} (v : Int) (hw : 0 ≤ w.1 ∧ w.1 < 1000000000) (h : MWt B w) : ∃ B', EV q 282 0 [some (.ref 367), some (vI v)] [] B none B' ∧ EX XW B B' ∧ MWt B' (wtPut v w) ∧ ∀ k : Int, k ≠ w.1 → B'.1 374 k = B.1 374 k := by
  obtain ⟨h1, h2⟩ := h
  have ww : w32 w.1 = w.1 := w32_of (by omega)
  have x1 : XW 367 9 := Or.inl ⟨rfl, rfl⟩
  have x2 : ∀ k, XW 374 k := fun k => Or.inr rfl
  have k21 : ∀ B : ms, B.1 367 9 = w.1 → EV q 282 21 [some (.ref 367), some (vI v)] [] B none (wI B 367 9 (w.1 + 1)) := fun B e => vc_MD_put_21 _ (fun S1 f1 => ⟨rfl, by rw [e] at f1; exact f1.symm⟩)
  by_cases c : 30000 ≤ w.1
  · refine ⟨_, vc_MD_put _ (by rw [h1, ww]; exact cY c (k21 B h1)), (EX.refl _ _).wr x1, ⟨?_, fun k k0 k1 k2 => ?_⟩, fun k _ => wI_no _ (by omega)⟩
    · rw [rI_I, if_pos ⟨rfl, rfl⟩]
      rfl
    · rw [rI_I, if_neg (by omega), h2 k k0 (by omega) k2]
      show _ = b8 (if k = w.1 then v % 256 else w.2 k)
      rw [if_neg (by omega)]
  · have e9 : (wI B 374 w.1 (b8 (b8 v))).1 367 9 = w.1 := by rw [rI_I, if_neg (by omega), h1]
    refine ⟨_, vc_MD_put _ (by
      rw [h1, ww]
      exact cNo c ⟨by omega, fun S2 f2 => by subst f2; exact k21 _ e9⟩), ((EX.refl _ _).wr (x2 _)).wr x1, ⟨?_, fun k k0 k1 k2 => ?_⟩, fun k hk => by rw [wI_no _ (by omega), wI_no _ (by omega)]⟩
    · rw [rI_I, if_pos ⟨rfl, rfl⟩]
      rfl
    · rw [wtPut_1] at k1
      rw [rI_I, if_neg (by omega), rI_I]
      show _ = b8 (if k = w.1 then v % 256 else w.2 k)
      by_cases ck : k = w.1
      · rw [if_pos ⟨rfl, ck⟩, if_pos ck]
        unfold b8
        omega
      · rw [if_neg (fun y => ck y.2), if_neg ck, h2 k k0 (by omega) k2]
theorem mw_lowF {B : ms} {w : Wt} (v : Int) {n : Nat} (hn : n ≤ 8) (hw : 0 ≤ w.1 ∧ w.1 < 900000000) (h : MWt B w) : ∃ B', EV q 291 0 [some (.ref 367), some (vL v), none, some (vI n), none] [] B none B' ∧ EX XW B B' ∧ MWt B' (wtPuts (loF v) n w) ∧ ∀ k : Int, w.1 + n ≤ k → B'.1 374 k = B.1 374 k := by
  have lp : ∀ (m i : Nat) (B1 : ms), i + m = n → EX XW B B1 → MWt B1 (wtPuts (loF v) i w) → (∀ k : Int, w.1 + n ≤ k → B1.1 374 k = B.1 374 k) → ∃ B', EV q 291 3 [some (.ref 367), some (vL v), none, some (vI n), some (vI i)] [] B1 none B' ∧ EX XW B B' ∧ MWt B' (wtPuts (loF v) n w) ∧ ∀ k : Int, w.1 + n ≤ k → B'.1 374 k = B.1 374 k := by
    intro m
    induction m with
    | zero =>
      intro i B1 hi e1 h1 h2
      have e : i = n := by omega
      subst e
      exact ⟨B1, vc_MD_low_3 _ _ _ (cY (Int.le_refl _) ⟨rfl, rfl⟩), e1, h1, h2⟩
    | succ m ih =>
      intro i B1 hi e1 h1 h2
      have wn : Unit → w32 ((n : Nat) : Int) = n := fun _ => w32_of (by omega)
      have wi : Unit → w32 ((i : Nat) : Int) = i := fun _ => w32_of (by omega)
      have z0 : ¬ (n : Int) ≤ i := by omega
      obtain ⟨B2, k1, k2, k3, k4⟩ := mw_putF (q := q) (loF v i) (by rw [wtPuts_1]; omega) h1
      rw [← wtPuts_s] at k3
      obtain ⟨B', j1, j2⟩ := ih (i + 1) B2 (by omega) (e1.trans k2) k3 (fun k hk => by rw [k4 k (by rw [wtPuts_1]; omega)]; exact h2 k hk)
      rw [show ((i + 1 : Nat) : Int) = (i : Int) + 1 by omega] at j1
      refine ⟨B', vc_MD_low_3 _ _ _ ?_, j2⟩
      rw [wn (), wi ()]
      exact cNo z0 ⟨B2, k1, j1⟩
  obtain ⟨B', k1, k2⟩ := lp n 0 B (by omega) (EX.refl _ _) h (fun _ _ => rfl)
  exact ⟨B', vc_MD_low _ _ k1, k2⟩
theorem lo_fr (w : Wt) : wtPuts (loF 407708164) 4 w = wtPut 24 (wtPut 77 (wtPut 34 (wtPut 4 w))) := by
  show wtPut (loF 407708164 3) (wtPut (loF 407708164 2) (wtPut (loF 407708164 1) (wtPut (loF 407708164 0) w))) = _
  rw [wtPut_m (show loF 407708164 3 % 256 = 24 % 256 by decide), wtPut_m (show loF 407708164 2 % 256 = 77 % 256 by decide), wtPut_m (show loF 407708164 1 % 256 = 34 % 256 by decide), wtPut_m (show loF 407708164 0 % 256 = 4 % 256 by decide)]
theorem lo_31 (hx : 0 ≤ x ∧ x ≤ 6000) (w : Wt) : wtPuts (loF (lO x 2147483648)) 4 w = wtPuts (loF (x + 2147483648)) 4 w ∧ wtPuts (loF (w32 (bO x (-2147483648)))) 4 w = wtPuts (loF (x + 2147483648)) 4 w := by
  have e1 : lO x 2147483648 = x + 2147483648 := by
    have := lO_s (a := x) (b := 1) (k := 31) ⟨hx.1, by show x < 2147483648; omega⟩ (by decide) (by decide) (by decide)
    exact this
  have e2 : w32 (bO x (-2147483648)) = x - 2147483648 := by
    have h2 : bO (-2147483648) x = x + 2147483648 := by
      obtain ⟨n, en⟩ : ∃ n : Nat, x = n := ⟨x.toNat, by omega⟩
      subst en
      unfold bO
      have h := Nat.two_pow_add_eq_or_of_lt (i := 31) (b := n) (by show n < 2147483648; omega) 1
      rw [show ((-2147483648 : Int) % 4294967296).toNat = 2 ^ 31 * 1 by decide, show ((n : Int) % 4294967296).toNat = n by omega, ← h]
      omega
    rw [bO_comm, h2]
    unfold w32
    omega
  rw [e1, e2]
  refine ⟨rfl, wtPuts_cg 4 (fun k hk => ?_)⟩
  have h4 : k = 0 ∨ k = 1 ∨ k = 2 ∨ k = 3 := by omega
  unfold loF
  rw [w64_of (by omega), w64_of (by omega)]
  rcases h4 with e | e | e | e <;> subst e
  · show (x - 2147483648) / 1 % 256 = (x + 2147483648) / 1 % 256
    omega
  · show (x - 2147483648) / 256 % 256 = (x + 2147483648) / 256 % 256
    omega
  · show (x - 2147483648) / 65536 % 256 = (x + 2147483648) / 65536 % 256
    omega
  · show (x - 2147483648) / 16777216 % 256 = (x + 2147483648) / 16777216 % 256
    omega
theorem mw_oct4 {x1 x2 x3 : Int} (hx : 0 ≤ x ∧ x ≤ 6000) : ∀ (d i : Nat) (B : ms) (w : Wt), i + d = x.toNat → (0 ≤ w.1 ∧ w.1 < 1000000) → TXm B x t → MWt B (wtPuts (fun j => t j) i w) → ∃ B', EX XW B B' ∧ MWt B' (wtPuts (fun j => t j) x.toNat w) ∧ ∀ (R : Option Value) (T : ms), EV q 314 189 [some (.ref 367), none, none, none, none] [] B' R T → EV q 314 163 [some (.ref 367), some (vI x1), some (vI x2), some (vI x3), some (vI i)] [] B R T := by
  intro d
  induction d with
  | zero =>
    intro i B w hi hw hB h
    have e : i = x.toNat := by omega
    subst e
    refine ⟨B, EX.refl _ B, h, fun R T k => vc_MD_packFrame_163 _ _ _ _ ?_⟩
    rw [hB.1, show ((x.toNat : Nat) : Int) = x by omega]
    exact cY (Int.le_refl _) k
  | succ d ih =>
    intro i B w hi hw hB h
    have wi : Unit → w32 (i : Int) = i := fun _ => w32_of (by omega)
    have hti := hB.2 i (by omega) (by omega)
    obtain ⟨B1, k1, k2, k3⟩ := mw_put (q := q) (b8 (t i)) (by rw [wtPuts_1]; omega) h
    rw [wtPut_m (show b8 (t i) % 256 = t i % 256 by unfold b8; omega), ← wtPuts_s (fun j => t j)] at k3
    obtain ⟨B', k4, k5, k6⟩ := ih (i + 1) B1 w (by omega) hw (TXm_x hB k2) k3
    refine ⟨B', k2.trans k4, k5, fun R T k => vc_MD_packFrame_163 _ _ _ _ ?_⟩
    have k7 := k6 R T k
    rw [show ((i + 1 : Nat) : Int) = (i : Int) + 1 by omega] at k7
    rw [hB.1, w32_of (x := x) (by omega), wi (), hti.2]
    exact cNo (by omega) ⟨by omega, B1, k1, k7⟩
def fhW (z : Int) : Wt := wtPut (z % 4294967296 / 256) (wtPut 64 (wtPut 100 (wtPut 24 (wtPut 77 (wtPut 34 (wtPut 4 w00))))))
theorem fhW_1 (z : Int) : (fhW z).1 = 7 := rfl
theorem fhW_O (z : Int) : wtO (fhW z) := wtO_put _ (wtO_put _ (wtO_put _ (wtO_put _ (wtO_put _ (wtO_put _ (wtO_put _ w00_O))))))
def fmW (t : Int → Int) (x : Int) (v w : Wt) : Wt := if x = 0 then w else if v.1 < x then wtPuts (fun j => v.2 j) v.1.toNat (wtPuts (loF v.1) 4 w) else wtPuts (fun j => t j) x.toNat (wtPuts (loF (x + 2147483648)) 4 w)
theorem fmW_r {v w : Wt} (hx : 0 ≤ x ∧ x ≤ 6000) (hv : 0 ≤ v.1) (h : wtO w) : (w.1 ≤ (fmW t x v w).1 ∧ (fmW t x v w).1 ≤ w.1 + 6004) ∧ wtO (fmW t x v w) := by
  unfold fmW
  split
  · exact ⟨by omega, h⟩
  · split
    · exact ⟨by rw [wtPuts_1, wtPuts_1]; omega, wtO_puts _ (wtO_puts _ h _) _⟩
    · exact ⟨by rw [wtPuts_1, wtPuts_1]; omega, wtO_puts _ (wtO_puts _ h _) _⟩
theorem jp_frame (hx : 0 ≤ x ∧ x ≤ 6000) (ht : ∀ k : Int, 0 ≤ k → k < x → 0 ≤ t k ∧ t k < 256) : JP q IC 7 0 x t := by
  obtain ⟨T, K, F, f1, f2, f3, f4, f5⟩ := jFst (q := q) hx ht
  obtain ⟨z, zc, zm⟩ := jx (q := q) 2 (fun k => if k = 0 then 100 else 64)
  obtain ⟨z2, yc, ym⟩ := jmix (q := q) (en := x) ht 0 x.toNat (by omega) hx.2
  rw [show (0 : Int) + (x.toNat : Nat) = x by omega] at yc
  rw [show ((x.toNat : Nat) : Int) = x by omega] at ym
  have wx : w32 x = x := w32_of (by omega)
  obtain ⟨v, ev⟩ : ∃ v, v = F w00 := ⟨_, rfl⟩
  have r := f2 w00 w00_O
  rw [← ev] at r
  have r0 : (0 : Int) ≤ v.1 ∧ v.1 ≤ 0 + 700000 := r.1
  have hO7 := fhW_O z
  have h71 := fhW_1 z
  obtain ⟨w7, e7⟩ : ∃ w7, w7 = fhW z := ⟨_, rfl⟩
  rw [← e7] at hO7 h71
  have rm := fmW_r (t := t) (v := v) (w := w7) hx r0.1 hO7
  obtain ⟨wm, em⟩ : ∃ wm, wm = fmW t x v w7 := ⟨_, rfl⟩
  rw [← em] at rm
  refine ⟨wtPuts (loF (w32 z2)) 4 (wtPuts (loF 0) 4 wm), T, K, 0, ⟨⟨by rw [wtPuts_1, wtPuts_1]; omega, wtO_puts _ (wtO_puts _ rm.2 _) _⟩, by omega, fun c => absurd (Or.inr (by decide)) c, fun _ => rfl⟩, fun A o ho o3 _ hA h h8 => ?_, fun B _ hK hB h => ?_⟩
  · -- the class
    obtain ⟨A1, a1, a2, a3⟩ := cw_low (q := q) 407708164 (n := 4) (by decide) ho (by decide) (by decide) h.1
    rw [lo_fr] at a3
    obtain ⟨A2, b1, b2, b3⟩ := cw_put (q := q) 100 ho (by decide) (by decide) a3
    obtain ⟨A3, c1, c2, c3⟩ := cw_put (q := q) 64 ho (by decide) (by decide) b3
    have kz := zc A3 (o + 1) 12000 4 ⟨ho.2, by decide, by decide, by decide, fun k hk => by
      have e := (c3.1 (by decide)).2.2
      have hk2 : k = 0 ∨ k = 1 := by omega
      rcases hk2 with e' | e' <;> subst e'
      · exact ⟨by decide, e 4 (by decide) (by decide)⟩
      · exact ⟨by decide, e 5 (by decide) (by decide)⟩⟩
    obtain ⟨A4, d1, d2, d3⟩ := cw_put (q := q) (z % 4294967296 / 256) ho (by decide) (by decide) c3
    have x4 : EX (XRo o) A A4 := ((a2.trans b2).trans c2).trans d2
    have hA4 := TXc_x o3 hA x4
    have kcl := sp_clear (q := q) (S := A4) (o := 7) (N := 12000) ⟨rfl, rfl⟩
    obtain ⟨A5, e5⟩ : ∃ A5, A5 = CL A4 7 := ⟨_, rfl⟩
    rw [← e5] at kcl
    have at5 : ∀ (a : Nat) (k : Int), a ≠ 7 → A5.1 a k = A4.1 a k := fun a k y => by rw [e5, CL_n _ y]
    have hA5 : TXc A5 x t := TXc_e hA4 (fun a k y => at5 a k (by omega))
    have h5 : CWt A5 7 12000 w00 := by
      refine ⟨fun _ => ⟨?_, ?_, fun k k0 k1 => absurd k1 (by show ¬ k < 0; omega)⟩, fun y => absurd y (by decide)⟩
      · rw [e5, CL_1]; rfl
      · rw [e5, CL_at, if_neg (by decide), if_pos ⟨rfl, rfl⟩]
    obtain ⟨A6, g1, g2, g3, g4⟩ := f4 A5 7 w00 ⟨rfl, rfl⟩ (Or.inl rfl) hA5 w00_O (by decide) h5
    rw [← ev] at g2
    have at6 : ∀ (a : Nat) (k : Int), ¬ (XTc a k ∨ X4 a k ∨ XFu a k ∨ XRo 7 a k) → A6.1 a k = A5.1 a k := fun a k y => g1.2 a k y
    have hA6 : TXc A6 x t := TXc_e hA5 (fun a k y => at6 a k (by unfold XTc X4 XFu XRo; omega))
    have h6 : CWt A6 o 12000 w7 := by
      rw [e7]
      exact CWt_cg d3 (fun a k y => by unfold XRo at y; rw [at6 a k (by unfold XTc X4 XFu XRo; omega), at5 a k (by omega)])
    -- the middle
    have en : ∀ (A7 : ms), EX (XRo o) A6 A7 → CWt A7 o 12000 wm → ∃ A', EX (XRo o) A6 A' ∧ CWt A' o 12000 (wtPuts (loF (w32 z2)) 4 (wtPuts (loF 0) 4 wm)) ∧ EV q 87 153 [some (.ref 29), some (.ref 1), some (.ref o)] [] A7 none A' := fun A7 y1 y2 => by
      obtain ⟨A8, i1, i2, i3⟩ := cw_low (q := q) 0 (n := 4) (by decide) ho (by decide) (by omega) y2
      obtain ⟨A9, j1, j2, j3⟩ := cw_low (q := q) (w32 z2) (n := 4) (by decide) ho (by decide) (by rw [wtPuts_1]; omega) i3
      have hA8 := TXc_x o3 (TXc_x o3 hA6 y1) i2
      refine ⟨A9, (y1.trans i2).trans j2, j3, vc_Copies_packFrame_153 1 6000 tr_row _ _ ho ⟨A8, i1, z2, A8, ?_, A9, j1, rfl, rfl⟩⟩
      rw [hA8.1]
      exact yc A8 (fun k k0 k1 => (hA8.2 k k0 k1).2)
    have fin : ∃ A', EX (XRo o) A6 A' ∧ CWt A' o 12000 (wtPuts (loF (w32 z2)) 4 (wtPuts (loF 0) 4 wm)) ∧ ((w32 (A6.1 1 1) ≤ 0) → EV q 87 119 [some (.ref 29), some (.ref 1), some (.ref o)] [] A6 none A') ∧ ((¬ w32 (A6.1 1 1) ≤ 0) → ((w32 (A6.1 1 1) ≤ w32 (A6.1 7 1)) → EV q 87 119 [some (.ref 29), some (.ref 1), some (.ref o)] [] A6 none A') ∧ ((¬ w32 (A6.1 1 1) ≤ w32 (A6.1 7 1)) → ((¬ w32 (A6.1 7 2) = 0) → EV q 87 119 [some (.ref 29), some (.ref 1), some (.ref o)] [] A6 none A') ∧ ((¬ (¬ w32 (A6.1 7 2) = 0)) → ∃ (S16 : ms), EV q 57 0 [some (.ref o), some (vL (w32 (A6.1 7 1))), none, some (vI 4), none] [] A6 none S16 ∧ ∃ (S18 : ms), EV q 38 0 [some (.ref o), some (.ref 8), some (vI 0), some (vI (S16.1 7 1)), none] [] S16 none S18 ∧ EV q 87 153 [some (.ref 29), some (.ref 1), some (.ref o)] [] S18 none A'))) := by
      rw [hA6.1, wx]
      by_cases c0 : x = 0
      · have e : wm = w7 := by rw [em]; unfold fmW; rw [if_pos c0]
        obtain ⟨A', i1, i2, i3⟩ := en A6 (EX.refl _ _) (by rw [e]; exact h6)
        have k119 : EV q 87 119 [some (.ref 29), some (.ref 1), some (.ref o)] [] A6 none A' := vc_Copies_packFrame_119 1 6000 tr_row _ _ ho (by rw [hA6.1, wx]; exact cY (by omega) i3)
        exact ⟨A', i1, i2, fun _ => k119, fun y => absurd (by omega) y⟩
      · have c0' : ¬ x ≤ 0 := by omega
        by_cases c1 : v.1 < x
        · have e : wm = wtPuts (fun j => v.2 j) v.1.toNat (wtPuts (loF v.1) 4 w7) := by rw [em]; unfold fmW; rw [if_neg c0, if_pos c1]
          obtain ⟨v1, v2, v3⟩ := g2.1 (by omega)
          obtain ⟨A7, i1, i2, i3⟩ := cw_low (q := q) v.1 (n := 4) (by decide) ho (by decide) (by omega) h6
          have at7 : ∀ (k : Int), 0 ≤ k → k < v.1 → A7.1 8 k = v.2 k := fun k k0 k1 => by rw [i2.2 8 k (by unfold XRo; omega)]; exact v3 k k0 k1
          obtain ⟨A8, j1, j2, j3⟩ := cw_span (q := q) (a1 := 8) (n1 := 12000) (b := 0) (n := v.1.toNat) (g := fun j => v.2 j) rfl (by omega) (by decide) (fun j hj => ⟨r.2 j, by rw [show ((0 : Nat) : Int) + (j : Int) = j by omega]; exact at7 j (by omega) (by omega)⟩) ho (by decide) (by rw [wtPuts_1]; omega) i3
          rw [show ((0 : Nat) : Int) + (v.1.toNat : Int) = v.1 by omega] at j1
          obtain ⟨A', l1, l2, l3⟩ := en A8 (i2.trans j2) (by rw [e]; exact j3)
          refine ⟨A', l1, l2, fun y => absurd y c0', fun _ => ?_⟩
          rw [v1, v2, w32_of (x := v.1) (by omega)]
          refine ⟨fun y => absurd y (by omega), fun _ => ⟨fun y => absurd (by decide) y, fun _ => ⟨A7, i1, A8, ?_, l3⟩⟩⟩
          rw [i2.2 7 1 (by unfold XRo; omega), v1]
          exact j1
        · have e : wm = wtPuts (fun j => t j) x.toNat (wtPuts (loF (x + 2147483648)) 4 w7) := by rw [em]; unfold fmW; rw [if_neg c0, if_neg c1]
          obtain ⟨A7, i1, i2, i3⟩ := cw_low (q := q) (lO x 2147483648) (n := 4) (by decide) ho (by decide) (by omega) h6
          rw [(lo_31 hx w7).1] at i3
          have hA7 := TXc_x o3 hA6 i2
          obtain ⟨A8, j1, j2, j3⟩ := cw_span (q := q) (a1 := 2) (n1 := 6000) (b := 0) (n := x.toNat) (g := fun j => t j) rfl (by omega) (by decide) (fun j hj => by
            have := hA7.2 j (by omega) (by omega)
            rw [show ((0 : Nat) : Int) + (j : Int) = j by omega]
            exact this) ho (by decide) (by rw [wtPuts_1]; omega) i3
          rw [show ((0 : Nat) : Int) + (x.toNat : Int) = x by omega] at j1
          obtain ⟨A', l1, l2, l3⟩ := en A8 (i2.trans j2) (by rw [e]; exact j3)
          have k119 : EV q 87 119 [some (.ref 29), some (.ref 1), some (.ref o)] [] A6 none A' := vc_Copies_packFrame_119 1 6000 tr_row _ _ ho (by
            rw [hA6.1, wx]
            refine cNo c0' ⟨A7, i1, A8, ?_, l3⟩
            rw [hA7.1]
            exact j1)
          refine ⟨A', l1, l2, fun y => absurd y c0', fun _ => ⟨fun _ => k119, fun y => ⟨fun _ => k119, fun y2 => ?_⟩⟩⟩
          exfalso
          by_cases c2 : v.1 ≤ 12000
          · rw [(g2.1 c2).1, w32_of (x := v.1) (by omega)] at y
            omega
          · rw [(g2.2 (by omega)).1] at y2
            exact y2 (by decide)
    obtain ⟨A', i1, i2, i3⟩ := fin
    have x6 : ∀ (a : Nat) (k : Int), ¬ XPa o a k → A'.1 a k = A.1 a k := fun a k y => by
      unfold XPa XRb at y
      rw [i1.2 a k (by unfold XRo; omega), at6 a k (by unfold XTc X4 XFu XRo; omega), at5 a k (by omega), x4.2 a k (by unfold XRo; omega)]
    refine ⟨A', 2, 0, fun _ => rfl, ⟨?_, fun a k y => x6 a k y⟩, i2, CTk_o (Or.inr o3) g3 i1, vc_PH_packKind _ _ _ _ ho ⟨fun c => absurd c (by decide), fun c => absurd c (by decide), fun c => absurd c (by decide), fun c => absurd c (by decide), fun c => absurd c (by decide), fun c => absurd c (by decide), fun _ => ⟨A', vc_Copies_packFrame 1 6000 tr_row _ _ ho ⟨A1, a1, A2, b1, A3, c1, z, A3, kz, A4, d1, A5, kcl, A6, g4, i3⟩, rfl, rfl⟩, fun c => absurd c (by decide), fun c => absurd c (by decide), fun _ _ _ _ _ _ c => absurd (by decide) c⟩⟩
    rw [i1.1, g1.1]
    show (fun b j => if b = 10 ∧ j = 2 then 2 else A5.2.2 b j) = fun b j => if b = 10 ∧ j = 2 then 2 else A.2.2 b j
    have : A5.2 = A.2 := by
      rw [e5]
      show A4.2 = A.2
      exact x4.1
    rw [this]
  · -- the reference
    obtain ⟨B1, a1, a2, a3⟩ := mw_put (q := q) 4 (by decide) h.1
    obtain ⟨B2, b1, b2, b3⟩ := mw_put (q := q) 34 (by decide) a3
    obtain ⟨B3, c1, c2, c3⟩ := mw_put (q := q) 77 (by decide) b3
    obtain ⟨B4, d1, d2, d3⟩ := mw_put (q := q) 24 (by decide) c3
    obtain ⟨B5, i1, i2, i3⟩ := mw_put (q := q) 100 (by decide) d3
    obtain ⟨B6, j1, j2, j3⟩ := mw_put (q := q) 64 (by decide) i3
    have x6 : EX XW B B6 := ((((a2.trans b2).trans c2).trans d2).trans i2).trans j2
    obtain ⟨B7, e7'⟩ : ∃ B7, B7 = wI (wI B6 404 (w32 0) (b8 100)) 404 (w32 1) (b8 64) := ⟨_, rfl⟩
    have at7 : ∀ (a : Nat) (k : Int), a ≠ 404 → B7.1 a k = B6.1 a k := fun a k y => by rw [e7', wI_no _ (by omega), wI_no _ (by omega)]
    have kz := zm B7 404 20 0 ⟨rfl, by decide, by decide, by decide, fun k hk => by
      have hk2 : k = 0 ∨ k = 1 := by omega
      rcases hk2 with e' | e' <;> subst e'
      · refine ⟨by decide, ?_⟩
        rw [e7', wI_no _ (by decide)]
        show (wI B6 404 (w32 0) (b8 100)).1 404 (w32 0) % 256 = 100
        rw [wI_at]
        decide
      · refine ⟨by decide, ?_⟩
        rw [e7']
        show (wI _ 404 (w32 1) (b8 64)).1 404 (w32 1) % 256 = 64
        rw [wI_at]
        decide⟩
    have h7 : MWt B7 (wtPut 64 (wtPut 100 (wtPut 24 (wtPut 77 (wtPut 34 (wtPut 4 w00)))))) := MWt_cg j3 (fun a k y => at7 a k (by unfold XW at y; omega))
    obtain ⟨B8, l1, l2, l3⟩ := mw_put (q := q) (w32 z / 256) (by decide) h7
    have ez : (w32 z / 256) % 256 = (z % 4294967296 / 256) % 256 := by unfold w32; omega
    rw [wtPut_m ez] at l3
    obtain ⟨B9, e9⟩ : ∃ B9, B9 = wI B8 367 29 0 := ⟨_, rfl⟩
    have x9 : EX (fun a k => XPm a k ∨ a = 404) B B9 := by
      rw [e9]
      have y1 : EX (fun a k => XPm a k ∨ a = 404) B B6 := EX.mono x6 (fun a k y => Or.inl (Or.inl y))
      have y2 : EX (fun a k => XPm a k ∨ a = 404) B B7 := by rw [e7']; exact (y1.wr (Or.inr rfl)).wr (Or.inr rfl)
      have y3 : EX (fun a k => XPm a k ∨ a = 404) B B8 := y2.trans (EX.mono l2 (fun a k y => Or.inl (Or.inl y)))
      exact y3.wr (Or.inl (by unfold XPm XTm; omega))
    have h9 : MWt B9 w7 := by
      rw [e9, e7]
      exact MWt_cg l3 (fun a k y => wI_no _ (by unfold XW at y; omega))
    have hB9 : TXm B9 x t := TXm_e hB (fun a k y => x9.2 a k (by unfold XPm XW XTm XLo; omega))
    have en : ∀ (BB : ms), EX (fun a k => XPm a k ∨ a = 404) B BB → TXm BB x t → MTk BB T K → MWt BB wm → ∃ B', EX (fun a k => XPm a k ∨ a = 404) B B' ∧ MTk B' T K ∧ MWt B' (wtPuts (loF (w32 z2)) 4 (wtPuts (loF 0) 4 wm)) ∧ EV q 314 189 [some (.ref 367), none, none, none, none] [] BB none B' := fun BB y1 y2 y3 y4 => by
      obtain ⟨C1, u1, u2, u3⟩ := mw_low (q := q) 0 (n := 4) (by decide) (by omega) y4
      obtain ⟨C2, v1, v2, v3⟩ := mw_low (q := q) (w32 z2) (n := 4) (by decide) (by rw [wtPuts_1]; omega) u3
      have hC1 := TXm_x y2 u2
      refine ⟨C2, y1.trans (EX.mono (u2.trans v2) (fun a k y => Or.inl (Or.inl y))), MTk_w y3 (u2.trans v2), v3, vc_MD_packFrame_189 ⟨C1, u1, z2, C1, ?_, C2, v1, rfl, rfl⟩⟩
      rw [hC1.1]
      exact ym C1 (fun k k0 k1 => oct_eq (hC1.2 k k0 k1).1 (hC1.2 k k0 k1).2)
    have fin : ∃ B', EX (fun a k => XPm a k ∨ a = 404) B B' ∧ MTk B' T K ∧ MWt B' (wtPuts (loF (w32 z2)) 4 (wtPuts (loF 0) 4 wm)) ∧ ((w32 (B9.1 367 2) ≤ 0) → EV q 314 189 [some (.ref 367), none, none, none, none] [] B9 none B') ∧ ((¬ w32 (B9.1 367 2) ≤ 0) → ∃ (S23 : ms), EV q 291 0 [some (.ref 367), some (vL 0), none, some (vI 4), none] [] B9 none S23 ∧ ∃ (S25 : ms), EV q 311 0 [some (.ref 367), none, none, none] [] S23 none S25 ∧ ((w32 (S25.1 367 2) ≤ w32 (((S25.1 367 9) - (B9.1 367 9)) - 4)) → EV q 314 116 [some (.ref 367), some (vI (B9.1 367 9)), some (vI (((S25.1 367 9) - (B9.1 367 9)) - 4)), none, none] [vI 0] S25 none B') ∧ ((¬ w32 (S25.1 367 2) ≤ w32 (((S25.1 367 9) - (B9.1 367 9)) - 4)) → EV q 314 116 [some (.ref 367), some (vI (B9.1 367 9)), some (vI (((S25.1 367 9) - (B9.1 367 9)) - 4)), none, none] [vI 1] S25 none B')) := by
      rw [hB9.1, wx]
      by_cases c0 : x = 0
      · have e : wm = w7 := by rw [em]; unfold fmW; rw [if_pos c0]
        have K0 : K = 0 := by omega
        obtain ⟨B', u1, u2, u3, u4⟩ := en B9 x9 hB9 ⟨by rw [e9, wI_at, K0]; rfl, fun k k0 k1 => absurd k1 (by rw [K0]; omega)⟩ (by rw [e]; exact h9)
        exact ⟨B', u1, u2, u3, fun _ => u4, fun y => absurd (by omega) y⟩
      · have c0' : ¬ x ≤ 0 := by omega
        obtain ⟨C1, u1, u2, u3⟩ := mw_low (q := q) 0 (n := 4) (by decide) (by omega) h9
        obtain ⟨w11, e11⟩ : ∃ w11, w11 = wtPuts (loF 0) 4 w7 := ⟨_, rfl⟩
        rw [← e11] at u3
        have n11 : w11.1 = 11 := by rw [e11, wtPuts_1, h71]; rfl
        have O11 : wtO w11 := by rw [e11]; exact wtO_puts _ hO7 _
        obtain ⟨C2, g1, g2, g3, g4⟩ := f5 C1 w11 (TXm_x hB9 u2) O11 (by omega) u3
        have hR := f3 w11
        rw [← ev] at hR
        obtain ⟨⟨R1, R2⟩, R3, R4⟩ := hR
        have hC2 : TXm C2 x t := TXm_e (TXm_x hB9 u2) (fun a k y => g1.2 a k (by unfold XPm XW XTm XLo; omega))
        have xC2 : EX (fun a k => XPm a k ∨ a = 404) B C2 := (x9.trans (EX.mono u2 (fun a k y => Or.inl (Or.inl y)))).trans (EX.mono g1 (fun a k y => Or.inl y))
        obtain ⟨C3, eC3⟩ : ∃ C3, C3 = wI C2 367 9 7 := ⟨_, rfl⟩
        have xC3 : EX (fun a k => XPm a k ∨ a = 404) B C3 := by rw [eC3]; exact xC2.wr (Or.inl (by unfold XPm XW; omega))
        have hC3 : TXm C3 x t := TXm_e hC2 (fun a k y => by rw [eC3]; exact wI_no _ (by omega))
        have tC3 : MTk C3 T K := MTk_e g2 (fun a k y => by rw [eC3]; exact wI_no _ (by unfold XTm at y; omega))
        have hC3w : MWt C3 w7 := ⟨by rw [eC3, wI_at, h71], fun k k0 k1 k2 => by
          rw [eC3, wI_no _ (by omega), g3.2 k k0 (by omega) k2, R4 k (by omega), e11, wtPuts_2, if_neg (by omega)]⟩
        have e9' : B9.1 367 9 = 7 := by rw [h9.1, h71]
        have en' : C2.1 367 9 - B9.1 367 9 - 4 = v.1 := by rw [g3.1, e9', R1, n11]; omega
        by_cases c1 : v.1 < x
        · have e : wm = wtPuts (fun j => v.2 j) v.1.toNat (wtPuts (loF v.1) 4 w7) := by rw [em]; unfold fmW; rw [if_neg c0, if_pos c1]
          obtain ⟨C4, y1, y2, y3, y4⟩ := mw_lowF (q := q) v.1 (n := 4) (by decide) (by omega) hC3w
          obtain ⟨C5, eC5⟩ : ∃ C5, C5 = wI C4 367 9 (C4.1 367 9 + v.1) := ⟨_, rfl⟩
          have hC5 : TXm C5 x t := TXm_e (TXm_x hC3 y2) (fun a k y => by rw [eC5]; exact wI_no _ (by omega))
          have xC5 : EX (fun a k => XPm a k ∨ a = 404) B C5 := by
            rw [eC5]
            have := xC3.trans (EX.mono y2 (fun a k y => Or.inl (Or.inl y)))
            exact this.wr (Or.inl (by unfold XPm XW; omega))
          have tC5 : MTk C5 T K := MTk_e (MTk_w tC3 y2) (fun a k y => by rw [eC5]; exact wI_no _ (by unfold XTm at y; omega))
          have wC5 : MWt C5 wm := by
            rw [e]
            have n4 : (wtPuts (loF v.1) 4 w7).1 = 11 := by rw [wtPuts_1, h71]; rfl
            refine ⟨by rw [eC5, wI_at, y3.1, wtPuts_1 (fun j => v.2 j), n4]; omega, fun k k0 k1 k2 => ?_⟩
            rw [wtPuts_1, n4] at k1
            rw [eC5, wI_no _ (by omega), wtPuts_2, n4]
            by_cases ck : 11 ≤ k ∧ k < 11 + (v.1.toNat : Int)
            · rw [if_pos ck, y4 k (by rw [h71]; omega), eC3, wI_no _ (by omega), g3.2 k k0 (by rw [R1]; omega) k2]
              have e3 := R3 (k - 11) (by omega) (by omega)
              rw [n11, show 11 + (k - 11) = k by omega] at e3
              rw [e3, show (((k - 11).toNat : Nat) : Int) = k - 11 by omega]
              have := r.2 (k - 11)
              rw [show v.2 (k - 11) % 256 = v.2 (k - 11) by omega]
            · rw [if_neg ck]
              exact y3.2 k k0 (by rw [n4]; omega) k2
          obtain ⟨B', o1, o2, o3, o4⟩ := en C5 xC5 hC5 tC5 wC5
          refine ⟨B', o1, o2, o3, fun y => absurd y c0', fun _ => ⟨C1, u1, C2, g4, ?_⟩⟩
          rw [en', hC2.1, wx, w32_of (x := v.1) (by omega), e9']
          refine ⟨fun y => absurd y (by omega), fun _ => vc_MD_packFrame_116 _ _ _ (fun S1 q1 => ?_)⟩
          rw [← eC3] at q1
          subst q1
          refine ⟨fun y => absurd y (by decide), fun _ => ⟨C4, ?_, fun S6 q6 => ?_⟩⟩
          · rw [w32_of (x := v.1) (by omega)]
            exact y1
          · rw [← eC5] at q6
            subst q6
            exact o4
        · have e : wm = wtPuts (fun j => t j) x.toNat (wtPuts (loF (x + 2147483648)) 4 w7) := by rw [em]; unfold fmW; rw [if_neg c0, if_neg c1]
          obtain ⟨C4, y1, y2, y3⟩ := mw_low (q := q) (w32 (bO x (-2147483648))) (n := 4) (by decide) (by omega) hC3w
          rw [(lo_31 hx w7).2] at y3
          obtain ⟨C5, p1, p2, p3⟩ := mw_oct4 (q := q) (x := x) (t := t) (x1 := 7) (x2 := v.1) (x3 := 0) hx x.toNat 0 C4 (wtPuts (loF (x + 2147483648)) 4 w7) (by omega) (by rw [wtPuts_1]; omega) (TXm_x hC3 y2) y3
          have xC5 : EX (fun a k => XPm a k ∨ a = 404) B C5 := xC3.trans (EX.mono (y2.trans p1) (fun a k y => Or.inl (Or.inl y)))
          obtain ⟨B', o1, o2, o3, o4⟩ := en C5 xC5 (TXm_x (TXm_x hC3 y2) p1) (MTk_w (MTk_w tC3 y2) p1) (by rw [e]; exact p2)
          refine ⟨B', o1, o2, o3, fun y => absurd y c0', fun _ => ⟨C1, u1, C2, g4, ?_⟩⟩
          rw [en', hC2.1, wx, w32_of (x := v.1) (by omega), e9']
          refine ⟨fun _ => vc_MD_packFrame_116 _ _ _ (fun S1 q1 => ?_), fun y => absurd (by omega) y⟩
          rw [← eC3] at q1
          subst q1
          refine ⟨fun _ => ⟨C4, ?_, p3 _ _ o4⟩, fun y => absurd (by decide) y⟩
          rw [hC3.1]
          exact y1
    obtain ⟨B', o1, o2, o3, o4⟩ := fin
    refine ⟨B', (EX.mono o1 (fun a k y => by unfold XPm XW XTm XLo at y; unfold XPb; omega)).ey, TbK_ey hK o1.ey (fun a k y => by unfold XPm XW XTm XLo at y; omega), o3, fun _ => o2, fun c => absurd c (by decide), vc_MD_packAs _ _ ⟨fun c => absurd c (by decide), fun c => absurd c (by decide), fun c => absurd c (by decide), fun c => absurd c (by decide), fun c => absurd c (by decide), fun c => absurd c (by decide), fun _ => ⟨B', vc_MD_packFrame ⟨B1, a1, B2, b1, B3, c1, B4, d1, B5, i1, B6, j1, by decide, fun S14 q14 => ?_⟩, rfl, rfl⟩, fun c => absurd c (by decide), fun c => absurd c (by decide), fun _ _ _ _ _ _ c => absurd (by decide) c⟩⟩
    refine ⟨by decide, fun S16 q16 => ?_⟩
    rw [q14, ← e7'] at q16
    rw [q16]
    refine ⟨z, B7, kz, B8, l1, fun S22 q22 => ?_⟩
    rw [← e9] at q22
    rw [q22]
    exact o4
end PFrame2
