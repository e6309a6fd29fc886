/-! write: BOX whole, the reference; both sides -/
section WrO
variable {q : Nat × (Nat → Int32)} {n : Nat} {E : Nat → En} {w w0 : Wt} {X : Nat → Bx} {lv : Int}
def FcM (B : ms) (E : Nat → En) (X : Nat → Bx) (w0 : Wt) (j : Nat) : Prop := (B.1 435 j = hdF E X w0 j ∧ B.1 432 j = (X j).1) ∧ w32 (B.1 433 j) = (X j).2.2.2 ∧ B.1 434 j = (X j).2.1
theorem md_bx1 {x2 : Int} (hn : n ≤ 16) (hE : ∀ e : Nat, e < n → EnOk (E e)) (hX : ∀ e : Nat, e < n → BxP q lv (E e) (X e)) : ∀ (d i : Nat) (B : ms) (w : Wt), i + d = n → w = gAll (fun e => bxG (E e) (X e)) i 0 w0 → (0 ≤ w.1 ∧ w.1 < 100000) → wtO w → BOk (hp B) → RQ B → TbK B → ShN B n E → B.1 367 11 = 0 → MWt B w → (∀ j : Nat, j < i → FcM B E X w0 j) → ∃ B', EY XBt B B' ∧ TbK B' ∧ B'.1 367 11 = 0 ∧ MWt B' (gStp (fun e => bxG (E e) (X e)) d i w) ∧ ((gStp (fun e => bxG (E e) (X e)) d i w).1 ≤ 12000 → ∀ j : Nat, j < n → FcM B' E X w0 j) ∧ ∃ x3 : Int, ∀ (R : Option Value) (S' : ms), EV q 390 65 [some (.ref 367), some (vI lv), some (vI x2), some (vI x3), none] [] B' R S' → EV q 390 35 [some (.ref 367), some (vI lv), some (vI x2), some (vI i), none] [] B R S' := by
  have ok := bxG_ok hE hX
  intro d
  induction d with
  | zero =>
    intro i B w hi ew hw hO hb hQ hK hC h11 h hF
    have e : i = n := by omega
    refine ⟨B, EY.refl _ B, hK, h11, h, fun _ j hj => hF j (by omega), i, fun R S' k => vc_MD_writeBox_35 _ _ _ ?_⟩
    rw [hC.1, ← e]
    exact cY (Int.le_refl _) k
  | succ d ih =>
    intro i B w hi ew hw hO hb hQ hK hC h11 h hF
    by_cases c : 12000 < w.1
    · refine ⟨B, EY.refl _ B, hK, h11, by rw [gStp_s, if_pos c]; exact h, fun y => absurd y (by rw [gStp_s, if_pos c]; omega), i, fun R S' k => vc_MD_writeBox_35 _ _ _ ?_⟩
      rw [hC.1, show w32 (n : Int) = n from w32_of (by omega), show w32 (i : Int) = i from w32_of (by omega), h.1, w32_of (x := w.1) (by omega)]
      exact cNo (by omega) (cY c k)
    · obtain ⟨B1, a1, a2, a3, a4, ⟨⟨a5, a6⟩, a7, a8⟩, a9, a10⟩ := md_bxT (q := q) (lv := lv) hn (show i < n by omega) (hE i (by omega)) (hX i (by omega)) hb hQ hK hC h11 hO ⟨hw.1, by omega⟩ h
      have g0 := ok i w (by omega)
      have g1 : w.1 ≤ (bxG (E i) (X i) w).1 ∧ (bxG (E i) (X i) w).1 ≤ w.1 + 20000 := g0.1
      have ew1 : bxG (E i) (X i) w = gAll (fun e => bxG (E e) (X e)) (i + 1) 0 w0 := by
        rw [gAll_e, ← ew, show 0 + i = i by omega]
      have at1 : ∀ (a : Nat) (k : Int), ¬ XBt a k → B1.1 a k = B.1 a k := fun a k y => a1.2 a k y
      obtain ⟨B', b1, b2, b3, b4, b5, x3, b6⟩ := ih (i + 1) B1 (bxG (E i) (X i) w) (by omega) ew1 (by omega) (g0.2 hO) (EV_B a10 hb) ⟨fun s hs => by rw [at1 _ _ (by unfold XBt XPb; omega)]; exact hQ.1 s hs, fun s hs => by rw [at1 _ _ (by unfold XBt XPb; omega)]; exact hQ.2 s hs⟩ a2 (ShN_k hC (fun a k y => at1 a k (by unfold XBt XPb; omega))) a3 a4 (fun j hj => by
        by_cases cj : j = i
        · rw [cj]
          refine ⟨⟨?_, a6⟩, a7, a8⟩
          rw [a5]
          unfold hdF
          rw [← ew]
        · obtain ⟨⟨f1, f2⟩, f3, f4⟩ := hF j (by omega)
          refine ⟨⟨?_, ?_⟩, ?_, ?_⟩
          · rw [a9 _ _ (by omega) (by omega) (by omega)]; exact f1
          · rw [a9 _ _ (by omega) (by omega) (by omega)]; exact f2
          · rw [a9 _ _ (by omega) (by omega) (by omega)]; exact f3
          · rw [a9 _ _ (by omega) (by omega) (by omega)]; exact f4)
      refine ⟨B', a1.trans b1, b2, b3, by rw [gStp_s, if_neg c]; exact b4, by rw [gStp_s, if_neg c]; exact b5, x3, fun R S' k => vc_MD_writeBox_35 _ _ _ ?_⟩
      have b7 := b6 R S' k
      rw [show ((i + 1 : Nat) : Int) = (i : Int) + 1 by omega] at b7
      rw [hC.1, show w32 (n : Int) = n from w32_of (by omega), show w32 (i : Int) = i from w32_of (by omega), h.1, w32_of (x := w.1) (by omega)]
      exact cNo (by omega) (cNo c ⟨B1, a10, b7⟩)
theorem md_bxR {B : ms} {e : Nat} {x2 x3 : Int} (hn : n ≤ 16) (he : e < n) (hok : EnOk (E e)) (hX : BxP q lv (E e) (X e)) (hC : ShN B n E) (hF : FcM B E X w0 e) (hh : 0 ≤ hdF E X w0 e ∧ hdF E X w0 e ≤ 12000) (hw : 0 ≤ w.1 ∧ w.1 ≤ 12000) (h : MWt B w) : ∃ B', EX XW B B' ∧ MWt B' (bxRw (E e) (X e) (hdF E X w0 e) w) ∧ ∀ (R : Option Value) (S' : ms), EV q 390 106 [some (.ref 367), some (vI lv), some (vI x2), some (vI x3), some (vI ((e : Int) + 1))] [] B' R S' → EV q 390 106 [some (.ref 367), some (vI lv), some (vI x2), some (vI x3), some (vI e)] [] B R S' := by
  have ee : Unit → w32 (e : Int) = e := fun _ => w32_of (by omega)
  obtain ⟨xr1, xr2, xr3⟩ := BxP_r hok hX
  obtain ⟨⟨c1, c2⟩, ⟨c3, c4⟩, c5, c6⟩ := hC.2 e he
  obtain ⟨⟨n1, n2⟩, s1, s2, m1, t1⟩ := hok
  obtain ⟨⟨f1, f2⟩, f3, f4⟩ := hF
  obtain ⟨hd, ehd⟩ : ∃ hd, hd = hdF E X w0 e := ⟨_, rfl⟩
  rw [← ehd] at f1 hh ⊢
  clear hX
  obtain ⟨B1, a11, a12, a13⟩ := mw_low (q := q) 33639248 (n := 4) (by decide) (by omega) h
  have g1 := wtPuts_1 (loF 33639248) w 4
  obtain ⟨B2, a21, a22, a23⟩ := mw_low (q := q) 20 (n := 2) (by decide) (by omega) a13
  have g2 := wtPuts_1 (loF 20) (wtPuts (loF 33639248) 4 w) 2
  obtain ⟨B3, a31, a32, a33⟩ := mw_low (q := q) 20 (n := 2) (by decide) (by omega) a23
  have g3 := wtPuts_1 (loF 20) (wtPuts (loF 20) 2 (wtPuts (loF 33639248) 4 w)) 2
  obtain ⟨B4, a41, a42, a43⟩ := mw_low (q := q) 0 (n := 2) (by decide) (by omega) a33
  have g4 := wtPuts_1 (loF 0) (wtPuts (loF 20) 2 (wtPuts (loF 20) 2 (wtPuts (loF 33639248) 4 w))) 2
  obtain ⟨W4, eW4⟩ : ∃ W4, W4 = wtPuts (loF 0) 2 (wtPuts (loF 20) 2 (wtPuts (loF 20) 2 (wtPuts (loF 33639248) 4 w))) := ⟨_, rfl⟩
  rw [← eW4] at a43 g4
  have x4 : EX XW B B4 := ((a12.trans a22).trans a32).trans a42
  obtain ⟨B5, a51, a52, a53⟩ := mw_low (q := q) (X e).1 (n := 2) (by decide) (by omega) a43
  have g5 := wtPuts_1 (loF (X e).1) W4 2
  have x5 := x4.trans a52
  obtain ⟨B6, a61, a62, a63⟩ := mw_low (q := q) (E e).2.2.2.1 (n := 4) (by decide) (by omega) a53
  have g6 := wtPuts_1 (loF (E e).2.2.2.1) (wtPuts (loF (X e).1) 2 W4) 4
  have x6 := x5.trans a62
  obtain ⟨B7, a71, a72, a73⟩ := mw_low (q := q) (X e).2.2.2 (n := 4) (by decide) (by omega) a63
  have g7 := wtPuts_1 (loF (X e).2.2.2) (wtPuts (loF (E e).2.2.2.1) 4 (wtPuts (loF (X e).1) 2 W4)) 4
  have x7 := x6.trans a72
  obtain ⟨B8, a81, a82, a83⟩ := mw_low (q := q) (X e).2.1 (n := 4) (by decide) (by omega) a73
  have g8 := wtPuts_1 (loF (X e).2.1) (wtPuts (loF (X e).2.2.2) 4 (wtPuts (loF (E e).2.2.2.1) 4 (wtPuts (loF (X e).1) 2 W4))) 4
  have x8 := x7.trans a82
  obtain ⟨B9, a91, a92, a93⟩ := mw_low (q := q) (E e).2.2.2.2.1 (n := 4) (by decide) (by omega) a83
  have g9 := wtPuts_1 (loF (E e).2.2.2.2.1) (wtPuts (loF (X e).2.1) 4 (wtPuts (loF (X e).2.2.2) 4 (wtPuts (loF (E e).2.2.2.1) 4 (wtPuts (loF (X e).1) 2 W4)))) 4
  have x9 := x8.trans a92
  obtain ⟨C0, b01, b02, b03⟩ := mw_low (q := q) (E e).1 (n := 2) (by decide) (by omega) a93
  have g10 := bxFt_1 (E e) (X e) W4
  have b03' : MWt C0 (bxFt (E e) (X e) W4) := b03
  have x10 := x9.trans b02
  obtain ⟨C1, b11, b12, b13⟩ := mw_low (q := q) 0 (n := 8) (by decide) (by omega) b03'
  have g11 := wtPuts_1 (loF 0) (bxFt (E e) (X e) W4) 8
  have x11 := x10.trans b12
  obtain ⟨C2, b21, b22, b23⟩ := mw_low (q := q) ((E e).2.2.1 * 65536) (n := 4) (by decide) (by omega) b13
  have g12 := wtPuts_1 (loF ((E e).2.2.1 * 65536)) (wtPuts (loF 0) 8 (bxFt (E e) (X e) W4)) 4
  have x12 := x11.trans b22
  obtain ⟨C3, b31, b32, b33⟩ := mw_low (q := q) hd (n := 4) (by decide) (by omega) b23
  have g13 := wtPuts_1 (loF hd) (wtPuts (loF ((E e).2.2.1 * 65536)) 4 (wtPuts (loF 0) 8 (bxFt (E e) (X e) W4))) 4
  have x13 := x12.trans b32
  obtain ⟨nn, enn⟩ : ∃ nn : Nat, (nn : Int) = (E e).1 := ⟨(E e).1.toNat, by omega⟩
  obtain ⟨C4, b41, b42, -, b43⟩ := md_nmO (q := q) (g := fun k => (E e).2.1 k) (e := e) (n := nn) (w := wtPuts (loF hd) 4 (wtPuts (loF ((E e).2.2.1 * 65536)) 4 (wtPuts (loF 0) 8 (bxFt (E e) (X e) W4)))) (by omega) (by omega) (by omega) nn 0 C3 (by omega) (by rw [x13.2 _ _ (by unfold XW; omega), c1]; exact enn.symm) (fun k hk => by rw [x13.2 _ _ (by unfold XW; omega)]; exact c2 k (by omega) (by omega)) b33
  refine ⟨C4, x13.trans b41, ?_, fun R S' kk => vc_MD_writeBox_106 _ _ _ _ ?_⟩
  · unfold bxRw
    rw [← eW4, show (E e).1.toNat = nn by omega]
    exact b42
  · rw [hC.1, ee (), show w32 (n : Int) = n from w32_of (by omega), h.1, w32_of (x := w.1) (by omega)]
    refine cNo (by omega) (cNo (by omega) ⟨B1, a11, B2, a21, B3, a31, B4, a41, by omega, B5, ?_, by omega, B6, ?_, by omega, B7, ?_, by omega, B8, ?_, by omega, B9, ?_, by omega, C0, ?_, C1, b11, by omega, C2, ?_, by omega, C3, ?_, C4, vc_MD_nameOf _ b43, kk⟩)
    · rw [x4.2 _ _ (by unfold XW; omega), f2, w32_of (x := (X e).1) (by omega)]
      exact a51
    · rw [x5.2 _ _ (by unfold XW; omega), c4, w32_of (x := (E e).2.2.2.1) (by omega)]
      exact a61
    · rw [x6.2 _ _ (by unfold XW; omega), f3]
      exact a71
    · rw [x7.2 _ _ (by unfold XW; omega), f4, w32_of (x := (X e).2.1) (by omega)]
      exact a81
    · rw [x8.2 _ _ (by unfold XW; omega), c5, w32_of (x := (E e).2.2.2.2.1) (by omega)]
      exact a91
    · rw [x9.2 _ _ (by unfold XW; omega), c1, w32_of (x := (E e).1) (by omega)]
      exact b01
    · rw [x11.2 _ _ (by unfold XW; omega), c3, w32_of (x := (E e).2.2.1) (by omega)]
      exact b21
    · rw [x12.2 _ _ (by unfold XW; omega), f1, w32_of (x := hd) (by omega)]
      exact b31
theorem md_bx2 {x2 bg : Int} (hn : n ≤ 16) (hE : ∀ e : Nat, e < n → EnOk (E e)) (hX : ∀ e : Nat, e < n → BxP q lv (E e) (X e)) (hbg : 0 ≤ bg ∧ bg < 400000) (hh : bg ≤ 12000 → ∀ e : Nat, e < n → 0 ≤ hdF E X w0 e ∧ hdF E X w0 e ≤ bg) : ∀ (d i : Nat) (B : ms) (w : Wt), i + d = n → (bg ≤ w.1 ∧ w.1 < 400000) → ShN B n E → MWt B w → (w.1 ≤ 12000 → ∀ j : Nat, j < n → FcM B E X w0 j) → ∃ B', EX XW B B' ∧ MWt B' (bxEd n bg ((gStp (fun e => bxRw (E e) (X e) (hdF E X w0 e)) d i w).1 - bg) (gStp (fun e => bxRw (E e) (X e) (hdF E X w0 e)) d i w)) ∧ EV q 390 106 [some (.ref 367), some (vI lv), some (vI x2), some (vI bg), some (vI i)] [] B none B' := by
  have fin : ∀ (B : ms) (w : Wt) (x4 : Int), (bg ≤ w.1 ∧ w.1 < 400000) → ShN B n E → MWt B w → ∃ B', EX XW B B' ∧ MWt B' (bxEd n bg (w.1 - bg) w) ∧ EV q 390 281 [some (.ref 367), some (vI lv), some (vI x2), some (vI bg), some (vI x4)] [] B none B' := fun B w x4 hw hC h => by
    obtain ⟨B1, a11, a12, a13⟩ := mw_low (q := q) 101010256 (n := 4) (by decide) (by omega) h
    have g1 := wtPuts_1 (loF 101010256) w 4
    obtain ⟨B2, a21, a22, a23⟩ := mw_low (q := q) 0 (n := 4) (by decide) (by omega) a13
    have g2 := wtPuts_1 (loF 0) (wtPuts (loF 101010256) 4 w) 4
    have x2' := a12.trans a22
    obtain ⟨B3, a31, a32, a33⟩ := mw_low (q := q) n (n := 2) (by decide) (by omega) a23
    have g3 := wtPuts_1 (loF n) (wtPuts (loF 0) 4 (wtPuts (loF 101010256) 4 w)) 2
    have x3' := x2'.trans a32
    obtain ⟨B4, a41, a42, a43⟩ := mw_low (q := q) n (n := 2) (by decide) (by omega) a33
    have g4 := wtPuts_1 (loF n) (wtPuts (loF n) 2 (wtPuts (loF 0) 4 (wtPuts (loF 101010256) 4 w))) 2
    obtain ⟨B5, a51, a52, a53⟩ := mw_low (q := q) (w.1 - bg) (n := 4) (by decide) (by omega) a43
    have g5 := wtPuts_1 (loF (w.1 - bg)) (wtPuts (loF n) 2 (wtPuts (loF n) 2 (wtPuts (loF 0) 4 (wtPuts (loF 101010256) 4 w)))) 4
    obtain ⟨B6, a61, a62, a63⟩ := mw_low (q := q) bg (n := 4) (by decide) (by omega) a53
    have g6 := wtPuts_1 (loF bg) (wtPuts (loF (w.1 - bg)) 4 (wtPuts (loF n) 2 (wtPuts (loF n) 2 (wtPuts (loF 0) 4 (wtPuts (loF 101010256) 4 w))))) 4
    obtain ⟨B7, a71, a72, a73⟩ := mw_low (q := q) 0 (n := 2) (by decide) (by omega) a63
    refine ⟨B7, ((((x3'.trans a42).trans a52).trans a62).trans a72), a73, vc_MD_writeBox_281 _ _ _ _ ?_⟩
    have n2 : B2.1 367 88 = n := by rw [x2'.2 _ _ (by unfold XW; omega)]; exact hC.1
    have n3 : B3.1 367 88 = n := by rw [x3'.2 _ _ (by unfold XW; omega)]; exact hC.1
    rw [h.1, w32_of (x := w.1 - bg) (by omega), w32_of (x := bg) (by omega)]
    refine ⟨B1, a11, B2, a21, B3, ?_, B4, ?_, B5, a51, B6, a61, B7, a71, rfl, rfl⟩
    · rw [n2, show w32 (n : Int) = n from w32_of (by omega)]
      exact a31
    · rw [n3, show w32 (n : Int) = n from w32_of (by omega)]
      exact a41
  intro d
  induction d with
  | zero =>
    intro i B w hi hw hC h hF
    obtain ⟨B', f1, f2, f3⟩ := fin B w i hw hC h
    refine ⟨B', f1, f2, vc_MD_writeBox_106 _ _ _ _ ?_⟩
    rw [hC.1, show n = i by omega]
    exact cY (Int.le_refl _) f3
  | succ d ih =>
    intro i B w hi hw hC h hF
    by_cases c : 12000 < w.1
    · obtain ⟨B', f1, f2, f3⟩ := fin B w i hw hC h
      refine ⟨B', f1, by rw [gStp_s, if_pos c]; exact f2, vc_MD_writeBox_106 _ _ _ _ ?_⟩
      rw [hC.1, show w32 (n : Int) = n from w32_of (by omega), show w32 (i : Int) = i from w32_of (by omega), h.1, w32_of (x := w.1) (by omega)]
      exact cNo (by omega) (cY c f3)
    · have hhi := hh (by omega) i (by omega)
      obtain ⟨B1, a1, a2, a3⟩ := md_bxR (q := q) (lv := lv) (x2 := x2) (x3 := bg) (w0 := w0) hn (show i < n by omega) (hE i (by omega)) (hX i (by omega)) hC (hF (by omega) i (by omega)) ⟨hhi.1, by omega⟩ ⟨by omega, by omega⟩ h
      have g1 := bxRw_1 (hE i (by omega)) (X i) (hdF E X w0 i) w
      have s1 := (hE i (by omega)).1.1
      obtain ⟨B', b1, b2, b3⟩ := ih (i + 1) B1 (bxRw (E i) (X i) (hdF E X w0 i) w) (by omega) (by omega) (ShN_k hC (fun a k y => a1.2 a k (by unfold XW; omega))) a2 (fun y j hj => by
        obtain ⟨⟨f1, f2⟩, f3, f4⟩ := hF (by omega) j hj
        refine ⟨⟨?_, ?_⟩, ?_, ?_⟩
        · rw [a1.2 _ _ (by unfold XW; omega)]; exact f1
        · rw [a1.2 _ _ (by unfold XW; omega)]; exact f2
        · rw [a1.2 _ _ (by unfold XW; omega)]; exact f3
        · rw [a1.2 _ _ (by unfold XW; omega)]; exact f4)
      rw [show ((i + 1 : Nat) : Int) = (i : Int) + 1 by omega] at b3
      exact ⟨B', a1.trans b1, by rw [gStp_s, if_neg c]; exact b2, a3 _ _ b3⟩
/-- the tray is kept, and comes back -/
theorem md_kp1 {N : Nat} {x1 x2 : Int} (hN : N ≤ 6000) : ∀ (r i : Nat) (B : ms), i + r = N → B.1 367 2 = N → (∀ k : Int, 0 ≤ k → k < i → B.1 436 k = b8 (B.1 368 k)) → ∃ B', EX (fun a _ => a = 436) B B' ∧ (∀ k : Int, 0 ≤ k → k < N → B'.1 436 k = b8 (B'.1 368 k)) ∧ ∀ (R : Option Value) (S' : ms), EV q 390 35 [some (.ref 367), some (vI x1), some (vI x2), some (vI 0), none] [] B' R S' → EV q 390 7 [some (.ref 367), some (vI x1), some (vI x2), some (vI i), none] [] B R S' := by
  intro r
  induction r with
  | zero =>
    intro i B hi h2 h
    have e' : i = N := by omega
    subst e'
    refine ⟨B, EX.refl _ B, h, fun R S' k => vc_MD_writeBox_7 _ _ _ ?_⟩
    rw [h2]
    exact cY (Int.le_refl _) k
  | succ r ih =>
    intro i B hi h2 h
    obtain ⟨B', g1, g2, g3⟩ := ih (i + 1) (wI B 436 i (b8 (B.1 368 i))) (by omega) (by rw [wI_no _ (by omega)]; exact h2) (fun k k0 k1 => by
      rw [wI_no (b := 368) _ (by omega)]
      by_cases c : k = i
      · rw [c, wI_at]
      · rw [wI_no _ (fun z => c z.2)]
        exact h k k0 (by omega))
    refine ⟨B', ((EX.refl _ B).wr rfl).trans g1, g2, fun R S' k => vc_MD_writeBox_7 _ _ _ ?_⟩
    have g4 := g3 R S' k
    rw [show ((i + 1 : Nat) : Int) = (i : Int) + 1 by omega] at g4
    rw [h2, show w32 (N : Int) = N from w32_of (by omega), show w32 (i : Int) = i from w32_of (by omega)]
    exact cNo (by omega) ⟨by omega, by omega, fun S3 q3 => by rw [q3]; exact g4⟩
theorem md_kp2 {N : Nat} {x1 x2 : Int} {t : Int → Int} (hN : N ≤ 6000) (ht : ∀ k : Int, 0 ≤ k → k < N → b8 (t k) = t k) : ∀ (r i : Nat) (B : ms), i + r = N → B.1 367 2 = N → (∀ k : Int, 0 ≤ k → k < N → B.1 436 k = t k) → (∀ k : Int, 0 ≤ k → k < i → B.1 368 k = t k) → ∃ B', EX (fun a _ => a = 368) B B' ∧ (∀ k : Int, 0 ≤ k → k < N → B'.1 368 k = t k) ∧ ∀ (R : Option Value) (S' : ms), EV q 390 106 [some (.ref 367), some (vI x1), some (vI x2), some (vI (B'.1 367 9)), some (vI 0)] [] B' R S' → EV q 390 72 [some (.ref 367), some (vI x1), some (vI x2), some (vI i), none] [] B R S' := by
  intro r
  induction r with
  | zero =>
    intro i B hi h2 h6 h
    have e' : i = N := by omega
    subst e'
    refine ⟨B, EX.refl _ B, h, fun R S' k => vc_MD_writeBox_72 _ _ _ ?_⟩
    rw [h2]
    exact cY (Int.le_refl _) k
  | succ r ih =>
    intro i B hi h2 h6 h
    obtain ⟨B', g1, g2, g3⟩ := ih (i + 1) (wI B 368 i (t i)) (by omega) (by rw [wI_no _ (by omega)]; exact h2) (fun k k0 k1 => by rw [wI_no _ (by omega)]; exact h6 k k0 k1) (fun k k0 k1 => by
      by_cases c : k = i
      · rw [c, wI_at]
      · rw [wI_no _ (fun z => c z.2)]
        exact h k k0 (by omega))
    refine ⟨B', ((EX.refl _ B).wr rfl).trans g1, g2, fun R S' k => vc_MD_writeBox_72 _ _ _ ?_⟩
    have g4 := g3 R S' k
    rw [show ((i + 1 : Nat) : Int) = (i : Int) + 1 by omega] at g4
    rw [h2, show w32 (N : Int) = N from w32_of (by omega), show w32 (i : Int) = i from w32_of (by omega), h6 i (by omega) (by omega), ht i (by omega) (by omega)]
    exact cNo (by omega) ⟨by omega, by omega, fun S3 q3 => by rw [q3]; exact g4⟩
end WrO
