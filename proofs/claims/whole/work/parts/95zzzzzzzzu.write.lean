/-! write: BOX whole, the class -/
section WrM
variable {q : Nat × (Nat → Int32)} {n : Nat} {E : Nat → En} {w w0 : Wt} {X : Nat → Bx} {lv : Int}
theorem gAll_e (G : Nat → Wt → Wt) : ∀ (d i : Nat) (w : Wt), gAll G (d + 1) i w = G (i + d) (gAll G d i w)
  | 0, i, w => rfl
  | d + 1, i, w => by
    rw [gAll_s, gAll_e G d (i + 1) (G i w), gAll_s, show i + 1 + d = i + (d + 1) by omega]
theorem bxG_ok (hE : ∀ e : Nat, e < n → EnOk (E e)) (hX : ∀ e : Nat, e < n → BxP q lv (E e) (X e)) : GOk (fun e => bxG (E e) (X e)) n := fun i w hi => by
  have a := bxG_1 (hE i hi) (hX i hi) w
  have r := (BxP_r (hE i hi) (hX i hi)).2.1
  have s := (hE i hi).1.1
  refine ⟨?_, fun h => wtO_puts _ (bxHd_O h) _⟩
  show w.1 ≤ (bxG (E i) (X i) w).1 ∧ (bxG (E i) (X i) w).1 ≤ w.1 + 20000
  omega
theorem bxR_ok {hd : Nat → Int} (hE : ∀ e : Nat, e < n → EnOk (E e)) : GOk (fun e => bxRw (E e) (X e) (hd e)) n := fun i w hi => by
  have a := bxRw_1 (hE i hi) (X i) (hd i) w
  have s := (hE i hi).1.1
  refine ⟨?_, fun h => bxRw_O h⟩
  show w.1 ≤ (bxRw (E i) (X i) (hd i) w).1 ∧ (bxRw (E i) (X i) (hd i) w).1 ≤ w.1 + 20000
  omega
/-- the head's place of an entry -/
def hdF (E : Nat → En) (X : Nat → Bx) (w0 : Wt) (j : Nat) : Int := (gAll (fun e => bxG (E e) (X e)) j 0 w0).1
def FcC (A : ms) (sh : Nat) (E : Nat → En) (X : Nat → Bx) (w0 : Wt) (m : Int) (j : Nat) : Prop := (m ≤ 12000 → A.1 (sh + 8) j = hdF E X w0 j) ∧ A.1 (sh + 9) j = (X j).1 ∧ A.1 (sh + 10) j = (X j).2.1
theorem cl_bx1 {sh o : Nat} (hs : isSh sh) (ho : isRow o 12000) (o3 : 342 < o) (hn : n ≤ 16) (hE : ∀ e : Nat, e < n → EnOk (E e)) (hX : ∀ e : Nat, e < n → BxP q lv (E e) (X e)) : ∀ (d i : Nat) (A : ms) (w : Wt), i + d = n → w = gAll (fun e => bxG (E e) (X e)) i 0 w0 → 0 ≤ w.1 → BlC A → ShC A sh n E → CWt A o 12000 w → (∀ j : Nat, j < i → FcC A sh E X w0 w.1 j) → ∃ A', EZ (Xwc8 sh o) A A' ∧ CWt A' o 12000 (gAll (fun e => bxG (E e) (X e)) n 0 w0) ∧ (∀ j : Nat, j < n → FcC A' sh E X w0 (gAll (fun e => bxG (E e) (X e)) n 0 w0).1 j) ∧ ∀ (R : Option Value) (S' : ms), EV q 190 235 [some (.ref sh), some (.ref o), some (vI lv), some (vI (A'.1 o 1)), some (vI 0)] [] A' R S' → EV q 190 2 [some (.ref sh), some (.ref o), some (vI lv), some (vI i), none] [] A R S' := by
  have is := isSh_is hs
  have hsr : sh = 193 ∨ sh = 268 := hs
  have ok := bxG_ok hE hX
  intro d
  induction d with
  | zero =>
    intro i A w hi ew hw hI hC h hF
    have e : i = n := by omega
    subst e
    rw [← ew]
    refine ⟨A, EZ.ex (EX.refl _ A), h, hF, fun R S' k => vc_Shelf_writeBox_2 _ _ _ is _ _ ho ?_⟩
    rw [hC.1]
    exact cY (Int.le_refl _) k
  | succ d ih =>
    intro i A w hi ew hw hI hC h hF
    obtain ⟨A1, a1, a2, ⟨a3, a4, a5⟩, a6, a7⟩ := cl_bxE (q := q) (lv := lv) hs ho o3 hn (show i < n by omega) (hE i (by omega)) (hX i (by omega)) hI hC hw h
    have g1 := (ok i w (by omega)).1
    have g1' : w.1 ≤ (bxG (E i) (X i) w).1 := g1.1
    have ew1 : bxG (E i) (X i) w = gAll (fun e => bxG (E e) (X e)) (i + 1) 0 w0 := by
      rw [gAll_e, ← ew, show 0 + i = i by omega]
    obtain ⟨A', b1, b2, b3, b4⟩ := ih (i + 1) A1 (bxG (E i) (X i) w) (by omega) ew1 (by omega) (BlC_e hI (fun a k y => a1.at a k (by unfold Xwc8 XPa XRb; omega))) (ShC_k hn hC (fun a k y => a1.at a k (by unfold Xwc8 XPa XRb; omega))) a2 (fun j hj => by
      by_cases c : j = i
      · rw [c]
        refine ⟨fun y => ?_, a4, a5⟩
        rw [a3, (h.1 (by omega)).1]
        unfold hdF
        rw [← ew]
      · obtain ⟨f1, f2, f3⟩ := hF j (by omega)
        refine ⟨fun y => ?_, ?_, ?_⟩
        · rw [a6 _ _ (by omega) (by omega) (by omega)]
          exact f1 (by omega)
        · rw [a6 _ _ (by omega) (by omega) (by omega)]; exact f2
        · rw [a6 _ _ (by omega) (by omega) (by omega)]; exact f3)
    rw [show ((i + 1 : Nat) : Int) = (i : Int) + 1 by omega] at b4
    exact ⟨A', a1.trans b1, b2, b3, fun R S' k => a7 _ _ (b4 R S' k)⟩
theorem cw_lowO {A : ms} {o : Nat} (v v' : Int) {m : Nat} (hm : m ≤ 8) (ho : isRow o 12000) (hw : 0 ≤ w.1) (e : w.1 ≤ 12000 → v' = v) (h : CWt A o 12000 w) : ∃ A', EV q 57 0 [some (.ref o), some (vL v'), none, some (vI m), none] [] A none A' ∧ EX (XRo o) A A' ∧ CWt A' o 12000 (wtPuts (loF v) m w) := by
  obtain ⟨A', k1, k2, k3⟩ := cw_low (q := q) v' (n := m) hm ho (by decide) hw h
  refine ⟨A', k1, k2, ?_⟩
  by_cases c : w.1 ≤ 12000
  · rw [← e c]
    exact k3
  · have a := wtPuts_1 (loF v) w m
    have b := wtPuts_1 (loF v') w m
    exact ⟨fun y => absurd y (by omega), fun _ => k3.2 (by omega)⟩
theorem cl_bxR {A : ms} {sh o e : Nat} {b0 : Int} (hs : isSh sh) (ho : isRow o 12000) (o3 : 342 < o) (hn : n ≤ 16) (he : e < n) (hok : EnOk (E e)) (hX : BxP q lv (E e) (X e)) (hC : ShC A sh n E) (hF : FcC A sh E X w0 w.1 e) (hh : 0 ≤ hdF E X w0 e ∧ hdF E X w0 e ≤ w.1) (hw : 0 ≤ w.1) (h : CWt A o 12000 w) : ∃ A', EX (XRo o) A A' ∧ CWt A' o 12000 (bxRw (E e) (X e) (hdF E X w0 e) w) ∧ ∀ (R : Option Value) (S' : ms), EV q 190 235 [some (.ref sh), some (.ref o), some (vI lv), some (vI b0), some (vI ((e : Int) + 1))] [] A' R S' → EV q 190 235 [some (.ref sh), some (.ref o), some (vI lv), some (vI b0), some (vI e)] [] A R S' := by
  have is := isSh_is hs
  have hsr : sh = 193 ∨ sh = 268 := hs
  obtain ⟨r1, r2, r3, r4⟩ := sh_nm hs (show e < 16 by omega)
  have ee : Unit → w32 (e : Int) = e := fun _ => w32_of (by omega)
  have rw1 : sh_r (SH (sh + 1)).2.2 ((e : Int)).toNat = some (sh + 11 + 4 * e) := by rw [show ((e : Int)).toNat = e by omega]; exact r1
  obtain ⟨xr1, xr2, xr3⟩ := BxP_r hok hX
  obtain ⟨-, -, -, -, -, -, hcr⟩ := hX
  obtain ⟨⟨c1, c2⟩, ⟨c3, c4⟩, c5, c6⟩ := hC.2 e he
  have hok' := hok
  obtain ⟨⟨n1, n2⟩, s1, s2, m1, t1⟩ := hok
  obtain ⟨f8, f9, f10⟩ := hF
  obtain ⟨hd, ehd⟩ : ∃ hd, hd = hdF E X w0 e := ⟨_, rfl⟩
  rw [← ehd] at f8 hh ⊢
  obtain ⟨B1, a1, a2, a3⟩ := cw_low (q := q) 33639248 (n := 4) (by decide) ho (by decide) hw h
  have g1 := wtPuts_1 (loF 33639248) w 4
  obtain ⟨B2, b1, b2, b3⟩ := cw_low (q := q) 20 (n := 2) (by decide) ho (by decide) (by omega) a3
  have g2 := wtPuts_1 (loF 20) (wtPuts (loF 33639248) 4 w) 2
  obtain ⟨B3, d1, d2, d3⟩ := cw_low (q := q) 20 (n := 2) (by decide) ho (by decide) (by omega) b3
  have g3 := wtPuts_1 (loF 20) (wtPuts (loF 20) 2 (wtPuts (loF 33639248) 4 w)) 2
  obtain ⟨B4, i1, i2, i3⟩ := cw_low (q := q) 0 (n := 2) (by decide) ho (by decide) (by omega) d3
  have g4 := wtPuts_1 (loF 0) (wtPuts (loF 20) 2 (wtPuts (loF 20) 2 (wtPuts (loF 33639248) 4 w))) 2
  obtain ⟨W4, eW4⟩ : ∃ W4, W4 = wtPuts (loF 0) 2 (wtPuts (loF 20) 2 (wtPuts (loF 20) 2 (wtPuts (loF 33639248) 4 w))) := ⟨_, rfl⟩
  rw [← eW4] at i3 g4
  have y4 : EX (XRo o) A B4 := ((a2.trans b2).trans d2).trans i2
  have atB4 : ∀ (a : Nat) (k : Int), a < 343 → B4.1 a k = A.1 a k := fun a k y => y4.2 a k (by unfold XRo; omega)
  obtain ⟨B5, l1, l2, l3⟩ := cl_bxF (q := q) (w := W4) hs ho o3 hn he hok' xr1 xr2 hcr (ShC_k hn hC (fun a k y => atB4 a k (by omega))) (by rw [atB4 _ _ (by omega)]; exact f9) (by rw [atB4 _ _ (by omega)]; exact f10) (by omega) i3
  have g5 := bxFt_1 (E e) (X e) W4
  obtain ⟨B6, o1, o2, o4⟩ := cw_low (q := q) 0 (n := 8) (by decide) ho (by decide) (by omega) l2
  have g6 := wtPuts_1 (loF 0) (bxFt (E e) (X e) W4) 8
  have y6 : EX (XRo o) A B6 := (y4.trans l1).trans o2
  obtain ⟨B7, p1, p2, p3⟩ := cw_low (q := q) ((E e).2.2.1 * 65536) (n := 4) (by decide) ho (by decide) (by omega) o4
  have g7 := wtPuts_1 (loF ((E e).2.2.1 * 65536)) (wtPuts (loF 0) 8 (bxFt (E e) (X e) W4)) 4
  have y7 := y6.trans p2
  obtain ⟨B8, u1, u2, u3⟩ := cw_lowO (q := q) hd (w32 (A.1 (sh + 8) e)) (m := 4) (by decide) ho (by omega) (fun y => by rw [f8 (by omega), w32_of (by omega)]) p3
  have g8 := wtPuts_1 (loF hd) (wtPuts (loF ((E e).2.2.1 * 65536)) 4 (wtPuts (loF 0) 8 (bxFt (E e) (X e) W4))) 4
  have y8 := y7.trans u2
  have atB8 : ∀ (a : Nat) (k : Int), a < 343 → B8.1 a k = A.1 a k := fun a k y => y8.2 a k (by unfold XRo; omega)
  obtain ⟨B9, v1, v2, v3⟩ := cw_span (q := q) (A := B8) (a1 := sh + 11 + 4 * e + 1) (n1 := 100) (b := 0) (n := (E e).1.toNat) (g := fun k => (E e).2.1 k) r2.2 (by omega) (by decide) (fun k hk => ⟨by have := n2 k (by omega) (by omega); omega, by rw [show ((0 : Nat) : Int) + (k : Int) = k by omega, atB8 _ _ (by omega)]; exact c2 k (by omega) (by omega)⟩) ho (by decide) (by omega) u3
  rw [show ((0 : Nat) : Int) + (((E e).1.toNat : Nat) : Int) = (E e).1 by omega] at v1
  refine ⟨B9, y8.trans v2, ?_, fun R S' kk => vc_Shelf_writeBox_235 _ _ _ _ is _ _ ho ?_⟩
  · unfold bxRw
    rw [← eW4]
    exact v3
  · rw [hC.1, ee (), show w32 (n : Int) = n from w32_of (by omega)]
    refine cNo (by omega) ⟨B1, a1, B2, b1, B3, d1, B4, i1, B5, l3, B6, o1, by omega, B7, ?_, by omega, B8, ?_, by omega, sh + 11 + 4 * e, 100, rw1, r2, by omega, sh + 11 + 4 * e, 100, rw1, r2, B9, ?_, kk⟩
    · rw [y6.2 _ _ (by unfold XRo; omega), c3, w32_of (x := (E e).2.2.1) (by omega)]
      exact p1
    · rw [y7.2 _ _ (by unfold XRo; omega)]
      exact u1
    · rw [atB8 _ _ (by omega), c1]
      exact v1
theorem cl_bx2 {sh o : Nat} {b0 bg : Int} (hs : isSh sh) (ho : isRow o 12000) (o3 : 342 < o) (hn : n ≤ 16) (hE : ∀ e : Nat, e < n → EnOk (E e)) (hX : ∀ e : Nat, e < n → BxP q lv (E e) (X e)) (hbg : 0 ≤ bg) (hh : ∀ e : Nat, e < n → 0 ≤ hdF E X w0 e ∧ hdF E X w0 e ≤ bg) : ∀ (d i : Nat) (A : ms) (w : Wt), i + d = n → bg ≤ w.1 → (w.1 ≤ 12000 → b0 = bg) → ShC A sh n E → CWt A o 12000 w → (∀ j : Nat, j < n → FcC A sh E X w0 w.1 j) → ∃ A', EX (XRo o) A A' ∧ CWt A' o 12000 (bxEd n bg ((gAll (fun e => bxRw (E e) (X e) (hdF E X w0 e)) d i w).1 - bg) (gAll (fun e => bxRw (E e) (X e) (hdF E X w0 e)) d i w)) ∧ EV q 190 235 [some (.ref sh), some (.ref o), some (vI lv), some (vI b0), some (vI i)] [] A none A' := by
  have is := isSh_is hs
  have hsr : sh = 193 ∨ sh = 268 := hs
  intro d
  induction d with
  | zero =>
    intro i A w hi hbw hb hC h hF
    have gz : gAll (fun e => bxRw (E e) (X e) (hdF E X w0 e)) 0 i w = w := rfl
    rw [gz]
    obtain ⟨B1, a1, a2, a3⟩ := cw_low (q := q) 101010256 (n := 4) (by decide) ho (by decide) (by omega) h
    have g1 := wtPuts_1 (loF 101010256) w 4
    obtain ⟨B2, b1, b2, b3⟩ := cw_low (q := q) 0 (n := 4) (by decide) ho (by decide) (by omega) a3
    have g2 := wtPuts_1 (loF 0) (wtPuts (loF 101010256) 4 w) 4
    have y2 := a2.trans b2
    obtain ⟨B3, d1, d2, d3⟩ := cw_low (q := q) n (n := 2) (by decide) ho (by decide) (by omega) b3
    have g3 := wtPuts_1 (loF n) (wtPuts (loF 0) 4 (wtPuts (loF 101010256) 4 w)) 2
    have y3 := y2.trans d2
    obtain ⟨B4, i1, i2, i3⟩ := cw_low (q := q) n (n := 2) (by decide) ho (by decide) (by omega) d3
    have g4 := wtPuts_1 (loF n) (wtPuts (loF n) 2 (wtPuts (loF 0) 4 (wtPuts (loF 101010256) 4 w))) 2
    obtain ⟨B5, l1, l2, l3⟩ := cw_lowO (q := q) (w.1 - bg) (w32 (A.1 o 1 - b0)) (m := 4) (by decide) ho (by omega) (fun y => by rw [(h.1 (by omega)).1, hb (by omega), w32_of (by omega)]) i3
    have g5 := wtPuts_1 (loF (w.1 - bg)) (wtPuts (loF n) 2 (wtPuts (loF n) 2 (wtPuts (loF 0) 4 (wtPuts (loF 101010256) 4 w)))) 4
    obtain ⟨B6, p1, p2, p3⟩ := cw_lowO (q := q) bg (w32 b0) (m := 4) (by decide) ho (by omega) (fun y => by rw [hb (by omega), w32_of (by omega)]) l3
    have g6 := wtPuts_1 (loF bg) (wtPuts (loF (w.1 - bg)) 4 (wtPuts (loF n) 2 (wtPuts (loF n) 2 (wtPuts (loF 0) 4 (wtPuts (loF 101010256) 4 w))))) 4
    obtain ⟨B7, u1, u2, u3⟩ := cw_low (q := q) 0 (n := 2) (by decide) ho (by decide) (by omega) p3
    refine ⟨B7, ((((y3.trans i2).trans l2).trans p2).trans u2), u3, vc_Shelf_writeBox_235 _ _ _ _ is _ _ ho ?_⟩
    have n2 : B2.1 sh 4 = n := by rw [y2.2 _ _ (by unfold XRo; omega)]; exact hC.1
    have n3 : B3.1 sh 4 = n := by rw [y3.2 _ _ (by unfold XRo; omega)]; exact hC.1
    rw [hC.1, show i = n by omega]
    refine cY (Int.le_refl _) ⟨B1, a1, B2, b1, B3, ?_, B4, ?_, B5, l1, B6, p1, B7, u1, rfl, rfl⟩
    · rw [n2, show w32 (n : Int) = n from w32_of (by omega)]
      exact d1
    · rw [n3, show w32 (n : Int) = n from w32_of (by omega)]
      exact i1
  | succ d ih =>
    intro i A w hi hbw hb hC h hF
    have hhi := hh i (by omega)
    obtain ⟨A1, a1, a2, a3⟩ := cl_bxR (q := q) (lv := lv) (b0 := b0) (w0 := w0) hs ho o3 hn (show i < n by omega) (hE i (by omega)) (hX i (by omega)) hC (hF i (by omega)) ⟨hhi.1, by omega⟩ (by omega) h
    have g1 := bxRw_1 (hE i (by omega)) (X i) (hdF E X w0 i) w
    have s1 := (hE i (by omega)).1.1
    obtain ⟨A', b1, b2, b3⟩ := ih (i + 1) A1 (bxRw (E i) (X i) (hdF E X w0 i) w) (by omega) (by omega) (fun y => hb (by omega)) (ShC_k hn hC (fun a k y => a1.2 a k (by unfold XRo; omega))) a2 (fun j hj => by
      obtain ⟨f1, f2, f3⟩ := hF j hj
      refine ⟨fun y => ?_, ?_, ?_⟩
      · rw [a1.2 _ _ (by unfold XRo; omega)]; exact f1 (by omega)
      · rw [a1.2 _ _ (by unfold XRo; omega)]; exact f2
      · rw [a1.2 _ _ (by unfold XRo; omega)]; exact f3)
    rw [show ((i + 1 : Nat) : Int) = (i : Int) + 1 by omega] at b3
    exact ⟨A', a1.trans b1, b2, a3 _ _ b3⟩
end WrM
