/-! write: BOX, an entry in the class -/
section WrK
variable {q : Nat × (Nat → Int32)} {n : Nat} {E : Nat → En} {w : Wt}
/-- how a text stands: method, how many octets, which, its sum -/
abbrev Bx := Int × Int × (Int → Int) × Int
def bxFt (E : En) (X : Bx) (w : Wt) : Wt := wtPuts (loF E.1) 2 (wtPuts (loF E.2.2.2.2.1) 4 (wtPuts (loF X.2.1) 4 (wtPuts (loF X.2.2.2) 4 (wtPuts (loF E.2.2.2.1) 4 (wtPuts (loF X.1) 2 w)))))
def bxHd (E : En) (X : Bx) (w : Wt) : Wt := wtPuts (fun k => E.2.1 k) E.1.toNat (wtPuts (loF 0) 2 (bxFt E X (wtPuts (loF 0) 2 (wtPuts (loF 20) 2 (wtPuts (loF 67324752) 4 w)))))
def bxG (E : En) (X : Bx) (w : Wt) : Wt := wtPuts (fun k => X.2.2.1 k) X.2.1.toNat (bxHd E X w)
def bxRw (E : En) (X : Bx) (hd : Int) (w : Wt) : Wt := wtPuts (fun k => E.2.1 k) E.1.toNat (wtPuts (loF hd) 4 (wtPuts (loF (E.2.2.1 * 65536)) 4 (wtPuts (loF 0) 8 (bxFt E X (wtPuts (loF 0) 2 (wtPuts (loF 20) 2 (wtPuts (loF 20) 2 (wtPuts (loF 33639248) 4 w))))))))
def bxEd (n : Nat) (bg rw : Int) (w : Wt) : Wt := wtPuts (loF 0) 2 (wtPuts (loF bg) 4 (wtPuts (loF rw) 4 (wtPuts (loF n) 2 (wtPuts (loF n) 2 (wtPuts (loF 0) 4 (wtPuts (loF 101010256) 4 w))))))
theorem bxFt_1 (E : En) (X : Bx) (w : Wt) : (bxFt E X w).1 = w.1 + 20 := by
  unfold bxFt
  rw [wtPuts_1, wtPuts_1, wtPuts_1, wtPuts_1, wtPuts_1, wtPuts_1]
  omega
theorem bxHd_1 {E : En} (h : EnOk E) (X : Bx) (w : Wt) : (bxHd E X w).1 = w.1 + 30 + E.1 := by
  have := h.1.1
  unfold bxHd
  rw [wtPuts_1, wtPuts_1, bxFt_1, wtPuts_1, wtPuts_1, wtPuts_1]
  omega
theorem bxRw_1 {E : En} (h : EnOk E) (X : Bx) (hd : Int) (w : Wt) : (bxRw E X hd w).1 = w.1 + 46 + E.1 := by
  have := h.1.1
  unfold bxRw
  rw [wtPuts_1, wtPuts_1, wtPuts_1, wtPuts_1, bxFt_1, wtPuts_1, wtPuts_1, wtPuts_1, wtPuts_1]
  omega
theorem bxEd_1 (n : Nat) (bg rw' : Int) (w : Wt) : (bxEd n bg rw' w).1 = w.1 + 22 := by
  unfold bxEd
  rw [wtPuts_1, wtPuts_1, wtPuts_1, wtPuts_1, wtPuts_1, wtPuts_1, wtPuts_1]
  omega
theorem bxFt_O {E : En} {X : Bx} {w : Wt} (h : wtO w) : wtO (bxFt E X w) := wtO_puts _ (wtO_puts _ (wtO_puts _ (wtO_puts _ (wtO_puts _ (wtO_puts _ h _) _) _) _) _) _
theorem bxHd_O {E : En} {X : Bx} {w : Wt} (h : wtO w) : wtO (bxHd E X w) := wtO_puts _ (wtO_puts _ (bxFt_O (wtO_puts _ (wtO_puts _ (wtO_puts _ h _) _) _)) _) _
theorem bxRw_O {E : En} {X : Bx} {hd : Int} {w : Wt} (h : wtO w) : wtO (bxRw E X hd w) := wtO_puts _ (wtO_puts _ (wtO_puts _ (wtO_puts _ (bxFt_O (wtO_puts _ (wtO_puts _ (wtO_puts _ (wtO_puts _ h _) _) _) _)) _) _) _) _
theorem bxEd_O {n : Nat} {bg rw' : Int} {w : Wt} (h : wtO w) : wtO (bxEd n bg rw' w) := wtO_puts _ (wtO_puts _ (wtO_puts _ (wtO_puts _ (wtO_puts _ (wtO_puts _ (wtO_puts _ h _) _) _) _) _) _) _
def BxP (q : Nat × (Nat → Int32)) (lv : Int) (E : En) (X : Bx) : Prop := ∃ (F : Wb → Wb) (T : Int → Int × Int × Int) (K : Int), ShE F ∧ (∀ s0 : Wb, s0.2 = 0 → wbR 0 s0 → s0.1.1 ≤ 15000 → JBx q lv E.2.2.2.2.1 E.2.2.2.2.2 s0 (F s0) T K) ∧ (((F (w00, 0)).1.1 < E.2.2.2.2.1 ∧ X.1 = 8 ∧ X.2.1 = (F (w00, 0)).1.1 ∧ X.2.2.1 = (F (w00, 0)).1.2) ∨ (¬ (F (w00, 0)).1.1 < E.2.2.2.2.1 ∧ X.1 = 0 ∧ X.2.1 = E.2.2.2.2.1 ∧ X.2.2.1 = E.2.2.2.2.2)) ∧ (Unit → X.2.2.2 = w32 (-((crR (fun k => E.2.2.2.2.2 k) E.2.2.2.2.1.toNat : Nat) : Int) - 1))
theorem BxP_ex {lv : Int} {E : En} (h : EnOk E) (hl : 0 ≤ lv ∧ lv ≤ 4) : ∃ X, BxP q lv E X := by
  obtain ⟨F, T, K, h1, h2⟩ := jb_s (q := q) (x := E.2.2.2.2.1) (t := E.2.2.2.2.2) h.2.1 h.2.2.1 hl
  by_cases c : (F (w00, 0)).1.1 < E.2.2.2.2.1
  · exact ⟨(8, (F (w00, 0)).1.1, (F (w00, 0)).1.2, _), F, T, K, h1, h2, Or.inl ⟨c, rfl, rfl, rfl⟩, fun _ => rfl⟩
  · exact ⟨(0, E.2.2.2.2.1, E.2.2.2.2.2, _), F, T, K, h1, h2, Or.inr ⟨c, rfl, rfl, rfl⟩, fun _ => rfl⟩
theorem w00_b : wbR 0 (w00, 0) := wbR_0 (Int.le_refl _) w00_O
theorem BxP_r {lv : Int} {E : En} {X : Bx} (h : EnOk E) (hX : BxP q lv E X) : (X.1 = 0 ∨ X.1 = 8) ∧ (0 ≤ X.2.1 ∧ X.2.1 ≤ 6000) ∧ ∀ k : Int, 0 ≤ k → k < X.2.1 → 0 ≤ X.2.2.1 k ∧ X.2.2.1 k < 256 := by
  obtain ⟨F, T, K, -, h2, h3, -⟩ := hX
  obtain ⟨⟨j1, j2, -⟩, -, -⟩ := h2 (w00, 0) rfl w00_b (by show (0 : Int) ≤ 15000; decide)
  have s := h.2.1
  have j2' : (0 : Int) ≤ (F (w00, 0)).1.1 := j2.1
  rcases h3 with ⟨c, e1, e2, e3⟩ | ⟨c, e1, e2, e3⟩
  · refine ⟨Or.inr e1, by omega, fun k k0 k1 => ?_⟩
    rw [e3]
    exact j1.1.2 k
  · refine ⟨Or.inl e1, by omega, fun k k0 k1 => ?_⟩
    rw [e3]
    exact h.2.2.1 k k0 (by omega)
theorem bxG_1 {lv : Int} {E : En} {X : Bx} (h : EnOk E) (hX : BxP q lv E X) (w : Wt) : (bxG E X w).1 = w.1 + 30 + E.1 + X.2.1 := by
  have r := (BxP_r h hX).2.1
  unfold bxG
  rw [wtPuts_1, bxHd_1 h]
  omega
/-- longs and one reference aside -/
def EZ (X : Nat → Int → Prop) (A A' : ms) : Prop := ∃ c : Nat, EY X (wR A 10 2 c) A'
theorem EZ.ex {X : Nat → Int → Prop} {A A' : ms} (h : EX X A A') : EZ X A A' := ⟨A.2.2 10 2, by rw [wR_id]; exact h.ey⟩
theorem EZ.at {X : Nat → Int → Prop} {A A' : ms} (h : EZ X A A') (a : Nat) (k : Int) (n : ¬ X a k) : A'.1 a k = A.1 a k := by
  obtain ⟨c, h1, h2⟩ := h
  rw [h2 a k n]
  rfl
theorem EZ.trans {X : Nat → Int → Prop} {A B C : ms} (h1 : EZ X A B) (h2 : EZ X B C) : EZ X A C := by
  obtain ⟨c1, a1, a2⟩ := h1
  obtain ⟨c2, b1, b2⟩ := h2
  refine ⟨c2, ?_, fun a k n => by rw [b2 a k n]; exact a2 a k n⟩
  rw [b1]
  funext a k
  show (if a = 10 ∧ k = 2 then c2 else B.2.2 a k) = if a = 10 ∧ k = 2 then c2 else A.2.2 a k
  rw [a1]
  by_cases e : a = 10 ∧ k = 2
  · rw [if_pos e, if_pos e]
  · rw [if_neg e, if_neg e]
    exact if_neg e
theorem EZ.mono {X Y : Nat → Int → Prop} {A B : ms} (h : EZ X A B) (hx : ∀ a k, X a k → Y a k) : EZ Y A B := by
  obtain ⟨c, a1, a2⟩ := h
  exact ⟨c, a1, fun a k n => a2 a k (fun y => n (hx a k y))⟩
/-- boxFacts -/
theorem cl_bxF {A : ms} {sh o e : Nat} {X : Bx} (hs : isSh sh) (ho : isRow o 12000) (o3 : 342 < o) (hn : n ≤ 16) (he : e < n) (hok : EnOk (E e)) (hX1 : X.1 = 0 ∨ X.1 = 8) (hX2 : 0 ≤ X.2.1 ∧ X.2.1 ≤ 6000) (hX4 : Unit → X.2.2.2 = w32 (-((crR (fun k => (E e).2.2.2.2.2 k) (E e).2.2.2.2.1.toNat : Nat) : Int) - 1)) (hC : ShC A sh n E) (h9 : A.1 (sh + 9) e = X.1) (h10 : A.1 (sh + 10) e = X.2.1) (hw : 0 ≤ w.1) (h : CWt A o 12000 w) : ∃ A', EX (XRo o) A A' ∧ CWt A' o 12000 (bxFt (E e) X w) ∧ EV q 191 0 [some (.ref sh), some (vI e), some (.ref o)] [] A none A' := by
  have is := isSh_is hs
  have hsr : sh = 193 ∨ sh = 268 := hs
  obtain ⟨r1, r2, r3, r4⟩ := sh_nm hs (show e < 16 by omega)
  have ee : Unit → w32 (e : Int) = e := fun _ => w32_of (by omega)
  obtain ⟨⟨c1, c2⟩, ⟨c3, c4⟩, c5, c6⟩ := hC.2 e he
  obtain ⟨⟨n1, n2⟩, s1, s2, m1, t1⟩ := hok
  obtain ⟨A1, a1, a2, a3⟩ := cw_low (q := q) X.1 (n := 2) (by decide) ho (by decide) hw h
  have g1 := wtPuts_1 (loF X.1) w 2
  obtain ⟨A2, b1, b2, b3⟩ := cw_low (q := q) (E e).2.2.2.1 (n := 4) (by decide) ho (by decide) (by omega) a3
  have g2 := wtPuts_1 (loF (E e).2.2.2.1) (wtPuts (loF X.1) 2 w) 4
  have x2 : EX (XRo o) A A2 := a2.trans b2
  have at2 : ∀ (a : Nat) (k : Int), a < 343 → A2.1 a k = A.1 a k := fun a k y => x2.2 a k (by unfold XRo; omega)
  have kr := sp_crd (q := q) (S := A2) (c := sh + 13 + 4 * e + 1) (n1 := 6000) (n := (E e).2.2.2.2.1.toNat) (fr := 0) (g := fun k => (E e).2.2.2.2.2 k) r4.2 (by decide) (by decide) (by omega) (fun k hk => ⟨s2 k (by omega) (by omega), by rw [at2 _ _ (by omega), show (0 : Int) + (k : Int) = k by omega]; exact c6 k (by omega) (by omega)⟩)
  rw [show (0 : Int) + (((E e).2.2.2.2.1.toNat : Nat) : Int) = (E e).2.2.2.2.1 by omega] at kr
  obtain ⟨A3, d1, d2, d3⟩ := cw_low (q := q) X.2.2.2 (n := 4) (by decide) ho (by decide) (by omega) b3
  have g3 := wtPuts_1 (loF X.2.2.2) (wtPuts (loF (E e).2.2.2.1) 4 (wtPuts (loF X.1) 2 w)) 4
  obtain ⟨A4, f1, f2, f3⟩ := cw_low (q := q) X.2.1 (n := 4) (by decide) ho (by decide) (by omega) d3
  have g4 := wtPuts_1 (loF X.2.1) (wtPuts (loF X.2.2.2) 4 (wtPuts (loF (E e).2.2.2.1) 4 (wtPuts (loF X.1) 2 w))) 4
  obtain ⟨A5, i1, i2, i3⟩ := cw_low (q := q) (E e).2.2.2.2.1 (n := 4) (by decide) ho (by decide) (by omega) f3
  have g5 := wtPuts_1 (loF (E e).2.2.2.2.1) (wtPuts (loF X.2.1) 4 (wtPuts (loF X.2.2.2) 4 (wtPuts (loF (E e).2.2.2.1) 4 (wtPuts (loF X.1) 2 w)))) 4
  obtain ⟨A6, j1, j2, j3⟩ := cw_low (q := q) (E e).1 (n := 2) (by decide) ho (by decide) (by omega) i3
  have x3 := x2.trans d2
  have x4 := x3.trans f2
  have x5 := x4.trans i2
  refine ⟨A6, x5.trans j2, j3, vc_Shelf_boxFacts _ _ is _ _ ho ?_⟩
  rw [ee (), h9, w32_of (x := X.1) (by omega)]
  have rw3 : sh_r (SH (sh + 2)).2.2 ((e : Int)).toNat = some (sh + 13 + 4 * e) := by rw [show ((e : Int)).toNat = e by omega]; exact r3
  have rw1 : sh_r (SH (sh + 1)).2.2 ((e : Int)).toNat = some (sh + 11 + 4 * e) := by rw [show ((e : Int)).toNat = e by omega]; exact r1
  refine ⟨by omega, A1, a1, by omega, A2, ?_, by omega, sh + 13 + 4 * e, 6000, rw3, r4, by omega, sh + 13 + 4 * e, 6000, rw3, r4, -((crR (fun k => (E e).2.2.2.2.2 k) (E e).2.2.2.2.1.toNat : Nat) : Int) - 1, A2, ?_, A3, ?_, by omega, A4, ?_, by omega, sh + 13 + 4 * e, 6000, rw3, r4, A5, ?_, by omega, sh + 11 + 4 * e, 100, rw1, r2, A6, ?_, rfl, rfl⟩
  · rw [a2.2 _ _ (by unfold XRo; omega), c4, w32_of (x := (E e).2.2.2.1) (by omega)]
    exact b1
  · rw [at2 _ _ (by omega), c5]
    exact kr
  · rw [← hX4 ()]
    exact d1
  · rw [x3.2 _ _ (by unfold XRo; omega), h10, w32_of (x := X.2.1) (by omega)]
    exact f1
  · rw [x4.2 _ _ (by unfold XRo; omega), c5, w32_of (x := (E e).2.2.2.2.1) (by omega)]
    exact i1
  · rw [x5.2 _ _ (by unfold XRo; omega), c1, w32_of (x := (E e).1) (by omega)]
    exact j1
end WrK
