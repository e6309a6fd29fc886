/-! write: BOX, a text in the class -/
section WrL
variable {q : Nat × (Nat → Int32)} {n : Nat} {E : Nat → En} {w : Wt}
theorem cl_bxE {A : ms} {sh o e : Nat} {X : Bx} {lv : Int} (hs : isSh sh) (ho : isRow o 12000) (o3 : 342 < o) (hn : n ≤ 16) (he : e < n) (hok : EnOk (E e)) (hX : BxP q lv (E e) X) (hI : BlC A) (hC : ShC A sh n E) (hw : 0 ≤ w.1) (h : CWt A o 12000 w) : ∃ A', EZ (Xwc8 sh o) A A' ∧ CWt A' o 12000 (bxG (E e) X w) ∧ (A'.1 (sh + 8) e = A.1 o 1 ∧ A'.1 (sh + 9) e = X.1 ∧ A'.1 (sh + 10) e = X.2.1) ∧ (∀ (a : Nat) (k : Int), sh + 8 ≤ a → a ≤ sh + 10 → k ≠ e → A'.1 a k = A.1 a k) ∧ ∀ (R : Option Value) (S' : ms), EV q 190 2 [some (.ref sh), some (.ref o), some (vI lv), some (vI ((e : Int) + 1)), none] [] A' R S' → EV q 190 2 [some (.ref sh), some (.ref o), some (vI lv), some (vI e), none] [] A R S' := by
  have is := isSh_is hs
  have hsr : sh = 193 ∨ sh = 268 := hs
  obtain ⟨r1, r2, r3, r4⟩ := sh_nm hs (show e < 16 by omega)
  have ee : Unit → w32 (e : Int) = e := fun _ => w32_of (by omega)
  have s9 : SH (sh + 9) = (0, 16, []) := by rcases hsr with y | y <;> rw [y] <;> rfl
  have s10 : SH (sh + 10) = (0, 16, []) := by rcases hsr with y | y <;> rw [y] <;> rfl
  have rw3 : sh_r (SH (sh + 2)).2.2 ((e : Int)).toNat = some (sh + 13 + 4 * e) := by rw [show ((e : Int)).toNat = e by omega]; exact r3
  have rw1 : sh_r (SH (sh + 1)).2.2 ((e : Int)).toNat = some (sh + 11 + 4 * e) := by rw [show ((e : Int)).toNat = e by omega]; exact r1
  obtain ⟨xr1, xr2, xr3⟩ := BxP_r hok hX
  have gG := bxG_1 hok hX w
  obtain ⟨F, T, K, hF, hJ, hD, hcr⟩ := hX
  obtain ⟨⟨j1, j2, -⟩, jc, -⟩ := hJ (w00, 0) rfl w00_b (by show (0 : Int) ≤ 15000; decide)
  obtain ⟨⟨c1, c2⟩, ⟨c3, c4⟩, c5, c6⟩ := hC.2 e he
  have hok' := hok
  obtain ⟨⟨n1, n2⟩, s1, s2, m1, t1⟩ := hok
  -- the text is packed
  obtain ⟨A1, e1⟩ : ∃ A1, A1 = wI A (sh + 8) e (A.1 o 1) := ⟨_, rfl⟩
  obtain ⟨A2, e2⟩ : ∃ A2, A2 = CL A1 7 := ⟨_, rfl⟩
  have kcl := sp_clear (q := q) (S := A1) is_7
  rw [← e2] at kcl
  have at2 : ∀ (a : Nat) (k : Int), a ≠ 7 → ¬ (a = sh + 8 ∧ k = e) → A2.1 a k = A.1 a k := fun a k y1 y2 => by rw [e2, CL_n _ y1, e1, wI_no _ y2]
  have cl2 : ∀ k : Int, A2.1 7 k = if k = 3 then 0 else if k = 2 then 0 else if k = 1 then 0 else A1.1 7 k := fun k => by
    rw [e2, CL_at]
    by_cases c3 : k = 3
    · rw [if_pos ⟨rfl, c3⟩, if_pos c3]
    · rw [if_neg (fun y => c3 y.2), if_neg c3]
      by_cases c2 : k = 2
      · rw [if_pos ⟨rfl, c2⟩, if_pos c2]
      · rw [if_neg (fun y => c2 y.2), if_neg c2]
        by_cases c1 : k = 1
        · rw [if_pos ⟨rfl, c1⟩, if_pos c1]
        · rw [if_neg (fun y => c1 y.2), if_neg c1]
  have hb2 : CBt A2 7 12000 (w00, 0) := by
    refine ⟨⟨fun _ => ⟨?_, ?_, fun k k0 k1 => absurd k1 (by show ¬ k < 0; omega)⟩, fun y => absurd y (by show ¬ ((12000 : Nat) : Int) < 0; decide)⟩, ?_⟩
    · rw [cl2, if_neg (by decide), if_neg (by decide), if_pos rfl]; rfl
    · rw [cl2, if_neg (by decide), if_pos rfl]
    · rw [cl2, if_pos rfl]; rfl
  have hT2 : TXr A2 (sh + 13 + 4 * e) (E e).2.2.2.2.1 (E e).2.2.2.2.2 := by
    refine ⟨⟨r4, by omega⟩, by rw [at2 _ _ (by omega) (by omega)]; exact c5, fun k k0 k1 => ⟨s2 k k0 k1, by rw [at2 _ _ (by omega) (by omega)]; exact c6 k k0 k1⟩⟩
  obtain ⟨A3, cc, z, -, k2, k3, -, k5⟩ := jc A2 7 (sh + 13 + 4 * e) is_7 (Or.inr rfl) (BlC_e hI (fun a k y => at2 a k (by omega) (by omega))) hT2 hb2 (by show (0 : Int) ≤ 1000; decide)
  have at3 : ∀ (a : Nat) (k : Int), 173 ≤ a → ¬ (a = sh + 8 ∧ k = e) → A3.1 a k = A.1 a k := fun a k y1 y2 => by
    rw [k2.2 a k (by unfold XPa XRb; omega)]
    show A2.1 a k = A.1 a k
    exact at2 a k (by omega) y2
  have z3 : EZ (Xwc8 sh o) A A3 := by
    refine ⟨cc, ?_, fun a k y => ?_⟩
    · rw [k2.1, e2, e1]
      rfl
    · have y1 : ¬ XPa 7 a k := fun z => y (Or.inl (by unfold XPa XRb at z; unfold XPa XRb; omega))
      have y2 : ¬ (a = sh + 8 ∧ k = e) := fun z => y (Or.inr (by omega))
      have y3 : a ≠ 7 := fun z => y (Or.inl (by unfold XPa; omega))
      rw [k2.2 a k y1]
      exact at2 a k y3 y2
  have kv : CWt A3 7 12000 (F (w00, 0)).1 := k3.1
  obtain ⟨v, ev⟩ : ∃ v, v = (F (w00, 0)).1 := ⟨_, rfl⟩
  have j2' : (0 : Int) ≤ (F (w00, 0)).1.1 ∧ (F (w00, 0)).1.1 < 900000 := j2
  rw [← ev] at kv hD j2'
  -- shorter
  obtain ⟨x4, hx4⟩ : ∃ x4 : Int, (x4 = 1 ∧ v.1 < (E e).2.2.2.2.1 ∧ X.1 = 8 ∧ X.2.1 = v.1 ∧ X.2.2.1 = v.2) ∨ (x4 = 0 ∧ ¬ v.1 < (E e).2.2.2.2.1 ∧ X.1 = 0 ∧ X.2.1 = (E e).2.2.2.2.1 ∧ X.2.2.1 = (E e).2.2.2.2.2) := by
    rcases hD with y | y
    · exact ⟨1, Or.inl ⟨rfl, y⟩⟩
    · exact ⟨0, Or.inr ⟨rfl, y⟩⟩
  have x4r : x4 = 0 ∨ x4 = 1 := by omega
  obtain ⟨A4, e4⟩ : ∃ A4, A4 = wI A3 (sh + 9) e X.1 := ⟨_, rfl⟩
  obtain ⟨A5, e5⟩ : ∃ A5, A5 = wI A4 (sh + 10) e X.2.1 := ⟨_, rfl⟩
  have at5 : ∀ (a : Nat) (k : Int), ¬ (a = sh + 9 ∧ k = e) → ¬ (a = sh + 10 ∧ k = e) → A5.1 a k = A3.1 a k := fun a k y1 y2 => by rw [e5, wI_no _ y2, e4, wI_no _ y1]
  have z5 : EZ (Xwc8 sh o) A A5 := by
    refine z3.trans (EZ.ex ?_)
    rw [e5, e4]
    exact ((EX.refl _ A3).wr (Or.inr (by omega))).wr (Or.inr (by omega))
  have h5 : CWt A5 o 12000 w := CWt_cg h (fun a k y => by
    unfold XRo at y
    rw [at5 a k (by omega) (by omega)]
    exact at3 a k (by omega) (by omega))
  have C5 : ShC A5 sh n E := ShC_k hn hC (fun a k y => by
    rw [at5 a k (by omega) (by omega)]
    exact at3 a k (by omega) (by omega))
  -- the head
  obtain ⟨B1, a1, a2, a3⟩ := cw_low (q := q) 67324752 (n := 4) (by decide) ho (by decide) hw h5
  have g1 := wtPuts_1 (loF 67324752) w 4
  obtain ⟨B2, b1, b2, b3⟩ := cw_low (q := q) 20 (n := 2) (by decide) ho (by decide) (by omega) a3
  have g2 := wtPuts_1 (loF 20) (wtPuts (loF 67324752) 4 w) 2
  obtain ⟨B3, d1, d2, d3⟩ := cw_low (q := q) 0 (n := 2) (by decide) ho (by decide) (by omega) b3
  have g3 := wtPuts_1 (loF 0) (wtPuts (loF 20) 2 (wtPuts (loF 67324752) 4 w)) 2
  have y3 : EX (XRo o) A5 B3 := (a2.trans b2).trans d2
  have atB3 : ∀ (a : Nat) (k : Int), a < 343 → B3.1 a k = A5.1 a k := fun a k y => y3.2 a k (by unfold XRo; omega)
  have f9 : A5.1 (sh + 9) e = X.1 := by rw [e5, wI_no _ (by omega), e4, wI_at]
  have f10 : A5.1 (sh + 10) e = X.2.1 := by rw [e5, wI_at]
  obtain ⟨B4, f1, f2, f3⟩ := cl_bxF (q := q) (w := wtPuts (loF 0) 2 (wtPuts (loF 20) 2 (wtPuts (loF 67324752) 4 w))) hs ho o3 hn he hok' xr1 xr2 hcr (ShC_k hn C5 (fun a k y => atB3 a k (by omega))) (by rw [atB3 _ _ (by omega)]; exact f9) (by rw [atB3 _ _ (by omega)]; exact f10) (by omega) d3
  have g4 := bxFt_1 (E e) X (wtPuts (loF 0) 2 (wtPuts (loF 20) 2 (wtPuts (loF 67324752) 4 w)))
  obtain ⟨B5, i1, i2, i3⟩ := cw_low (q := q) 0 (n := 2) (by decide) ho (by decide) (by omega) f2
  have g5 := wtPuts_1 (loF 0) (bxFt (E e) X (wtPuts (loF 0) 2 (wtPuts (loF 20) 2 (wtPuts (loF 67324752) 4 w)))) 2
  have y5 : EX (XRo o) A5 B5 := (y3.trans f1).trans i2
  have atB5 : ∀ (a : Nat) (k : Int), a < 343 → B5.1 a k = A5.1 a k := fun a k y => y5.2 a k (by unfold XRo; omega)
  have C5' := C5.2 e he
  obtain ⟨B6, l1, l2, l3⟩ := cw_span (q := q) (A := B5) (a1 := sh + 11 + 4 * e + 1) (n1 := 100) (b := 0) (n := (E e).1.toNat) (g := fun k => (E e).2.1 k) r2.2 (by omega) (by decide) (fun k hk => ⟨by have := n2 k (by omega) (by omega); omega, by rw [show ((0 : Nat) : Int) + (k : Int) = k by omega, atB5 _ _ (by omega)]; exact C5'.1.2 k (by omega) (by omega)⟩) ho (by decide) (by omega) i3
  rw [show ((0 : Nat) : Int) + (((E e).1.toNat : Nat) : Int) = (E e).1 by omega] at l1
  have l3' : CWt B6 o 12000 (bxHd (E e) X w) := l3
  have g6 := bxHd_1 hok' X w
  have y6 : EX (XRo o) A5 B6 := y5.trans l2
  have atB6 : ∀ (a : Nat) (k : Int), a < 343 → B6.1 a k = A5.1 a k := fun a k y => y6.2 a k (by unfold XRo; omega)
  -- the octets
  obtain ⟨c0, nc0, hc0, hc1, hc2, hc3⟩ : ∃ c0 nc0 : Nat, SH c0 = (0, nc0, []) ∧ (X.2.1.toNat ≤ nc0 ∧ nc0 < 1000000) ∧ ((c0 = 8 ∧ x4 = 1) ∨ (c0 = sh + 13 + 4 * e + 1 ∧ x4 = 0)) ∧ ∀ k : Nat, k < X.2.1.toNat → B6.1 c0 k = X.2.2.1 k := by
    rcases hx4 with ⟨y1, y2, y3, y4, y5⟩ | ⟨y1, y2, y3, y4, y5⟩
    · refine ⟨8, 12000, rfl, by omega, Or.inl ⟨rfl, y1⟩, fun k hk => ?_⟩
      rw [atB6 _ _ (by omega), at5 _ _ (by omega) (by omega), y5]
      exact (kv.1 (by omega)).2.2 k (by omega) (by omega)
    · refine ⟨sh + 13 + 4 * e + 1, 6000, r4.2, by omega, Or.inr ⟨rfl, y1⟩, fun k hk => ?_⟩
      rw [atB6 _ _ (by omega), y5]
      exact C5'.2.2.2 k (by omega) (by omega)
  obtain ⟨B7, p1, p2, p3⟩ := cw_span (q := q) (A := B6) (a1 := c0) (n1 := nc0) (b := 0) (n := X.2.1.toNat) (g := fun k => X.2.2.1 k) hc0 (by omega) hc1.2 (fun k hk => ⟨xr3 k (by omega) (by omega), by rw [show ((0 : Nat) : Int) + (k : Int) = k by omega]; exact hc3 k hk⟩) ho (by decide) (by omega) l3'
  rw [show ((0 : Nat) : Int) + ((X.2.1.toNat : Nat) : Int) = X.2.1 by omega] at p1
  have y7 : EX (XRo o) A5 B7 := y6.trans p2
  have atB7 : ∀ (a : Nat) (k : Int), a < 343 → B7.1 a k = A5.1 a k := fun a k y => y7.2 a k (by unfold XRo; omega)
  refine ⟨B7, z5.trans (EZ.ex (y7.mono (fun a k y => Or.inl (by unfold XRo at y; unfold XPa XRb; omega)))), p3, ⟨?_, ?_, ?_⟩, fun a k y1 y2 y3 => ?_, fun R S' kk => ?_⟩
  · rw [atB7 _ _ (by omega), at5 _ _ (by omega) (by omega), k2.2 _ _ (by unfold XPa XRb; omega)]
    show A2.1 (sh + 8) e = A.1 o 1
    rw [e2, CL_n _ (by omega), e1, wI_at]
  · rw [atB7 _ _ (by omega)]; exact f9
  · rw [atB7 _ _ (by omega)]; exact f10
  · rw [atB7 _ _ (by omega), at5 _ _ (by omega) (by omega)]
    exact at3 _ _ (by omega) (by omega)
  · have wx4 : w32 x4 = x4 := w32_of (by omega)
    have k211 : EV q 190 211 [some (.ref sh), some (.ref o), some (vI lv), some (vI e), some (vI x4)] [.ref c0, .ref o] B6 R S' := by
      refine vc_Shelf_writeBox_211 _ _ _ _ is _ _ ho _ _ hc0 _ _ ho ?_
      rw [ee (), atB6 (sh + 10) _ (by omega), f10]
      exact ⟨by omega, B7, p1, kk⟩
    have k128 : EV q 190 128 [some (.ref sh), some (.ref o), some (vI lv), some (vI e), some (vI x4)] [vI X.2.1, vI e, .ref (sh + 10)] A4 R S' := by
      refine vc_Shelf_writeBox_128 _ _ _ _ _ _ is _ _ ho _ _ s10 ?_
      rw [ee ()]
      refine ⟨by omega, fun S2 q2 => ?_⟩
      rw [← e5] at q2
      rw [q2, wx4]
      refine ⟨B1, a1, B2, b1, B3, d1, B4, f3, B5, i1, by omega, sh + 11 + 4 * e, 100, rw1, r2, by omega, sh + 11 + 4 * e, 100, rw1, r2, B6, ?_, ?_⟩
      · rw [atB5 _ _ (by omega), C5'.1.1]
        exact l1
      · rcases hc2 with ⟨y1, y2⟩ | ⟨y1, y2⟩
        · rw [y1] at k211
          exact cNo (by omega) k211
        · rw [y1] at k211
          exact cY y2 ⟨by omega, sh + 13 + 4 * e, 6000, rw3, r4, k211⟩
    have at4 : ∀ (a : Nat) (k : Int), a ≠ sh + 9 → A4.1 a k = A3.1 a k := fun a k y => by rw [e4, wI_no _ (fun z => y z.1)]
    have c53 : A3.1 (sh + 13 + 4 * e) 1 = (E e).2.2.2.2.1 := by rw [at3 _ _ (by omega) (by omega)]; exact c5
    have k80 : EV q 190 80 [some (.ref sh), some (.ref o), some (vI lv), some (vI e), none] [vI x4] A3 R S' := by
      refine vc_Shelf_writeBox_80 _ _ _ _ is _ _ ho ?_
      rw [wx4]
      rcases hx4 with ⟨y1, y2, y3, y4, y5⟩ | ⟨y1, y2, y3, y4, y5⟩
      · refine cNo (by omega) (vc_Shelf_writeBox_98 _ _ _ _ _ _ is _ _ ho _ _ s9 ?_)
        rw [ee ()]
        refine ⟨by omega, fun S2 q2 => ?_⟩
        rw [← y3, ← e4] at q2
        rw [q2, wx4]
        have f71 : A4.1 7 1 = X.2.1 := by rw [at4 _ _ (by omega), (kv.1 (by omega)).1, y4]
        rw [f71]
        exact cNo (by omega) k128
      · refine cY y1 (vc_Shelf_writeBox_98 _ _ _ _ _ _ is _ _ ho _ _ s9 ?_)
        rw [ee ()]
        refine ⟨by omega, fun S2 q2 => ?_⟩
        rw [← y3, ← e4] at q2
        rw [q2, wx4]
        refine cY y1 ⟨by omega, sh + 13 + 4 * e, 6000, rw3, r4, ?_⟩
        rw [at4 _ _ (by omega), c53, ← y4]
        exact k128
    refine vc_Shelf_writeBox_2 _ _ _ is _ _ ho ?_
    rw [hC.1, ee (), show w32 (n : Int) = n from w32_of (by omega)]
    refine cNo (by omega) ⟨by omega, fun S2 q2 => ?_⟩
    rw [← e1] at q2
    rw [q2]
    refine ⟨A2, kcl, by omega, sh + 13 + 4 * e, 6000, rw3, r4, z, A3, k5, ?_⟩
    have k79 : x4 = 0 → EV q 190 79 [some (.ref sh), some (.ref o), some (vI lv), some (vI e), none] [] A3 R S' := fun y => by
      rw [y] at k80
      exact vc_Shelf_writeBox_79 _ _ _ is _ _ ho k80
    by_cases cv : v.1 ≤ 12000
    · obtain ⟨q1, q2, -⟩ := kv.1 cv
      rw [q2]
      refine cNN (by decide) ⟨by omega, sh + 13 + 4 * e, 6000, rw3, r4, ?_⟩
      rw [c53, q1, w32_of (x := (E e).2.2.2.2.1) (by omega), w32_of (x := v.1) (by omega)]
      rcases hx4 with ⟨y1, y2, -⟩ | ⟨y1, y2, -⟩
      · rw [y1] at k80
        exact cNo (by omega) k80
      · exact cY (by omega) (k79 y1)
    · obtain ⟨q1, -⟩ := kv.2 (by omega)
      rw [q1]
      exact cY (by decide) (k79 (by omega))
end WrL
