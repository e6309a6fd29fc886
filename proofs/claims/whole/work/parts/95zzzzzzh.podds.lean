/-! pack: ODDS, a bit on both sides -/
section POddsB
variable {q : Nat × (Nat → Int32)}
theorem wJ_at (A : ms) (a : Nat) (i v : Int) : (wJ A a i v).2.1 a i = v := if_pos ⟨rfl, rfl⟩
theorem wJ_no (A : ms) {a b : Nat} {i k v : Int} (h : ¬ (b = a ∧ k = i)) : (wJ A a i v).2.1 b k = A.2.1 b k := if_neg h
def COd (A : ms) (o : Nat) (lo ra : Int) (O : Int → Int) (w : Wt) : Prop := A.2.1 22 6 = lo ∧ A.2.1 22 7 = ra ∧ (∀ k : Int, 0 ≤ k → k < 65536 → A.1 28 k = O k) ∧ CWt A o 12000 w
def CM (B : ms) (lo ra : Int) (O : Int → Int) (w : Wt) : Prop := B.2.1 367 63 = lo ∧ B.2.1 367 64 = ra ∧ (∀ k : Int, 0 ≤ k → k < 65536 → B.1 405 k = O k) ∧ MWt B w
theorem cl_carry0 {o : Nat} (ho : isRow o 12000) : ∀ (v : Nat) (p : Int) (A : ms), p ≤ v → -1 ≤ p → p < 12000 → ∃ A', EX (fun a _ => a = o + 1) A A' ∧ EV q 111 7 [some (.ref o), some (vI p)] [] A none A' := by
  have st : ∀ (p : Int) (A : ms), -1 ≤ p → p < 12000 → ∃ A', EX (fun a _ => a = o + 1) A A' ∧ EV q 111 37 [some (.ref o), some (vI p)] [] A none A' := fun p A p0 p1 => by
    have wp : w32 p = p := w32_of (by omega)
    by_cases c : p < 2
    · exact ⟨A, EX.refl _ A, vc_Plain_carry_37 _ _ _ ho (by rw [wp]; exact cY c ⟨rfl, rfl⟩)⟩
    · refine ⟨wI A (o + 1) p ((A.1 (o + 1) p + 1) % 256), (EX.refl _ A).wr rfl, vc_Plain_carry_37 _ _ _ ho ?_⟩
      rw [wp]
      exact cNo c ⟨by omega, by omega, fun S3 f3 => ⟨rfl, f3.symm⟩⟩
  intro v
  induction v with
  | zero =>
    intro p A hv p0 p1
    obtain ⟨A', k1, k2⟩ := st p A p0 p1
    refine ⟨A', k1, vc_Plain_carry_7 _ _ _ ho ?_⟩
    rw [w32_of (x := p) (by omega)]
    exact cY (by omega) k2
  | succ v ih =>
    intro p A hv p0 p1
    have wp : w32 p = p := w32_of (by omega)
    obtain ⟨A', k1, k2⟩ := st p A p0 p1
    by_cases c : p ≤ 2
    · refine ⟨A', k1, vc_Plain_carry_7 _ _ _ ho ?_⟩
      rw [wp]
      exact cY c k2
    by_cases c2 : w32 (A.1 (o + 1) p) = 255
    · obtain ⟨A2, j1, j2⟩ := ih (p - 1) (wI A (o + 1) p 0) (by omega) (by omega) (by omega)
      refine ⟨A2, ((EX.refl _ A).wr rfl).trans j1, vc_Plain_carry_7 _ _ _ ho ?_⟩
      rw [wp]
      exact cNo c ⟨by omega, cNN c2 ⟨by omega, fun S3 f3 => by rw [f3]; exact j2⟩⟩
    · refine ⟨A', k1, vc_Plain_carry_7 _ _ _ ho ?_⟩
      rw [wp]
      exact cNo c ⟨by omega, cY c2 k2⟩
theorem cl_carry {A : ms} {o : Nat} {w : Wt} {j : Int} (ho : isRow o 12000) (hj : isJ j w) (hO : wtO w) (h : CWt A o 12000 w) : ∃ A', EX (XRo o) A A' ∧ CWt A' o 12000 (wtCar j w) ∧ EV q 111 0 [some (.ref o), none] [] A none A' := by
  have hm : ∀ A' : ms, EX (fun a _ => a = o + 1) A A' → EX (XRo o) A A' := fun A' e => EX.mono e (fun a k y => Or.inr y)
  by_cases c : w.1 ≤ 12000
  · obtain ⟨h1, h2, h3⟩ := h.1 c
    obtain ⟨⟨j0, j1⟩, j2, j3⟩ := hj
    have lp : ∀ (v : Nat) (p : Int) (A1 : ms), p = j + v → p < w.1 → EX (fun a _ => a = o + 1) A A1 → (∀ k : Int, 0 ≤ k → k < w.1 → A1.1 (o + 1) k = if p < k then 0 else w.2 k) → ∃ A', EX (fun a _ => a = o + 1) A A' ∧ (∀ k : Int, 0 ≤ k → k < w.1 → A'.1 (o + 1) k = (wtCar j w).2 k) ∧ EV q 111 7 [some (.ref o), some (vI p)] [] A1 none A' := by
      intro v
      induction v with
      | zero =>
        intro p A1 hp hp1 e1 e2
        have ep : p = j := by omega
        subst ep
        have wp : w32 p = p := w32_of (by omega)
        have ej := e2 p (by omega) hp1
        rw [if_neg (by omega)] at ej
        have oj := hO p
        have k37 : EV q 111 37 [some (.ref o), some (vI p)] [] A1 none (wI A1 (o + 1) p (w.2 p + 1)) := vc_Plain_carry_37 _ _ _ ho (by
          rw [wp, ej]
          exact cNo (by omega) ⟨by omega, by omega, fun S3 f3 => ⟨rfl, by rw [f3, show (w.2 p + 1) % 256 = w.2 p + 1 by omega]⟩⟩)
        refine ⟨wI A1 (o + 1) p (w.2 p + 1), e1.wr rfl, fun k k0 k1 => ?_, vc_Plain_carry_7 _ _ _ ho ?_⟩
        · rw [wtCar_2]
          by_cases ek : k = p
          · rw [if_pos ek, ek, wI_at]
          · rw [if_neg ek, wI_no _ (by omega), e2 k k0 k1]
            by_cases d : p < k
            · rw [if_pos d, if_pos ⟨d, k1⟩]
            · rw [if_neg d, if_neg (by omega)]
        · rw [wp, ej, w32_of (x := w.2 p) (by omega)]
          exact ⟨fun _ => k37, fun _ => ⟨by omega, cY j2 k37⟩⟩
      | succ v ih =>
        intro p A1 hp hp1 e1 e2
        have wp : w32 p = p := w32_of (by omega)
        have ep := e2 p (by omega) hp1
        rw [if_neg (by omega), j3 p (by omega) hp1] at ep
        obtain ⟨A', g1, g2, g3⟩ := ih (p - 1) (wI A1 (o + 1) p 0) (by omega) (by omega) (e1.wr rfl) (fun k k0 k1 => by
          by_cases ek : k = p
          · rw [ek, wI_at, if_pos (by omega)]
          · rw [wI_no _ (by omega), e2 k k0 k1]
            by_cases d : p < k
            · rw [if_pos d, if_pos (by omega)]
            · rw [if_neg d, if_neg (by omega)])
        refine ⟨A', g1, g2, vc_Plain_carry_7 _ _ _ ho ?_⟩
        rw [wp, ep]
        exact cNo (by omega) ⟨by omega, cNN (by decide) ⟨by omega, fun S3 f3 => by rw [f3]; exact g3⟩⟩
    obtain ⟨A', g1, g2, g3⟩ := lp (w.1 - 1 - j).toNat (w.1 - 1) A (by omega) (by omega) (EX.refl _ A) (fun k k0 k1 => by rw [if_neg (by omega)]; exact h3 k k0 k1)
    refine ⟨A', hm A' g1, ⟨fun _ => ⟨?_, ?_, g2⟩, fun y => absurd y (by show ¬ (12000 : Nat) < w.1; omega)⟩, vc_Plain_carry _ _ ho (by rw [h1]; exact g3)⟩
    · rw [g1.2 o 1 (by omega), h1]; rfl
    · rw [g1.2 o 2 (by omega), h2]
  · obtain ⟨h1, h2, h3⟩ := h.2 (by omega)
    obtain ⟨A', g1, g2⟩ := cl_carry0 (q := q) ho 12000 (A.1 o 1 - 1) A (by omega) (by omega) (by omega)
    refine ⟨A', hm A' g1, ⟨fun y => absurd y c, fun _ => ?_⟩, vc_Plain_carry _ _ ho g2⟩
    rw [g1.2 o 1 (by omega), g1.2 o 2 (by omega)]
    exact ⟨h1, h2, h3⟩
theorem md_carry {B : ms} {w : Wt} {j : Int} (hj : isJ j w) (hO : wtO w) (hw : w.1 ≤ 30000) (h : MWt B w) : ∃ B', EX XW B B' ∧ MWt B' (wtCar j w) ∧ ∀ (x1 x2 x3 x4 x5 x6 x7 x8 : Int) (R : Option Value) (T : ms), EV q 326 265 [some (.ref 367), some (vI x1), some (vI x2), some (vI x3), some (vI x4), some (vI x5), some (vI x6), some (vI x7), some (vL x8), none, none] [] B' R T → EV q 326 228 [some (.ref 367), some (vI x1), some (vI x2), some (vI x3), some (vI x4), some (vI x5), some (vI x6), some (vI x7), some (vL x8), none, some (vI (w.1 - 1))] [] B R T := by
  obtain ⟨⟨j0, j1⟩, j2, j3⟩ := hj
  have lp : ∀ (v : Nat) (p : Int) (B1 : ms), p = j + v → p < w.1 → EX (fun a _ => a = 374) B B1 → (∀ k : Int, 0 ≤ k → k < w.1 → B1.1 374 k = b8 (if p < k then 0 else w.2 k)) → ∃ B', EX (fun a _ => a = 374) B B' ∧ (∀ k : Int, 0 ≤ k → k < w.1 → B'.1 374 k = b8 ((wtCar j w).2 k)) ∧ ∀ (x1 x2 x3 x4 x5 x6 x7 x8 : Int) (R : Option Value) (T : ms), EV q 326 265 [some (.ref 367), some (vI x1), some (vI x2), some (vI x3), some (vI x4), some (vI x5), some (vI x6), some (vI x7), some (vL x8), none, none] [] B' R T → EV q 326 228 [some (.ref 367), some (vI x1), some (vI x2), some (vI x3), some (vI x4), some (vI x5), some (vI x6), some (vI x7), some (vL x8), none, some (vI p)] [] B1 R T := by
    intro v
    induction v with
    | zero =>
      intro p B1 hp hp1 e1 e2
      have ep : p = j := by omega
      subst ep
      have wp : w32 p = p := w32_of (by omega)
      have ej := e2 p (by omega) hp1
      rw [if_neg (by omega)] at ej
      have oj := hO p
      refine ⟨wI B1 374 p (b8 (b8 (B1.1 374 p + 1))), e1.wr rfl, fun k k0 k1 => ?_, fun x1 x2 x3 x4 x5 x6 x7 x8 R T k => vc_MD_packOdds_228 _ _ _ _ _ _ _ _ _ ?_⟩
      · rw [wtCar_2]
        by_cases ek : k = p
        · rw [if_pos ek, ek, wI_at, ej]
          unfold b8
          omega
        · rw [if_neg ek, wI_no _ (by omega), e2 k k0 k1]
          by_cases d : p < k
          · rw [if_pos d, if_pos ⟨d, k1⟩]
          · rw [if_neg d, if_neg (by omega)]
      · rw [wp]
        refine ⟨by omega, cY ?_ ⟨by omega, by omega, fun S4 f4 => by rw [f4]; exact k⟩⟩
        rw [ej, w32_of (x := b8 (w.2 p)) (by have := b8_rg (w.2 p); omega)]
        unfold b8
        omega
    | succ v ih =>
      intro p B1 hp hp1 e1 e2
      have wp : w32 p = p := w32_of (by omega)
      have ep := e2 p (by omega) hp1
      rw [if_neg (by omega), j3 p (by omega) hp1] at ep
      obtain ⟨B', g1, g2, g3⟩ := ih (p - 1) (wI B1 374 p (b8 0)) (by omega) (by omega) (e1.wr rfl) (fun k k0 k1 => by
        by_cases ek : k = p
        · rw [ek, wI_at, if_pos (by omega)]
        · rw [wI_no _ (by omega), e2 k k0 k1]
          by_cases d : p < k
          · rw [if_pos d, if_pos (by omega)]
          · rw [if_neg d, if_neg (by omega)])
      refine ⟨B', g1, g2, fun x1 x2 x3 x4 x5 x6 x7 x8 R T k => vc_MD_packOdds_228 _ _ _ _ _ _ _ _ _ ?_⟩
      rw [wp, ep]
      exact ⟨by omega, cNN (by decide) ⟨by omega, fun S6 f6 => by rw [f6]; exact g3 x1 x2 x3 x4 x5 x6 x7 x8 R T k⟩⟩
  obtain ⟨B', g1, g2, g3⟩ := lp (w.1 - 1 - j).toNat (w.1 - 1) B (by omega) (by omega) (EX.refl _ B) (fun k k0 k1 => by rw [if_neg (by omega)]; exact h.2 k k0 k1 (by omega))
  exact ⟨B', EX.mono g1 (fun a k y => Or.inr y), ⟨by rw [g1.2 367 9 (by omega), h.1]; rfl, fun k k0 k1 _ => g2 k k0 k1⟩, g3⟩
/-- the carry, if there is one -/
theorem jo_car {lo ra : Int} {w : Wt} {m : Nat} (hlo : 0 ≤ lo ∧ lo < 8589934592) (hra : 0 < ra ∧ ra < 4294967296) (hw : w.1 = 2 + m ∧ wtO w) (hm : m ≤ 24000) (hv : vlF w.2 m * 4294967296 + lo + ra ≤ (256 : Int) ^ m * 4294967296) : ∃ (lo2 : Int) (w2 : Wt), ((0 ≤ lo2 ∧ lo2 < 4294967296) ∧ (w2.1 = 2 + m ∧ wtO w2) ∧ vlF w2.2 m * 4294967296 + lo2 + ra ≤ (256 : Int) ^ m * 4294967296) ∧ (∀ (A : ms) (o : Nat) (O : Int → Int), isRow o 12000 → 300 < o → COd A o lo ra O w → ∃ A', EY (XRo o) A A' ∧ COd A' o lo2 ra O w2 ∧ ∀ (x1 x2 x4 : Int) (R : Option Value) (T : ms), EV q 109 85 [some (.ref 22), some (vI x1), some (vI x2), some (.ref o), some (vL x4), none, none] [] A' R T → ((w64 (A.2.1 22 6) ≤ w64 4294967295) → EV q 109 85 [some (.ref 22), some (vI x1), some (vI x2), some (.ref o), some (vL x4), none, none] [] A R T) ∧ ((¬ w64 (A.2.1 22 6) ≤ w64 4294967295) → ∀ S3 : ms, S3 = wJ A 22 6 ((A.2.1 22 6) % 4294967296) → ∃ (S4 : ms), EV q 111 0 [some (.ref o), none] [] S3 none S4 ∧ EV q 109 85 [some (.ref 22), some (vI x1), some (vI x2), some (.ref o), some (vL x4), none, none] [] S4 R T)) ∧ ∀ (B : ms) (O : Int → Int), CM B lo ra O w → ∃ B', EY XW B B' ∧ CM B' lo2 ra O w2 ∧ ∀ (x1 x2 x3 x4 x5 x6 x7 x8 : Int) (R : Option Value) (T : ms), EV q 326 265 [some (.ref 367), some (vI x1), some (vI x2), some (vI x3), some (vI x4), some (vI x5), some (vI x6), some (vI x7), some (vL x8), none, none] [] B' R T → EV q 326 197 [some (.ref 367), some (vI x1), some (vI x2), some (vI x3), some (vI x4), some (vI x5), some (vI x6), some (vI x7), some (vL x8), none, none] [] B R T := by
  have wl : w64 lo = lo := w64_of (by omega)
  have w4 : w64 4294967295 = 4294967295 := by decide
  by_cases c : lo ≤ 4294967295
  · refine ⟨lo, w, ⟨by omega, hw, hv⟩, fun A o O ho o3 h => ⟨A, EY.refl _ A, h, fun x1 x2 x4 R T k => ?_⟩, fun B O h => ⟨B, EY.refl _ B, h, fun x1 x2 x3 x4 x5 x6 x7 x8 R T k => vc_MD_packOdds_197 _ _ _ _ _ _ _ _ ?_⟩⟩
    · rw [h.1, wl, w4]
      exact cY c k
    · rw [h.1, wl, w4]
      exact cY c k
  · obtain ⟨j, j1, j2, j3⟩ := vl_ex w.2 m (by omega)
    have hj : isJ j w := ⟨by omega, j2, fun k k1 k2 => j3 k k1 (by omega)⟩
    have ev := vl_car hj m (by omega) (by omega)
    refine ⟨lo % 4294967296, wtCar j w, ⟨by omega, ⟨hw.1, wtCar_O hj hw.2⟩, by rw [ev]; omega⟩, fun A o O ho o3 h => ?_, fun B O h => ?_⟩
    · obtain ⟨a1, a2, a3, a4⟩ := h
      obtain ⟨A', k1, k2, k3⟩ := cl_carry (q := q) (A := wJ A 22 6 (lo % 4294967296)) ho hj hw.2 (CWt_cg a4 (fun a k y => rfl))
      refine ⟨A', ⟨by rw [k1.1]; rfl, fun a k y => k1.2 a k y⟩, ⟨?_, ?_, fun k k0 k1' => ?_, k2⟩, fun x1 x2 x4 R T k => ?_⟩
      · rw [k1.1]
        rw [wJ_at]
      · rw [k1.1]
        rw [wJ_no _ (by decide), a2]
      · rw [k1.2 28 k (by unfold XRo; omega)]
        exact a3 k k0 k1'
      · rw [a1, wl, w4]
        exact cNo c (fun S3 f3 => ⟨A', by rw [f3]; exact k3, k⟩)
    · obtain ⟨a1, a2, a3, a4⟩ := h
      obtain ⟨B', k1, k2, k3⟩ := md_carry (q := q) (B := wJ B 367 63 (lo % 4294967296)) hj hw.2 (by omega) (MWt_cg a4 (fun a k y => rfl))
      refine ⟨B', ⟨by rw [k1.1]; rfl, fun a k y => k1.2 a k y⟩, ⟨?_, ?_, fun k k0 k1' => ?_, k2⟩, fun x1 x2 x3 x4 x5 x6 x7 x8 R T k => vc_MD_packOdds_197 _ _ _ _ _ _ _ _ ?_⟩
      · rw [k1.1]
        rw [wJ_at]
      · rw [k1.1]
        rw [wJ_no _ (by decide), a2]
      · rw [k1.2 405 k (by unfold XW; omega)]
        exact a3 k k0 k1'
      · rw [a1, wl, w4]
        refine cNo c (fun S1 f1 => ?_)
        have e9 : S1.1 367 9 = w.1 := by rw [f1]; exact a4.1
        rw [e9, f1]
        exact k3 x1 x2 x3 x4 x5 x6 x7 x8 R T k
/-- the shift, if there is one -/
theorem jo_sh {lo ra : Int} {w : Wt} {m : Nat} (hlo : 0 ≤ lo ∧ lo < 4294967296) (hra : 131072 ≤ ra ∧ ra < 4294967296) (hw : w.1 = 2 + m ∧ wtO w) (hm : m ≤ 24000) (hv : vlF w.2 m * 4294967296 + lo + ra ≤ (256 : Int) ^ m * 4294967296) : ∃ (lo2 ra2 : Int) (w2 : Wt) (m2 : Nat), ((0 ≤ lo2 ∧ lo2 < 4294967296) ∧ (16777216 ≤ ra2 ∧ ra2 < 4294967296) ∧ (w2.1 = 2 + m2 ∧ wtO w2) ∧ vlF w2.2 m2 * 4294967296 + lo2 + ra2 ≤ (256 : Int) ^ m2 * 4294967296 ∧ ((m2 = m ∧ ra2 = ra) ∨ (m2 = m + 1 ∧ ra2 = ra * 256))) ∧ (∀ (A : ms) (o : Nat) (O : Int → Int), isRow o 12000 → 300 < o → COd A o lo ra O w → ∃ A', EY (XRo o) A A' ∧ COd A' o lo2 ra2 O w2 ∧ ∀ (x1 x2 x4 : Int), EV q 109 85 [some (.ref 22), some (vI x1), some (vI x2), some (.ref o), some (vL x4), none, none] [] A none A') ∧ ∀ (B : ms) (O : Int → Int), CM B lo ra O w → ∃ B', EY XW B B' ∧ CM B' lo2 ra2 O w2 ∧ EV q 327 0 [some (.ref 367)] [] B none B' := by
  have wr : w64 ra = ra := w64_of (by omega)
  have w4 : w64 16777216 = 16777216 := by decide
  by_cases c : 16777216 ≤ ra
  · refine ⟨lo, ra, w, m, ⟨hlo, ⟨c, hra.2⟩, hw, hv, Or.inl ⟨rfl, rfl⟩⟩, fun A o O ho o3 h => ⟨A, EY.refl _ A, h, fun x1 x2 x4 => vc_Plain_packBit_85 _ _ _ _ _ ho (vc_Plain_packBit_88 _ _ _ _ _ _ ho ?_)⟩, fun B O h => ⟨B, EY.refl _ B, h, vc_MD_shift ?_⟩⟩
    · rw [h.2.1, wr, w4]
      exact cNo (by decide) (cY c ⟨rfl, rfl⟩)
    · rw [h.2.1, wr, w4]
      exact cY c ⟨rfl, rfl⟩
  · have w5 : w64 (ra * 256) = ra * 256 := w64_of (by omega)
    have c5 : 16777216 ≤ ra * 256 := by omega
    have ev : vlF (wtPut (lo / 16777216) w).2 (m + 1) = 256 * vlF w.2 m + lo / 16777216 := by
      rw [vlF_s, vlF_cg (g := w.2) m (fun k hk => by
        show (if (2 : Int) + k = w.1 then _ else w.2 (2 + k)) = _
        rw [if_neg (by omega)])]
      show _ + (if (2 : Int) + m = w.1 then lo / 16777216 % 256 else _) = _
      rw [if_pos (by omega)]
      omega
    refine ⟨(lo * 256) % 4294967296, ra * 256, wtPut (lo / 16777216) w, m + 1, ⟨by omega, by omega, ⟨by rw [wtPut_1, hw.1]; omega, wtO_put _ hw.2⟩, ?_, Or.inr ⟨rfl, rfl⟩⟩, fun A o O ho o3 h => ?_, fun B O h => ?_⟩
    · rw [ev, Int.pow_succ]
      omega
    · obtain ⟨a1, a2, a3, a4⟩ := h
      obtain ⟨A1, k1, k2, k3⟩ := cw_put (q := q) (lo / 16777216) ho (by decide) (by omega) a4
      have b1 : A1.2.1 22 6 = lo := by rw [k2.1]; exact a1
      have b2 : A1.2.1 22 7 = ra := by rw [k2.1]; exact a2
      obtain ⟨A2, e2⟩ : ∃ A2, A2 = wJ (wJ A1 22 6 ((lo * 256) % 4294967296)) 22 7 (ra * 256) := ⟨_, rfl⟩
      have f6 : A2.2.1 22 6 = (lo * 256) % 4294967296 := by
        rw [e2]
        rw [wJ_no _ (by decide), wJ_at]
      have f7 : A2.2.1 22 7 = ra * 256 := by
        rw [e2]
        rw [wJ_at]
      have f1 : A2.1 = A1.1 := by rw [e2]; rfl
      refine ⟨A2, ⟨by rw [e2]; show A1.2.2 = A.2.2; rw [k2.1], fun a k y => by rw [f1]; exact k2.2 a k y⟩, ⟨f6, f7, fun k k0 k1' => by rw [f1, k2.2 28 k (by unfold XRo; omega)]; exact a3 k k0 k1', CWt_cg k3 (fun a k y => by rw [f1])⟩, fun x1 x2 x4 => vc_Plain_packBit_85 _ _ _ _ _ ho (vc_Plain_packBit_88 _ _ _ _ _ _ ho ?_)⟩
      rw [a1, a2, wr, w4, show lo % 18446744073709551616 = lo by omega]
      refine cNo (by decide) (cNo c ⟨A1, k1, fun S3 g3 S4 g4 => ?_⟩)
      have h7 : S3.2.1 22 7 = ra := by
        rw [g3]
        rw [wJ_no _ (by decide), b2]
      rw [b1] at g3
      rw [h7, g3, ← e2] at g4
      subst g4
      refine vc_Plain_packBit_88 _ _ _ _ _ _ ho ?_
      rw [f7, w5, w4]
      exact ⟨fun _ => ⟨rfl, rfl⟩, fun _ => cY c5 ⟨rfl, rfl⟩⟩
    · obtain ⟨a1, a2, a3, a4⟩ := h
      obtain ⟨B1, k1, k2, k3⟩ := mw_put (q := q) (lo / 16777216) (by omega) a4
      have b1 : B1.2.1 367 63 = lo := by rw [k2.1]; exact a1
      have b2 : B1.2.1 367 64 = ra := by rw [k2.1]; exact a2
      obtain ⟨B2, e2⟩ : ∃ B2, B2 = wJ (wJ B1 367 63 ((lo * 256) % 4294967296)) 367 64 (ra * 256) := ⟨_, rfl⟩
      have f6 : B2.2.1 367 63 = (lo * 256) % 4294967296 := by
        rw [e2]
        rw [wJ_no _ (by decide), wJ_at]
      have f7 : B2.2.1 367 64 = ra * 256 := by
        rw [e2]
        rw [wJ_at]
      have f1 : B2.1 = B1.1 := by rw [e2]; rfl
      refine ⟨B2, ⟨by rw [e2]; show B1.2.2 = B.2.2; rw [k2.1], fun a k y => by rw [f1]; exact k2.2 a k y⟩, ⟨f6, f7, fun k k0 k1' => by rw [f1, k2.2 405 k (by unfold XW; omega)]; exact a3 k k0 k1', MWt_cg k3 (fun a k y => by rw [f1])⟩, vc_MD_shift ?_⟩
      rw [a1, a2, wr, w4, w64_of (x := lo) (by omega)]
      refine cNo c ⟨B1, k1, fun S3 g3 S4 g4 => ?_⟩
      have h7 : S3.2.1 367 64 = ra := by
        rw [g3]
        rw [wJ_no _ (by decide), b2]
      rw [b1] at g3
      rw [h7, g3, ← e2] at g4
      subst g4
      refine vc_MD_shift ?_
      rw [f7, w5, w4]
      exact cY c5 ⟨rfl, rfl⟩
end POddsB
