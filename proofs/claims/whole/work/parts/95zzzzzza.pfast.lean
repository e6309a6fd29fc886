/-! pack: FAST -/
section PFast
variable {q : Nat × (Nat → Int32)} {x : Int} {t : Int → Int} {IC : ms → Prop}
def rsW : Nat → Int → Wt → Wt
  | 0, v, w => wtPut v w
  | n + 1, v, w => if v < 255 then wtPut v w else rsW n (v - 255) (wtPut 255 w)
theorem rsW_s (n : Nat) (v : Int) (w : Wt) : rsW (n + 1) v w = if v < 255 then wtPut v w else rsW n (v - 255) (wtPut 255 w) := rfl
theorem rsW_r : ∀ (n : Nat) (v : Int) (w : Wt), wtO w → (w.1 < (rsW n v w).1 ∧ (rsW n v w).1 ≤ w.1 + n + 1) ∧ wtO (rsW n v w)
  | 0, v, w, h => ⟨by show w.1 < w.1 + 1 ∧ w.1 + 1 ≤ w.1 + ((0 : Nat) : Int) + 1; omega, wtO_put _ h⟩
  | n + 1, v, w, h => by
    rw [rsW_s]
    split
    · exact ⟨by rw [wtPut_1]; omega, wtO_put _ h⟩
    · have := rsW_r n (v - 255) (wtPut 255 w) (wtO_put _ h)
      rw [wtPut_1] at this
      exact ⟨by omega, this.2⟩
theorem cl_rest {o : Nat} {x0 : Int} (ho : isRow o 12000) : ∀ (n : Nat) (v : Int) (A : ms) (w : Wt), n < 1000 → (0 ≤ v ∧ v ≤ 255 * n + 254) → 0 ≤ w.1 → CWt A o 12000 w → ∃ A', EX (XRo o) A A' ∧ CWt A' o 12000 (rsW n v w) ∧ EV q 86 12 [some (vI x0), some (.ref o), some (vI v)] [] A none A' := by
  intro n
  induction n with
  | zero =>
    intro v A w _ hv hw h
    obtain ⟨A1, k1, k2, k3⟩ := cw_put (q := q) v ho (by decide) hw h
    refine ⟨A1, k2, k3, vc_Copies_fastMore_12 _ _ _ _ ho ?_⟩
    rw [w32_of (x := v) (by omega)]
    exact cY (by omega) ⟨A1, k1, rfl, rfl⟩
  | succ n ih =>
    intro v A w hn hv hw h
    rw [rsW_s]
    by_cases c : v < 255
    · rw [if_pos c]
      obtain ⟨A1, k1, k2, k3⟩ := cw_put (q := q) v ho (by decide) hw h
      refine ⟨A1, k2, k3, vc_Copies_fastMore_12 _ _ _ _ ho ?_⟩
      rw [w32_of (x := v) (by omega)]
      exact cY c ⟨A1, k1, rfl, rfl⟩
    · rw [if_neg c]
      obtain ⟨A1, k1, k2, k3⟩ := cw_put (q := q) 255 ho (by decide) hw h
      obtain ⟨A', g1, g2, g3⟩ := ih (v - 255) A1 (wtPut 255 w) (by omega) (by omega) (by rw [wtPut_1]; omega) k3
      refine ⟨A', k2.trans g1, g2, vc_Copies_fastMore_12 _ _ _ _ ho ?_⟩
      rw [w32_of (x := v) (by omega)]
      exact cNo c ⟨A1, k1, g3⟩
theorem md_rest {x1 : Int} : ∀ (n : Nat) (v : Int) (B : ms) (w : Wt), n < 1000 → (0 ≤ v ∧ v ≤ 255 * n + 254) → (0 ≤ w.1 ∧ w.1 < 900000000 - n) → MWt B w → ∃ B', EX XW B B' ∧ MWt B' (rsW n v w) ∧ EV q 313 2 [some (.ref 367), some (vI x1), some (vI v)] [] B none B' := by
  intro n
  induction n with
  | zero =>
    intro v B w _ hv hw h
    obtain ⟨B1, k1, k2, k3⟩ := mw_put (q := q) v (by omega) h
    refine ⟨B1, k2, k3, vc_MD_rest_2 _ _ ?_⟩
    rw [w32_of (x := v) (by omega)]
    exact cY (by omega) ⟨B1, k1, rfl, rfl⟩
  | succ n ih =>
    intro v B w hn hv hw h
    rw [rsW_s]
    by_cases c : v < 255
    · rw [if_pos c]
      obtain ⟨B1, k1, k2, k3⟩ := mw_put (q := q) v (by omega) h
      refine ⟨B1, k2, k3, vc_MD_rest_2 _ _ ?_⟩
      rw [w32_of (x := v) (by omega)]
      exact cY c ⟨B1, k1, rfl, rfl⟩
    · rw [if_neg c]
      obtain ⟨B1, k1, k2, k3⟩ := mw_put (q := q) 255 (by omega) h
      obtain ⟨B', g1, g2, g3⟩ := ih (v - 255) B1 (wtPut 255 w) (by omega) (by omega) (by rw [wtPut_1]; omega) k3
      refine ⟨B', k2.trans g1, g2, vc_MD_rest_2 _ _ ?_⟩
      rw [w32_of (x := v) (by omega)]
      exact cNo c ⟨B1, k1, g3⟩
/-- the rest of a number behind 15 -/
def mrW (v : Int) (w : Wt) : Wt := if v < 15 then w else rsW 24 (v - 15) w
theorem mrW_r (v : Int) {w : Wt} (h : wtO w) : (w.1 ≤ (mrW v w).1 ∧ (mrW v w).1 ≤ w.1 + 25) ∧ wtO (mrW v w) := by
  unfold mrW
  split
  · exact ⟨by omega, h⟩
  · have := rsW_r 24 (v - 15) w h
    exact ⟨by have := this.1; omega, this.2⟩
theorem cl_more {A : ms} {o : Nat} {v : Int} {w : Wt} (ho : isRow o 12000) (hv : 0 ≤ v ∧ v ≤ 6000) (hw : 0 ≤ w.1) (h : CWt A o 12000 w) : ∃ A', EX (XRo o) A A' ∧ CWt A' o 12000 (mrW v w) ∧ EV q 86 0 [some (vI v), some (.ref o), none] [] A none A' := by
  have wv : w32 v = v := w32_of (by omega)
  unfold mrW
  by_cases c : v < 15
  · rw [if_pos c]
    refine ⟨A, EX.refl _ A, h, vc_Copies_fastMore _ _ _ ho ?_⟩
    rw [wv]
    exact cNo (by omega) ⟨rfl, rfl⟩
  · rw [if_neg c]
    obtain ⟨A', g1, g2, g3⟩ := cl_rest (q := q) (x0 := v) ho 24 (v - 15) A w (by decide) (by omega) hw h
    refine ⟨A', g1, g2, vc_Copies_fastMore _ _ _ ho ?_⟩
    rw [wv]
    exact cY (by omega) g3
/-- literals of FAST, with four low bits -/
def flW (t : Int → Int) (a n lb : Int) (w : Wt) : Wt := wtPuts (fun j => t (a + j)) n.toNat (mrW n (wtPut (bO (min n 15 * 16) lb) w))
theorem flW_r {a n : Int} (lb : Int) {w : Wt} (hn : 0 ≤ n) (h : wtO w) : (w.1 ≤ (flW t a n lb w).1 ∧ (flW t a n lb w).1 ≤ w.1 + n + 26) ∧ wtO (flW t a n lb w) := by
  unfold flW
  have := mrW_r n (wtO_put (bO (min n 15 * 16) lb) h)
  rw [wtPut_1] at this
  exact ⟨by rw [wtPuts_1]; omega, wtO_puts _ this.2 _⟩
def fsW (t : Int → Int) (a p l d : Int) (w : Wt) : Wt := mrW (l - 4) (wtPuts (loF d) 2 (flW t a (p - a) (min (l - 4) 15) w))
theorem fsW_g : enG x (fsW t) := fun a p l d w a0 a1 a2 a3 a4 hw => by
  unfold fsW
  have h1 := flW_r (t := t) (a := a) (n := p - a) (min (l - 4) 15) (w := w) (by omega) hw
  have h2 := mrW_r (l - 4) (wtO_loF d h1.2 2)
  rw [wtPuts_1] at h2
  exact ⟨by omega, h2.2⟩
theorem cl_flits {A : ms} {o : Nat} {a p lb : Int} {w : Wt} (ho : isRow o 12000) (hO : o = 7 ∨ 300 < o) (hx : 0 ≤ x ∧ x ≤ 6000) (ha : 0 ≤ a ∧ a ≤ p ∧ p ≤ x) (hw : 0 ≤ w.1) (hO' : wtO w) (hA : TXc A x t) (h : CWt A o 12000 w) : ∃ A', EX (XRo o) A A' ∧ CWt A' o 12000 (flW t a (p - a) lb w) ∧ EV q 85 0 [some (.ref 1), some (vI a), some (vI p), some (vI lb), some (.ref o)] [] A none A' := by
  have wd : w32 (p - a) = p - a := w32_of (by omega)
  have w15 : w32 15 = 15 := by decide
  obtain ⟨n, en⟩ : ∃ n : Nat, p - a = n := ⟨(p - a).toNat, by omega⟩
  obtain ⟨A1, k1, k2, k3⟩ := cw_put (q := q) (bO (min (p - a) 15 * 16) lb) ho (by decide) hw h
  obtain ⟨A2, j1, j2, j3⟩ := cl_more (q := q) (v := p - a) ho (by omega) (by rw [wtPut_1]; omega) k3
  have hr := (mrW_r (p - a) (wtO_put (bO (min (p - a) 15 * 16) lb) hO')).1
  rw [wtPut_1] at hr
  have hA1 := TXc_o hO hA (k2.trans j1)
  obtain ⟨A3, k4, k5, k6⟩ := cw_span (q := q) (a1 := 2) (n1 := 6000) (b := a.toNat) (n := n) (g := fun j => t (a + j)) rfl (by omega) (by decide) (fun j hj => by
    have := hA1.2 (a + j) (by omega) (by omega)
    rw [show ((a.toNat : Nat) : Int) = a by omega]
    exact this) ho (by decide) (by omega) j2
  rw [show ((a.toNat : Nat) : Int) = a by omega, show a + (n : Int) = p by omega] at k4
  refine ⟨A3, (k2.trans j1).trans k5, by unfold flW; rw [show (p - a).toNat = n by omega]; exact k6, vc_Copies_fastLiterals _ _ _ 1 6000 tr_row _ _ ho ?_⟩
  rw [wd, w15]
  exact ⟨A1, k1, A2, j3, A3, k4, rfl, rfl⟩
/-- the class writes its tokens -/
theorem cl_fast {gs gg : Int → Int} {P : Nat → Int} {K : Nat} {s : Int × Wt} {o : Nat} (ho : isRow o 12000) (hO : o = 7 ∨ 300 < o) (hx : 0 ≤ x ∧ x ≤ 6000) (hP : GP x gs gg P K) (hs : ∀ p : Int, 0 ≤ p → p < x → (1 ≤ gs p ∧ p + gs p ≤ x) ∧ 0 ≤ gg p ∧ gg p ≤ p) (hs4 : ∀ p : Int, 0 ≤ p → p < x → 0 < gg p → 4 ≤ gs p) (h0 : s.1 = 0 ∧ wtO s.2) (hw : 0 ≤ s.2.1) : ∀ (v k : Nat) (A : ms), k + v = K → TXc A x t → CTk A (tkF gs gg P) K → CWt A o 12000 (enF (fsW t) gs gg P s k).2 → ∃ A', EX (XRo o) A A' ∧ CWt A' o 12000 (flW t (enF (fsW t) gs gg P s K).1 (x - (enF (fsW t) gs gg P s K).1) 0 (enF (fsW t) gs gg P s K).2) ∧ EV q 84 18 [some (.ref 29), some (.ref 1), some (.ref o), some (vI (enF (fsW t) gs gg P s k).1), some (vI k), none] [] A none A' := by
  have rg := enF_rg (f := fsW t) hx fsW_g hP (fun p p0 p1 => (hs p p0 p1).1) h0
  have le := GP_le hP (fun p p0 p1 => (hs p p0 p1).1)
  have lx := hx.2
  have wK : Unit → w32 (K : Int) = K := fun _ => w32_of (by have := le K (Nat.le_refl _); omega)
  intro v
  induction v with
  | zero =>
    intro k A hk hA hT h
    have e : k = K := by omega
    subst e
    have r := rg k (Nat.le_refl _)
    rw [hP.2.1] at r
    obtain ⟨A', g1, g2, g3⟩ := cl_flits (q := q) (lb := 0) ho hO hx ⟨r.1.1, r.1.2, Int.le_refl _⟩ (by omega) r.2.2 hA h
    refine ⟨A', g1, g2, vc_Copies_packFast_18 _ _ 1 6000 tr_row _ _ ho ?_⟩
    rw [hT.1, hA.1]
    exact cY (Int.le_refl _) ⟨A', g3, rfl, rfl⟩
  | succ v ih =>
    intro k A hk hA hT h
    have hp := hP.2.2 k (by omega)
    have lk := (le k (by omega)).1
    have r := rg k (by omega)
    have sp := hs (P k) hp.1.1 hp.1.2
    have tk := hT.2 k (by omega) (by omega)
    have wk : Unit → w32 (k : Int) = k := fun _ => w32_of (by omega)
    have ek : tkF gs gg P k = (gs (P k), gg (P k), P k) := by unfold tkF; rw [show ((k : Int)).toNat = k by omega]
    rw [ek] at tk
    have t1 : A.1 13 k = gs (P k) := tk.1
    have t2 : A.1 14 k = gg (P k) := tk.2.1
    have t3 : A.1 15 k = P k := tk.2.2
    have es := enF_s (f := fsW t) (gs := gs) (gg := gg) (P := P) (s := s) k
    have kb : 0 ≤ (k : Int) ∧ (k : Int) < (6000 : Nat) := by omega
    have kK : ¬ (K : Int) ≤ k := by omega
    by_cases c : 0 < gg (P k)
    · rw [if_pos c] at es
      have s4 := hs4 (P k) hp.1.1 hp.1.2 c
      obtain ⟨A1, b1, b2, b3⟩ := cl_flits (q := q) (p := P k) (lb := min (gs (P k) - 4) 15) ho hO hx ⟨r.1.1, r.1.2, by omega⟩ (by omega) r.2.2 hA h
      have l1 := flW_r (t := t) (a := (enF (fsW t) gs gg P s k).1) (n := P k - (enF (fsW t) gs gg P s k).1) (min (gs (P k) - 4) 15) (w := (enF (fsW t) gs gg P s k).2) (by omega) r.2.2
      obtain ⟨A2, d1, d2, d3⟩ := cw_low (q := q) (gg (P k)) (n := 2) (by decide) ho (by decide) (by omega) b2
      obtain ⟨A3, e1, e2, e3⟩ := cl_more (q := q) (v := gs (P k) - 4) ho (by omega) (by rw [wtPuts_1]; omega) d3
      have hA1 := TXc_o hO hA b1
      have hA3 := TXc_o hO (TXc_o hO hA1 d2) e1
      have hT1 := CTk_o hO hT b1
      have hT3 := CTk_o hO (CTk_o hO hT1 d2) e1
      obtain ⟨A', g1, g2, g3⟩ := ih (k + 1) A3 (by omega) hA3 hT3 (by rw [es]; exact e2)
      have es1 : (enF (fsW t) gs gg P s (k + 1)).1 = P k + gs (P k) := by rw [es]
      rw [es1, show ((k + 1 : Nat) : Int) = (k : Int) + 1 by omega] at g3
      have tk1 := hT1.2 k (by omega) (by omega)
      rw [ek] at tk1
      have tk2 := hT3.2 k (by omega) (by omega)
      rw [ek] at tk2
      have u2 : A1.1 14 k = gg (P k) := tk1.2.1
      have v1 : A3.1 13 k = gs (P k) := tk2.1
      have v3 : A3.1 15 k = P k := tk2.2.2
      have x1 : EX (XRo o) A A3 := (b1.trans d2).trans e1
      refine ⟨A', x1.trans g1, g2, vc_Copies_packFast_18 _ _ 1 6000 tr_row _ _ ho ?_⟩
      rw [hT.1, wK (), wk (), t2, w32_of (x := gg (P k)) (by omega), t3, t1, w32_of (x := gs (P k) - 4) (by omega), show w32 15 = 15 by decide]
      refine cNo kK ⟨kb, cNo (by omega) ⟨kb, kb, A1, b3, kb, A2, ?_, A3, e3, kb, kb, ?_⟩⟩
      · rw [u2, w32_of (x := gg (P k)) (by omega)]; exact d1
      · rw [v1, v3]
        exact vc_Copies_packFast_124 _ _ 1 6000 tr_row _ _ ho g3
    · rw [if_neg c] at es
      obtain ⟨A', g1, g2, g3⟩ := ih (k + 1) A (by omega) hA hT (by rw [es]; exact h)
      rw [es, show ((k + 1 : Nat) : Int) = (k : Int) + 1 by omega] at g3
      refine ⟨A', g1, g2, vc_Copies_packFast_18 _ _ 1 6000 tr_row _ _ ho ?_⟩
      rw [hT.1, wK (), wk (), t2, w32_of (x := gg (P k)) (by omega)]
      exact cNo kK ⟨kb, cY (by omega) (vc_Copies_packFast_124 _ _ 1 6000 tr_row _ _ ho g3)⟩
/-- the reference: a sequence -/
theorem mw_oct2 {a x3 x4 x5 : Int} {n : Nat} (hx : 0 ≤ x ∧ x ≤ 6000) (ha : 0 ≤ a ∧ a + n ≤ x) : ∀ (d i : Nat) (B : ms) (w : Wt), i + d = n → (0 ≤ w.1 ∧ w.1 < 1000000) → TXm B x t → MWt B (wtPuts (fun j => t (a + j)) i w) → ∃ B', EX XW B B' ∧ MWt B' (wtPuts (fun j => t (a + j)) n w) ∧ ∀ (R : Option Value) (T : ms), EV q 312 63 [some (.ref 367), some (vI a), some (vI n), some (vI x3), some (vI x4), some (vI x5), some (vI n)] [] B' R T → EV q 312 63 [some (.ref 367), some (vI a), some (vI n), some (vI x3), some (vI x4), some (vI x5), some (vI i)] [] B R T := by
  have wn : Unit → w32 (n : Int) = n := fun _ => w32_of (by omega)
  intro d
  induction d with
  | zero =>
    intro i B w hi hw hB h
    have e : i = n := by omega
    subst e
    exact ⟨B, EX.refl _ B, h, fun R T k => k⟩
  | succ d ih =>
    intro i B w hi hw hB h
    have wi : Unit → w32 (i : Int) = i := fun _ => w32_of (by omega)
    have wa : w32 (a + i) = a + i := w32_of (by omega)
    have hti := hB.2 (a + i) (by omega) (by omega)
    obtain ⟨B1, k1, k2, k3⟩ := mw_put (q := q) (b8 (t (a + i))) (by rw [wtPuts_1]; omega) h
    rw [wtPut_m (show b8 (t (a + i)) % 256 = t (a + i) % 256 by unfold b8; omega), ← wtPuts_s (fun j => t (a + j))] at k3
    obtain ⟨B', k4, k5, k6⟩ := ih (i + 1) B1 w (by omega) hw (TXm_x hB k2) k3
    refine ⟨B', k2.trans k4, k5, fun R T k => vc_MD_sequence_63 _ _ _ _ _ _ ?_⟩
    have k7 := k6 R T k
    rw [show ((i + 1 : Nat) : Int) = (i : Int) + 1 by omega] at k7
    rw [wn (), wi (), wa, hti.2]
    exact cNo (by omega) ⟨by omega, B1, k1, k7⟩
/-- as far as the literals -/
theorem md_seq0 {B : ms} {a n l d m : Int} {w : Wt} (hx : 0 ≤ x ∧ x ≤ 6000) (ha : 0 ≤ a ∧ 0 ≤ n ∧ a + n ≤ x) (hl : (l = 0 ∧ m = 0) ∨ (4 ≤ l ∧ l ≤ 6000 ∧ m = l - 4)) (hO : wtO w) (hw : 0 ≤ w.1 ∧ w.1 < 900000) (hB : TXm B x t) (h : MWt B w) : ∃ B', EX XW B B' ∧ MWt B' (flW t a n (min m 15) w) ∧ ∀ (R : Option Value) (T : ms), EV q 312 63 [some (.ref 367), some (vI a), some (vI n), some (vI l), some (vI d), some (vI m), some (vI n)] [] B' R T → EV q 312 0 [some (.ref 367), some (vI a), some (vI n), some (vI l), some (vI d), none, none] [] B R T := by
  have wn : w32 n = n := w32_of (by omega)
  have wl : w32 l = l := w32_of (by omega)
  have wm : w32 m = m := w32_of (by omega)
  obtain ⟨nn, en⟩ : ∃ nn : Nat, n = nn := ⟨n.toNat, by omega⟩
  obtain ⟨B1, k1, k2, k3⟩ := mw_put (q := q) (bO (min n 15 * 16) (min m 15)) (by omega) h
  have hr := mrW_r n (wtO_put (bO (min n 15 * 16) (min m 15)) hO)
  rw [wtPut_1] at hr
  have st : ∃ B2, EX XW B1 B2 ∧ MWt B2 (mrW n (wtPut (bO (min n 15 * 16) (min m 15)) w)) ∧ ∀ (R : Option Value) (T : ms), EV q 312 63 [some (.ref 367), some (vI a), some (vI n), some (vI l), some (vI d), some (vI m), some (vI 0)] [] B2 R T → EV q 312 42 [some (.ref 367), some (vI a), some (vI n), some (vI l), some (vI d), some (vI m), none] [vI (min m 15), vI (min n 15 * 16), .ref 367] B R T := by
    unfold mrW
    by_cases c : n < 15
    · rw [if_pos c]
      refine ⟨B1, EX.refl _ B1, k3, fun R T k => vc_MD_sequence_42 _ _ _ _ _ _ _ ⟨B1, k1, ?_⟩⟩
      rw [wn]
      exact cY c (vc_MD_sequence_60 _ _ _ _ _ k)
    · rw [if_neg c]
      obtain ⟨B2, g1, g2, g3⟩ := md_rest (q := q) (x1 := n - 15) 24 (n - 15) B1 _ (by decide) (by omega) (by rw [wtPut_1]; omega) k3
      refine ⟨B2, g1, g2, fun R T k => vc_MD_sequence_42 _ _ _ _ _ _ _ ⟨B1, k1, ?_⟩⟩
      rw [wn]
      exact cNo c ⟨B2, vc_MD_rest _ g3, vc_MD_sequence_60 _ _ _ _ _ k⟩
  obtain ⟨B2, j1, j2, j3⟩ := st
  obtain ⟨B', g1, g2, g3⟩ := mw_oct2 (q := q) (x := x) (t := t) (a := a) (x3 := l) (x4 := d) (x5 := m) (n := nn) hx (by omega) nn 0 B2 (mrW n (wtPut (bO (min n 15 * 16) (min m 15)) w)) (by omega) (by omega) (TXm_x (TXm_x hB k2) j1) j2
  refine ⟨B', (k2.trans j1).trans g1, by unfold flW; rw [show n.toNat = nn by omega]; exact g2, fun R T k => ?_⟩
  rw [en] at k
  have g4 := g3 R T k
  rw [← en] at g4
  have g5 := j3 R T g4
  have k26 : EV q 312 26 [some (.ref 367), some (vI a), some (vI n), some (vI l), some (vI d), some (vI m), none] [vI (min n 15), .ref 367] B R T := by
    refine vc_MD_sequence_26 _ _ _ _ _ _ ?_
    rw [wm]
    by_cases c : 15 ≤ m
    · rw [show min m 15 = 15 by omega] at g5
      exact cY c g5
    · rw [show min m 15 = m by omega] at g5
      exact cNo c g5
  have k11 : EV q 312 11 [some (.ref 367), some (vI a), some (vI n), some (vI l), some (vI d), none, none] [vI m] B R T := by
    refine vc_MD_sequence_11 _ _ _ _ _ ?_
    rw [wn]
    by_cases c : 15 ≤ n
    · rw [show min n 15 = 15 by omega] at k26
      exact cY c k26
    · rw [show min n 15 = n by omega] at k26
      exact cNo c k26
  refine vc_MD_sequence _ _ _ _ ?_
  rw [wl]
  rcases hl with ⟨e1, e2⟩ | ⟨e1, e2, e3⟩
  · rw [e2] at k11
    exact cNN e1 k11
  · rw [e3] at k11
    exact cY (by omega) k11
theorem md_seq1 {B : ms} {a n l d : Int} {w : Wt} (hx : 0 ≤ x ∧ x ≤ 6000) (ha : 0 ≤ a ∧ 0 ≤ n ∧ a + n ≤ x) (hl : 4 ≤ l ∧ l ≤ 6000) (hd : 0 ≤ d ∧ d ≤ 6000) (hO : wtO w) (hw : 0 ≤ w.1 ∧ w.1 < 900000) (hB : TXm B x t) (h : MWt B w) : ∃ B', EX XW B B' ∧ MWt B' (mrW (l - 4) (wtPuts (loF d) 2 (flW t a n (min (l - 4) 15) w))) ∧ EV q 312 0 [some (.ref 367), some (vI a), some (vI n), some (vI l), some (vI d), none, none] [] B none B' := by
  obtain ⟨B1, k1, k2, k3⟩ := md_seq0 (q := q) (d := d) (m := l - 4) hx ha (Or.inr ⟨hl.1, hl.2, rfl⟩) hO hw hB h
  have l1 := flW_r (t := t) (a := a) (n := n) (min (l - 4) 15) (w := w) (by omega) hO
  obtain ⟨B2, j1, j2, j3⟩ := mw_low (q := q) d (n := 2) (by decide) (by omega) k2
  have wl : w32 l = l := w32_of (by omega)
  have wd : w32 d = d := w32_of (by omega)
  have wm : w32 (l - 4) = l - 4 := w32_of (by omega)
  by_cases c : l - 4 < 15
  · refine ⟨B2, k1.trans j2, by unfold mrW; rw [if_pos c]; exact j3, k3 _ _ (vc_MD_sequence_63 _ _ _ _ _ _ ?_)⟩
    refine cY (Int.le_refl _) ?_
    rw [wl, wd, wm]
    exact cY (by omega) ⟨B2, j1, cY c ⟨rfl, rfl⟩⟩
  · obtain ⟨B3, g1, g2, g3⟩ := md_rest (q := q) (x1 := l - 4 - 15) 24 (l - 4 - 15) B2 _ (by decide) (by omega) (by rw [wtPuts_1]; omega) j3
    refine ⟨B3, (k1.trans j2).trans g1, by unfold mrW; rw [if_neg c]; exact g2, k3 _ _ (vc_MD_sequence_63 _ _ _ _ _ _ ?_)⟩
    refine cY (Int.le_refl _) ?_
    rw [wl, wd, wm]
    exact cY (by omega) ⟨B2, j1, cNo c ⟨B3, vc_MD_rest _ g3, rfl, rfl⟩⟩
theorem md_seqE {B : ms} {a n : Int} {w : Wt} (hx : 0 ≤ x ∧ x ≤ 6000) (ha : 0 ≤ a ∧ 0 ≤ n ∧ a + n ≤ x) (hO : wtO w) (hw : 0 ≤ w.1 ∧ w.1 < 900000) (hB : TXm B x t) (h : MWt B w) : ∃ B', EX XW B B' ∧ MWt B' (flW t a n 0 w) ∧ EV q 312 0 [some (.ref 367), some (vI a), some (vI n), some (vI 0), some (vI 0), none, none] [] B none B' := by
  obtain ⟨B1, k1, k2, k3⟩ := md_seq0 (q := q) (d := 0) (l := 0) (m := 0) hx ha (Or.inl ⟨rfl, rfl⟩) hO hw hB h
  exact ⟨B1, k1, k2, k3 _ _ (vc_MD_sequence_63 _ _ _ _ _ _ (cY (Int.le_refl _) (cNN (by decide) ⟨rfl, rfl⟩)))⟩
/-- how the reference cuts -/
def frL (x : Int) (n0 : Int → Int) (p : Int) : Int := if x - p < 12 then 0 else min (n0 p) (x - 5 - p)
theorem grc_2 {most : Int} {n0 d0 : Int → Int} (hL : ∀ p : Int, 0 ≤ p → p < x → LM t p (min most (x - p)) (n0 p) (d0 p)) : ∀ p : Int, 0 ≤ p → p < x → grS 4 2 x n0 p = (if 4 ≤ frL x n0 p then frL x n0 p else 1) ∧ grG 4 2 x n0 d0 p = if 4 ≤ frL x n0 p then d0 p else 0 := fun p p0 p1 => by
  have h1 := (hL p p0 p1).1
  have e : (4 ≤ grN 4 2 x n0 p ↔ 4 ≤ frL x n0 p) ∧ (4 ≤ frL x n0 p → grN 4 2 x n0 p = frL x n0 p) := by
    have e1 : fcF 2 x p = if p ≤ x - 12 then x - 5 else p := by
      unfold fcF
      rw [if_neg (by decide), if_pos rfl]
    unfold grN frL
    rw [e1]
    by_cases c : x - p < 12
    · rw [if_neg (show ¬ p ≤ x - 12 by omega), if_pos c]
      split <;> omega
    · rw [if_pos (show p ≤ x - 12 by omega), if_neg c]
      split <;> omega
  unfold grS grG
  by_cases c : 4 ≤ frL x n0 p
  · have c' := e.1.2 c
    simp only [if_pos c, if_pos c', e.2 c, and_self]
  · have c' : ¬ 4 ≤ grN 4 2 x n0 p := fun y => c (e.1.1 y)
    simp only [if_neg c, if_neg c', and_self]
theorem md_fast {n0 d0 : Int → Int} {P : Nat → Int} {K : Nat} {s : Int × Wt} (hx : 0 ≤ x ∧ x ≤ 6000) (hL : ∀ p : Int, 0 ≤ p → p < x → LM t p (min 6000 (x - p)) (n0 p) (d0 p)) (hM : ∀ p : Int, 0 ≤ p → p < x → ∀ B : ms, TXm B x t → ∃ B', EX XLo B B' ∧ B'.1 367 26 = n0 p ∧ B'.1 367 27 = d0 p ∧ LF t p (n0 p) (B'.1 379) ∧ EV q 293 0 [some (.ref 367), some (.ref 368), some (vI x), some (vI p), some (vI 6000), some (vI 65535), none, none, none, none, none] [] B none B') (hP : GP x (grS 4 2 x n0) (grG 4 2 x n0 d0) P K) (h0 : s.1 = 0 ∧ wtO s.2) (hw : 0 ≤ s.2.1 ∧ s.2.1 < 1000) : ∀ (v k : Nat) (B : ms), k + v = K → TXm B x t → MTk B (tkF (grS 4 2 x n0) (grG 4 2 x n0 d0) P) k → MWt B (enF (fsW t) (grS 4 2 x n0) (grG 4 2 x n0 d0) P s k).2 → ∃ B', EX XPm B B' ∧ MTk B' (tkF (grS 4 2 x n0) (grG 4 2 x n0 d0) P) K ∧ MWt B' (flW t (enF (fsW t) (grS 4 2 x n0) (grG 4 2 x n0 d0) P s K).1 (x - (enF (fsW t) (grS 4 2 x n0) (grG 4 2 x n0 d0) P s K).1) 0 (enF (fsW t) (grS 4 2 x n0) (grG 4 2 x n0 d0) P s K).2) ∧ EV q 311 9 [some (.ref 367), some (vI (enF (fsW t) (grS 4 2 x n0) (grG 4 2 x n0 d0) P s k).1), some (vI (P k)), none] [] B none B' := by
  have gr := gr_rg (cut := 2) (least := 4) hx (by decide) hL
  have g0 := grc_2 hL
  have rg := enF_rg (f := fsW t) hx fsW_g hP (fun p p0 p1 => (gr p p0 p1).1) h0
  have le := GP_le hP (fun p p0 p1 => (gr p p0 p1).1)
  have lx := hx.2
  have wx : w32 x = x := w32_of (by omega)
  intro v
  induction v with
  | zero =>
    intro k B hk hB hT h
    have e : k = K := by omega
    subst e
    have r := rg k (Nat.le_refl _)
    have lk := (le k (Nat.le_refl _)).1
    rw [hP.2.1] at r lk
    obtain ⟨B', g1, g2, g3⟩ := md_seqE (q := q) (n := x - (enF (fsW t) (grS 4 2 x n0) (grG 4 2 x n0 d0) P s k).1) hx ⟨r.1.1, by omega, by omega⟩ r.2.2 (by omega) hB h
    refine ⟨B', EX.mono g1 (fun a k y => Or.inl y), MTk_w hT g1, g2, vc_MD_packFast_9 _ _ ?_⟩
    rw [hB.1, hP.2.1]
    exact cY (Int.le_refl _) ⟨B', g3, rfl, rfl⟩
  | succ v ih =>
    intro k B hk hB hT h
    have hp := hP.2.2 k (by omega)
    have lk := (le k (by omega)).1
    have r := rg k (by omega)
    have es := enF_s (f := fsW t) (gs := grS 4 2 x n0) (gg := grG 4 2 x n0 d0) (P := P) (s := s) k
    have ek : tkF (grS 4 2 x n0) (grG 4 2 x n0 d0) P k = (grS 4 2 x n0 (P k), grG 4 2 x n0 d0 (P k), P k) := by unfold tkF; rw [show ((k : Int)).toNat = k by omega]
    have hl := (hL (P k) hp.1.1 hp.1.2)
    have hl1 := hl.1
    have wp : w32 (P k) = P k := w32_of (by omega)
    have sp := gr (P k) hp.1.1 hp.1.2
    have e1 := (g0 (P k) hp.1.1 hp.1.2).1
    have e2 := (g0 (P k) hp.1.1 hp.1.2).2
    obtain ⟨L, eL⟩ : ∃ L, L = frL x n0 (P k) := ⟨_, rfl⟩
    rw [← eL] at e1 e2
    have wxp : w32 (x - P k) = x - P k := w32_of (by omega)
    have Lr : -1000 ≤ L ∧ L ≤ 6000 := by
      rw [eL]; unfold frL; split <;> omega
    have wL : w32 L = L := w32_of (by omega)
    have kx : ¬ x ≤ P k := by omega
    -- the search
    have sr : ∃ B1, EX XLo B B1 ∧ (4 ≤ L → B1.1 367 27 = d0 (P k)) ∧ ∀ (x1 : Int) (R : Option Value) (T : ms), EV q 311 80 [some (.ref 367), some (vI x1), some (vI (P k)), some (vI L)] [] B1 R T → EV q 311 9 [some (.ref 367), some (vI x1), some (vI (P k)), none] [] B R T := by
      by_cases c : x - P k < 12
      · have e : L = 0 := by rw [eL]; unfold frL; rw [if_pos c]
        refine ⟨B, EX.refl _ B, fun y => absurd y (by omega), fun x1 R T kk => vc_MD_packFast_9 _ _ ?_⟩
        rw [hB.1, wx, wp, wxp]
        rw [e] at kk
        exact cNo kx (cY c kk)
      · obtain ⟨B1, b1, b2, b3, -, b4⟩ := hM (P k) hp.1.1 hp.1.2 B hB
        have e : L = min (n0 (P k)) (x - 5 - P k) := by rw [eL]; unfold frL; rw [if_neg c]
        refine ⟨B1, b1, fun _ => b3, fun x1 R T kk => vc_MD_packFast_9 _ _ ?_⟩
        rw [hB.1, wx, wp, wxp]
        refine cNo kx (cNo c ⟨B1, b4, ?_⟩)
        rw [b2, (TXm_lo hB b1).1, w32_of (x := n0 (P k)) (by omega), w32_of (x := x - 5 - P k) (by omega)]
        by_cases c2 : n0 (P k) ≤ x - 5 - P k
        · rw [show L = n0 (P k) by omega] at kk
          exact cY c2 (vc_MD_packFast_79 _ _ _ _ kk)
        · rw [show L = x - 5 - P k by omega] at kk
          exact cNo c2 (vc_MD_packFast_79 _ _ _ _ kk)
    obtain ⟨B1, b1, b3, b4⟩ := sr
    have hB1 := TXm_lo hB b1
    obtain ⟨B2, c1, c2, c3⟩ := md_token (q := q) (n := k) (by omega) ek (MTk_lo hT b1)
    have hB2 := TXm_tk hB1 c1
    have h2 := MWt_tk (MWt_lo h b1) c1
    have x1 : EX XPm B B2 := (EX.mono b1 (fun a k y => Or.inr (Or.inr y)) : EX XPm B B1).trans (EX.mono c1 (fun a k y => Or.inr (Or.inl y)))
    by_cases c : 4 ≤ L
    · rw [if_pos c] at e1 e2
      have n4 : 4 ≤ n0 (P k) := by
        have : L ≤ n0 (P k) := by
          rw [eL]; unfold frL; split <;> omega
        omega
      have hd := (hl.2.2.1 (by omega)).1
      rw [e1, e2] at c3
      rw [e1, e2, if_pos (by omega)] at es
      obtain ⟨B3, f1, f2, f3⟩ := md_seq1 (q := q) (n := P k - (enF (fsW t) (grS 4 2 x n0) (grG 4 2 x n0 d0) P s k).1) (l := L) (d := d0 (P k)) hx ⟨r.1.1, by omega, by omega⟩ (by omega) (by omega) r.2.2 (by omega) hB2 h2
      have es1 : (enF (fsW t) (grS 4 2 x n0) (grG 4 2 x n0 d0) P s (k + 1)).1 = P k + L := by rw [es]
      obtain ⟨B', g1, g2, g3, g4⟩ := ih (k + 1) B3 (by omega) (TXm_x hB2 f1) (by rw [show ((k + 1 : Nat) : Int) = (k : Int) + 1 by omega]; exact MTk_w c2 f1) (by rw [es]; exact f2)
      rw [es1, hp.2, e1] at g4
      refine ⟨B', (x1.trans (EX.mono f1 (fun a k y => Or.inl y))).trans g1, g2, g3, b4 _ _ _ (vc_MD_packFast_80 _ _ _ ?_)⟩
      rw [wL, b3 c]
      refine cNo (by omega) ⟨B2, c3, B3, ?_, vc_MD_packFast_127 _ _ _ g4⟩
      rw [c1.2 367 27 (by unfold XTm; omega), b3 c]
      exact f3
    · rw [if_neg c] at e1 e2
      rw [e1, e2] at c3
      rw [e2, if_neg (by decide)] at es
      obtain ⟨B', g1, g2, g3, g4⟩ := ih (k + 1) B2 (by omega) hB2 (by rw [show ((k + 1 : Nat) : Int) = (k : Int) + 1 by omega]; exact c2) (by rw [es]; exact h2)
      rw [es, hp.2, e1] at g4
      refine ⟨B', x1.trans g1, g2, g3, b4 _ _ _ (vc_MD_packFast_80 _ _ _ ?_)⟩
      rw [wL]
      exact cY (by omega) ⟨B2, c3, vc_MD_packFast_127 _ _ _ g4⟩
end PFast
