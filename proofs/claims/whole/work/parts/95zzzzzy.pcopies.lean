/-! pack: COPIES -/
section PCop
variable {q : Nat × (Nat → Int32)} {x : Int} {t : Int → Int}
theorem TXc_o {o : Nat} {A A' : ms} (ho : o = 7 ∨ 300 < o) (h : TXc A x t) (e : EX (XRo o) A A') : TXc A' x t := TXc_e h (fun a k y => e.2 a k (by unfold XRo; omega))
theorem CTk_o {o : Nat} {A A' : ms} {T : Int → Int × Int × Int} {n : Int} (ho : o = 7 ∨ 300 < o) (h : CTk A T n) (e : EX (XRo o) A A') : CTk A' T n := CTk_e h (fun a k y => e.2 a k (by unfold XTc at y; unfold XRo; omega))
theorem MTk_w {B B' : ms} {T : Int → Int × Int × Int} {n : Int} (h : MTk B T n) (e : EX XW B B') : MTk B' T n := MTk_e h (fun a k y => e.2 a k (by unfold XTm at y; unfold XW; omega))
/-- the longest match everywhere -/
theorem jLMs {most reach : Int} (hx : 0 ≤ x ∧ x ≤ 6000) (ht : ∀ k : Int, 0 ≤ k → k < x → 0 ≤ t k ∧ t k < 256) (hm : 1 ≤ most ∧ most ≤ 6000) (hre : 6000 ≤ reach ∧ reach < 100000) : ∃ n0 d0 : Int → Int, (∀ p : Int, 0 ≤ p → p < x → LM t p (min most (x - p)) (n0 p) (d0 p)) ∧ ∀ p : Int, 0 ≤ p → p < x → ∀ B : ms, TXm B x t → ∃ B', EX XLo B B' ∧ B'.1 367 26 = n0 p ∧ B'.1 367 27 = d0 p ∧ LF t p (n0 p) (B'.1 379) ∧ EV q 293 0 [some (.ref 367), some (.ref 368), some (vI x), some (vI p), some (vI most), some (vI reach), none, none, none, none, none] [] B none B' := by
  have h : ∀ p : Int, ∃ z : Int × Int, 0 ≤ p → p < x → LM t p (min most (x - p)) z.1 z.2 ∧ ∀ B : ms, TXm B x t → ∃ B', EX XLo B B' ∧ B'.1 367 26 = z.1 ∧ B'.1 367 27 = z.2 ∧ LF t p z.1 (B'.1 379) ∧ EV q 293 0 [some (.ref 367), some (.ref 368), some (vI x), some (vI p), some (vI most), some (vI reach), none, none, none, none, none] [] B none B' := fun p => by
    by_cases c : 0 ≤ p ∧ p < x
    · obtain ⟨n, d, i⟩ := md_longest (q := q) hx ht c hm hre
      exact ⟨(n, d), fun _ _ => i⟩
    · exact ⟨(0, 0), fun y1 y2 => absurd ⟨y1, y2⟩ c⟩
  obtain ⟨f, hf⟩ := Classical.axiomOfChoice h
  exact ⟨fun p => (f p).1, fun p => (f p).2, fun p p0 p1 => (hf p p0 p1).1, fun p p0 p1 => (hf p p0 p1).2⟩
theorem TXm_lo {B B' : ms} (h : TXm B x t) (e : EX XLo B B') : TXm B' x t := TXm_e h (fun a k y => e.2 a k (by unfold XLo; omega))
theorem TXm_tk {B B' : ms} (h : TXm B x t) (e : EX XTm B B') : TXm B' x t := TXm_e h (fun a k y => e.2 a k (by unfold XTm; omega))
theorem MWt_lo {B B' : ms} {w : Wt} (h : MWt B w) (e : EX XLo B B') : MWt B' w := MWt_cg h (fun a k y => e.2 a k (by unfold XW at y; unfold XLo; omega))
theorem MWt_tk {B B' : ms} {w : Wt} (h : MWt B w) (e : EX XTm B B') : MWt B' w := MWt_cg h (fun a k y => e.2 a k (by unfold XW at y; unfold XTm; omega))
theorem MTk_lo {B B' : ms} {T : Int → Int × Int × Int} {n : Int} (h : MTk B T n) (e : EX XLo B B') : MTk B' T n := MTk_e h (fun a k y => e.2 a k (by unfold XTm at y; unfold XLo; omega))
/-- what a coder of copies makes of a parse: f from place length gap -/
def enF (f : Int → Int → Int → Int → Wt → Wt) (gs gg : Int → Int) (P : Nat → Int) (s : Int × Wt) : Nat → Int × Wt
  | 0 => s
  | k + 1 => if 0 < gg (P k) then (P k + gs (P k), f (enF f gs gg P s k).1 (P k) (gs (P k)) (gg (P k)) (enF f gs gg P s k).2) else enF f gs gg P s k
theorem enF_s {f : Int → Int → Int → Int → Wt → Wt} {gs gg : Int → Int} {P : Nat → Int} {s : Int × Wt} (k : Nat) : enF f gs gg P s (k + 1) = if 0 < gg (P k) then (P k + gs (P k), f (enF f gs gg P s k).1 (P k) (gs (P k)) (gg (P k)) (enF f gs gg P s k).2) else enF f gs gg P s k := rfl
def enG (x : Int) (f : Int → Int → Int → Int → Wt → Wt) : Prop := ∀ (a p l d : Int) (w : Wt), 0 ≤ a → a ≤ p → p + l ≤ x → 1 ≤ l → 0 < d → wtO w → (w.1 ≤ (f a p l d w).1 ∧ (f a p l d w).1 ≤ w.1 + (p - a) + 100) ∧ wtO (f a p l d w)
theorem enF_rg {f : Int → Int → Int → Int → Wt → Wt} {gs gg : Int → Int} {P : Nat → Int} {K : Nat} {s : Int × Wt} (hx : 0 ≤ x ∧ x ≤ 6000) (hf : enG x f) (hP : GP x gs gg P K) (hs : ∀ p : Int, 0 ≤ p → p < x → 1 ≤ gs p ∧ p + gs p ≤ x) (h0 : s.1 = 0 ∧ wtO s.2) : ∀ k : Nat, k ≤ K → (0 ≤ (enF f gs gg P s k).1 ∧ (enF f gs gg P s k).1 ≤ P k) ∧ (s.2.1 ≤ (enF f gs gg P s k).2.1 ∧ (enF f gs gg P s k).2.1 ≤ s.2.1 + (enF f gs gg P s k).1 + 100 * k) ∧ wtO (enF f gs gg P s k).2
  | 0, _ => by
    have := hP.1
    have e : enF f gs gg P s 0 = s := rfl
    rw [e, this, h0.1]
    exact ⟨⟨Int.le_refl _, Int.le_refl _⟩, ⟨Int.le_refl _, by omega⟩, h0.2⟩
  | k + 1, hk => by
    have ih := enF_rg hx hf hP hs h0 k (by omega)
    have h := hP.2.2 k (by omega)
    have hs' := hs (P k) h.1.1 h.1.2
    rw [enF_s]
    by_cases c : 0 < gg (P k)
    · rw [if_pos c]
      have g := hf (enF f gs gg P s k).1 (P k) (gs (P k)) (gg (P k)) (enF f gs gg P s k).2 ih.1.1 ih.1.2 hs'.2 hs'.1 c ih.2.2
      refine ⟨?_, ?_, g.2⟩
      · show 0 ≤ P k + gs (P k) ∧ P k + gs (P k) ≤ P (k + 1)
        omega
      · show s.2.1 ≤ (f _ _ _ _ _).1 ∧ (f _ _ _ _ _).1 ≤ s.2.1 + (P k + gs (P k)) + 100 * ((k + 1 : Nat) : Int)
        omega
    · rw [if_neg c]
      exact ⟨by omega, by omega, ih.2.2⟩
theorem wtO_loF (v : Int) {w : Wt} (h : wtO w) (n : Nat) : wtO (wtPuts (loF v) n w) := wtO_puts _ h n
/-- literals; a copy -/
def ltH (n : Int) (w : Wt) : Wt := if n - 1 < 60 then wtPut ((n - 1) * 4) w else if n - 1 < 256 then wtPut (n - 1) (wtPut 240 w) else wtPuts (loF (n - 1)) 2 (wtPut 244 w)
def ltW (t : Int → Int) (a n : Int) (w : Wt) : Wt := if n = 0 then w else wtPuts (fun j => t (a + j)) n.toNat (ltH n w)
def bkW (l d : Int) (w : Wt) : Wt := if l < 12 ∧ d < 2048 then wtPut d (wtPut (bO (bO (d / 256 * 32) ((l - 4) * 4)) 1) w) else wtPuts (loF d) 2 (wtPut (bO ((l - 1) * 4) 2) w)
def cpW (t : Int → Int) (a p l d : Int) (w : Wt) : Wt := bkW l d (ltW t a (p - a) w)
theorem ltH_r (n : Int) {w : Wt} (h : wtO w) : ((ltH n w).1 = w.1 + 1 ∨ (ltH n w).1 = w.1 + 2 ∨ (ltH n w).1 = w.1 + 3) ∧ wtO (ltH n w) := by
  unfold ltH
  split
  · exact ⟨Or.inl rfl, wtO_put _ h⟩
  · split
    · exact ⟨Or.inr (Or.inl (by rw [wtPut_1, wtPut_1]; omega)), wtO_put _ (wtO_put _ h)⟩
    · exact ⟨Or.inr (Or.inr (by rw [wtPuts_1, wtPut_1]; omega)), wtO_loF _ (wtO_put _ h) _⟩
theorem ltW_r {a n : Int} {w : Wt} (hn : 0 ≤ n) (h : wtO w) : (w.1 ≤ (ltW t a n w).1 ∧ (ltW t a n w).1 ≤ w.1 + n + 3) ∧ wtO (ltW t a n w) := by
  unfold ltW
  by_cases c : n = 0
  · rw [if_pos c]; exact ⟨by omega, h⟩
  · rw [if_neg c]
    have := ltH_r n h
    exact ⟨by rw [wtPuts_1]; omega, wtO_puts _ this.2 _⟩
theorem bkW_r (l d : Int) {w : Wt} (h : wtO w) : (w.1 ≤ (bkW l d w).1 ∧ (bkW l d w).1 ≤ w.1 + 3) ∧ wtO (bkW l d w) := by
  unfold bkW
  split
  · exact ⟨by rw [wtPut_1, wtPut_1]; omega, wtO_put _ (wtO_put _ h)⟩
  · exact ⟨by rw [wtPuts_1, wtPut_1]; omega, wtO_loF _ (wtO_put _ h) _⟩
theorem cpW_g : enG x (cpW t) := fun a p l d w a0 a1 a2 a3 a4 hw => by
  unfold cpW
  have h1 := ltW_r (t := t) (a := a) (n := p - a) (w := w) (by omega) hw
  have h2 := bkW_r l d h1.2
  exact ⟨by omega, h2.2⟩
theorem cl_lits {A : ms} {o : Nat} {a p : Int} {w : Wt} (ho : isRow o 12000) (hO : o = 7 ∨ 300 < o) (hx : 0 ≤ x ∧ x ≤ 6000) (ha : 0 ≤ a ∧ a ≤ p ∧ p ≤ x) (hw : 0 ≤ w.1) (hA : TXc A x t) (h : CWt A o 12000 w) : ∃ A', EX (XRo o) A A' ∧ CWt A' o 12000 (ltW t a (p - a) w) ∧ EV q 90 0 [some (.ref 1), some (vI a), some (vI p), some (.ref o), none] [] A none A' := by
  have wd : w32 (p - a - 1) = p - a - 1 := w32_of (by omega)
  unfold ltW
  by_cases c : p - a = 0
  · rw [if_pos c]
    refine ⟨A, EX.refl _ A, h, vc_Copies_copyLiterals _ _ 1 6000 tr_row _ _ ho ?_⟩
    rw [wd]
    exact cNo (by omega) ⟨rfl, rfl⟩
  rw [if_neg c]
  obtain ⟨n, en⟩ : ∃ n : Nat, p - a = n := ⟨(p - a).toNat, by omega⟩
  have sp : ∀ (A1 : ms) (w1 : Wt), EX (XRo o) A A1 → 0 ≤ w1.1 → CWt A1 o 12000 w1 → ∃ A', EX (XRo o) A A' ∧ CWt A' o 12000 (wtPuts (fun j => t (a + j)) (p - a).toNat w1) ∧ EV q 90 70 [some (.ref 1), some (vI a), some (vI p), some (.ref o), some (vI (p - a - 1))] [] A1 none A' := fun A1 w1 e1 hw1 h1 => by
    have hA1 := TXc_o hO hA e1
    obtain ⟨A2, k4, k5, k6⟩ := cw_span (q := q) (a1 := 2) (n1 := 6000) (b := a.toNat) (n := n) (g := fun j => t (a + j)) rfl (by omega) (by decide) (fun j hj => by
      have := hA1.2 (a + j) (by omega) (by omega)
      rw [show ((a.toNat : Nat) : Int) = a by omega]
      exact this) ho (by decide) hw1 h1
    rw [show ((a.toNat : Nat) : Int) = a by omega, show a + (n : Int) = p by omega] at k4
    rw [show (p - a).toNat = n by omega]
    exact ⟨A2, e1.trans k5, k6, vc_Copies_copyLiterals_70 _ _ _ 1 6000 tr_row _ _ ho ⟨A2, k4, rfl, rfl⟩⟩
  unfold ltH
  by_cases c1 : p - a - 1 < 60
  · rw [if_pos c1]
    obtain ⟨A1, k1, k2, k3⟩ := cw_put (q := q) ((p - a - 1) * 4) ho (by decide) hw h
    obtain ⟨A', g1, g2, g3⟩ := sp A1 _ k2 (by rw [wtPut_1]; omega) k3
    refine ⟨A', g1, g2, vc_Copies_copyLiterals _ _ 1 6000 tr_row _ _ ho ?_⟩
    rw [wd]
    exact cY (by omega) (cNo (by omega) ⟨A1, k1, g3⟩)
  rw [if_neg c1]
  by_cases c2 : p - a - 1 < 256
  · rw [if_pos c2]
    obtain ⟨A1, k1, k2, k3⟩ := cw_put (q := q) 240 ho (by decide) hw h
    obtain ⟨A2, l1, l2, l3⟩ := cw_put (q := q) (p - a - 1) ho (by decide) (by rw [wtPut_1]; omega) k3
    obtain ⟨A', g1, g2, g3⟩ := sp A2 _ (k2.trans l2) (by rw [wtPut_1, wtPut_1]; omega) l3
    refine ⟨A', g1, g2, vc_Copies_copyLiterals _ _ 1 6000 tr_row _ _ ho ?_⟩
    rw [wd]
    exact cY (by omega) (cY (by omega) (cNo (by omega) ⟨A1, k1, A2, l1, g3⟩))
  · rw [if_neg c2]
    obtain ⟨A1, k1, k2, k3⟩ := cw_put (q := q) 244 ho (by decide) hw h
    obtain ⟨A2, l1, l2, l3⟩ := cw_low (q := q) (p - a - 1) (n := 2) (by decide) ho (by decide) (by rw [wtPut_1]; omega) k3
    obtain ⟨A', g1, g2, g3⟩ := sp A2 _ (k2.trans l2) (by rw [wtPuts_1, wtPut_1]; omega) l3
    refine ⟨A', g1, g2, vc_Copies_copyLiterals _ _ 1 6000 tr_row _ _ ho ?_⟩
    rw [wd]
    exact cY (by omega) (cY (by omega) (cY (by omega) ⟨A1, k1, A2, l1, g3⟩))
theorem cl_back {A : ms} {o : Nat} {l d : Int} {w : Wt} (ho : isRow o 12000) (hl : 0 ≤ l ∧ l ≤ 6000) (hd : 0 ≤ d ∧ d ≤ 6000) (hw : 0 ≤ w.1) (h : CWt A o 12000 w) : ∃ A', EX (XRo o) A A' ∧ CWt A' o 12000 (bkW l d w) ∧ EV q 91 0 [some (vI l), some (vI d), some (.ref o)] [] A none A' := by
  have wl : w32 l = l := w32_of (by omega)
  have wd : w32 d = d := w32_of (by omega)
  unfold bkW
  by_cases c : l < 12 ∧ d < 2048
  · rw [if_pos c]
    obtain ⟨A1, k1, k2, k3⟩ := cw_put (q := q) (bO (bO (d / 256 * 32) ((l - 4) * 4)) 1) ho (by decide) hw h
    obtain ⟨A2, l1, l2, l3⟩ := cw_put (q := q) d ho (by decide) (by rw [wtPut_1]; omega) k3
    refine ⟨A2, k2.trans l2, l3, vc_Copies_copyBack _ _ _ _ ho ?_⟩
    rw [wl, wd]
    exact cNo (by omega) (cNo (by omega) ⟨A1, k1, A2, l1, rfl, rfl⟩)
  · rw [if_neg c]
    obtain ⟨A1, k1, k2, k3⟩ := cw_put (q := q) (bO ((l - 1) * 4) 2) ho (by decide) hw h
    obtain ⟨A2, l1, l2, l3⟩ := cw_low (q := q) d (n := 2) (by decide) ho (by decide) (by rw [wtPut_1]; omega) k3
    have k39 : EV q 91 39 [some (vI l), some (vI d), some (.ref o)] [] A none A2 := vc_Copies_copyBack_39 _ _ _ _ ho ⟨A1, k1, A2, by rw [wd]; exact l1, rfl, rfl⟩
    refine ⟨A2, k2.trans l2, l3, vc_Copies_copyBack _ _ _ _ ho ?_⟩
    rw [wl, wd]
    by_cases c1 : 12 ≤ l
    · exact cY c1 k39
    · exact cNo c1 (cY (by omega) k39)
/-- the reference puts n octets of the text, method 317 -/
theorem mw_oct7 {a x3 : Int} {n : Nat} (hx : 0 ≤ x ∧ x ≤ 6000) (ha : 0 ≤ a ∧ a + n ≤ x) : ∀ (d i : Nat) (B : ms) (w : Wt), i + d = n → (0 ≤ w.1 ∧ w.1 < 1000000) → TXm B x t → MWt B (wtPuts (fun j => t (a + j)) i w) → ∃ B', EX XW B B' ∧ MWt B' (wtPuts (fun j => t (a + j)) n w) ∧ EV q 317 64 [some (.ref 367), some (vI a), some (vI n), some (vI x3), some (vI i)] [] B none B' := by
  have wn : Unit → w32 (n : Int) = n := fun _ => w32_of (by omega)
  intro d
  induction d with
  | zero =>
    intro i B w hi hw hB h
    have e : i = n := by omega
    subst e
    exact ⟨B, EX.refl _ B, h, vc_MD_literals_64 _ _ _ _ (cY (Int.le_refl _) ⟨rfl, rfl⟩)⟩
  | succ d ih =>
    intro i B w hi hw hB h
    have wi : Unit → w32 (i : Int) = i := fun _ => w32_of (by omega)
    have wa : w32 (a + i) = a + i := w32_of (by omega)
    have hti := hB.2 (a + i) (by omega) (by omega)
    obtain ⟨B1, k1, k2, k3⟩ := mw_put (q := q) (b8 (t (a + i))) (by rw [wtPuts_1]; omega) h
    rw [wtPut_m (show b8 (t (a + i)) % 256 = t (a + i) % 256 by unfold b8; omega), ← wtPuts_s (fun j => t (a + j))] at k3
    obtain ⟨B', k4, k5, k6⟩ := ih (i + 1) B1 w (by omega) hw (TXm_x hB k2) k3
    refine ⟨B', k2.trans k4, k5, vc_MD_literals_64 _ _ _ _ ?_⟩
    rw [show ((i + 1 : Nat) : Int) = (i : Int) + 1 by omega] at k6
    rw [wn (), wi (), wa, hti.2]
    exact cNo (by omega) ⟨by omega, B1, k1, k6⟩
theorem md_lits {B : ms} {a n : Int} {w : Wt} (hx : 0 ≤ x ∧ x ≤ 6000) (ha : 0 ≤ a ∧ 0 ≤ n ∧ a + n ≤ x) (hw : 0 ≤ w.1 ∧ w.1 < 900000) (hB : TXm B x t) (h : MWt B w) : ∃ B', EX XW B B' ∧ MWt B' (ltW t a n w) ∧ EV q 317 0 [some (.ref 367), some (vI a), some (vI n), none, none] [] B none B' := by
  have wn : w32 n = n := w32_of (by omega)
  have wd : w32 (n - 1) = n - 1 := w32_of (by omega)
  unfold ltW
  by_cases c : n = 0
  · rw [if_pos c]
    refine ⟨B, EX.refl _ B, h, vc_MD_literals _ _ ?_⟩
    rw [wn]
    exact cNN c ⟨rfl, rfl⟩
  rw [if_neg c]
  have sp : ∀ (B1 : ms) (w1 : Wt), EX XW B B1 → (0 ≤ w1.1 ∧ w1.1 < 1000000) → MWt B1 w1 → ∃ B', EX XW B B' ∧ MWt B' (wtPuts (fun j => t (a + j)) n.toNat w1) ∧ EV q 317 61 [some (.ref 367), some (vI a), some (vI n), some (vI (n - 1)), none] [] B1 none B' := fun B1 w1 e1 hw1 h1 => by
    obtain ⟨B', k1, k2, k3⟩ := mw_oct7 (q := q) (x := x) (t := t) (a := a) (x3 := n - 1) (n := n.toNat) hx (by omega) n.toNat 0 B1 w1 (by omega) hw1 (TXm_x hB e1) h1
    rw [show ((n.toNat : Nat) : Int) = n by omega] at k3
    exact ⟨B', e1.trans k1, k2, vc_MD_literals_61 _ _ _ k3⟩
  unfold ltH
  by_cases c1 : n - 1 < 60
  · rw [if_pos c1]
    obtain ⟨B1, k1, k2, k3⟩ := mw_put (q := q) ((n - 1) * 4) (by omega) h
    obtain ⟨B', g1, g2, g3⟩ := sp B1 _ k2 (by rw [wtPut_1]; omega) k3
    refine ⟨B', g1, g2, vc_MD_literals _ _ ?_⟩
    rw [wn, wd]
    exact cY c (cNo (by omega) ⟨B1, k1, g3⟩)
  rw [if_neg c1]
  by_cases c2 : n - 1 < 256
  · rw [if_pos c2]
    obtain ⟨B1, k1, k2, k3⟩ := mw_put (q := q) 240 (by omega) h
    obtain ⟨B2, l1, l2, l3⟩ := mw_put (q := q) (n - 1) (by rw [wtPut_1]; omega) k3
    obtain ⟨B', g1, g2, g3⟩ := sp B2 _ (k2.trans l2) (by rw [wtPut_1, wtPut_1]; omega) l3
    refine ⟨B', g1, g2, vc_MD_literals _ _ ?_⟩
    rw [wn, wd]
    exact cY c (cY (by omega) (cNo (by omega) ⟨B1, k1, B2, l1, g3⟩))
  · rw [if_neg c2]
    obtain ⟨B1, k1, k2, k3⟩ := mw_put (q := q) 244 (by omega) h
    obtain ⟨B2, l1, l2, l3⟩ := mw_low (q := q) (n - 1) (n := 2) (by decide) (by rw [wtPut_1]; omega) k3
    obtain ⟨B', g1, g2, g3⟩ := sp B2 _ (k2.trans l2) (by rw [wtPuts_1, wtPut_1]; omega) l3
    refine ⟨B', g1, g2, vc_MD_literals _ _ ?_⟩
    rw [wn, wd]
    exact cY c (cY (by omega) (cY (by omega) ⟨B1, k1, B2, l1, g3⟩))
/-- the class writes its tokens -/
theorem cl_copies {gs gg : Int → Int} {P : Nat → Int} {K : Nat} {s : Int × Wt} {o : Nat} (ho : isRow o 12000) (hO : o = 7 ∨ 300 < o) (hx : 0 ≤ x ∧ x ≤ 6000) (hP : GP x gs gg P K) (hs : ∀ p : Int, 0 ≤ p → p < x → (1 ≤ gs p ∧ p + gs p ≤ x) ∧ 0 ≤ gg p ∧ gg p ≤ p) (h0 : s.1 = 0 ∧ wtO s.2) (hw : 0 ≤ s.2.1) : ∀ (v k : Nat) (A : ms), k + v = K → TXc A x t → CTk A (tkF gs gg P) K → CWt A o 12000 (enF (cpW t) gs gg P s k).2 → ∃ A', EX (XRo o) A A' ∧ CWt A' o 12000 (ltW t (enF (cpW t) gs gg P s K).1 (x - (enF (cpW t) gs gg P s K).1) (enF (cpW t) gs gg P s K).2) ∧ EV q 88 25 [some (.ref 29), some (.ref 1), some (.ref o), some (vI (enF (cpW t) gs gg P s k).1), some (vI k)] [] A none A' := by
  have rg := enF_rg (f := cpW t) hx cpW_g hP (fun p p0 p1 => (hs p p0 p1).1) h0
  have le := GP_le hP (fun p p0 p1 => (hs p p0 p1).1)
  have lx := hx.2
  have wK : Unit → w32 (K : Int) = K := fun _ => w32_of (by have := le K (Nat.le_refl _); omega)
  intro v
  induction v with
  | zero =>
    intro k A hk hA hT h
    have e : k = K := by omega
    subst e
    have r := rg k (Nat.le_refl _)
    rw [hP.2.1] at r
    obtain ⟨A', g1, g2, g3⟩ := cl_lits (q := q) ho hO hx ⟨r.1.1, r.1.2, Int.le_refl _⟩ (by omega) hA h
    refine ⟨A', g1, g2, vc_Copies_packCopies_25 _ _ 1 6000 tr_row _ _ ho ?_⟩
    rw [hT.1, hA.1]
    exact cY (Int.le_refl _) ⟨A', g3, rfl, rfl⟩
  | succ v ih =>
    intro k A hk hA hT h
    have hp := hP.2.2 k (by omega)
    have lk := (le k (by omega)).1
    have r := rg k (by omega)
    have sp := hs (P k) hp.1.1 hp.1.2
    have tk := hT.2 k (by omega) (by omega)
    have wk : Unit → w32 (k : Int) = k := fun _ => w32_of (by omega)
    have ek : tkF gs gg P k = (gs (P k), gg (P k), P k) := by unfold tkF; rw [show ((k : Int)).toNat = k by omega]
    rw [ek] at tk
    have t1 : A.1 13 k = gs (P k) := tk.1
    have t2 : A.1 14 k = gg (P k) := tk.2.1
    have t3 : A.1 15 k = P k := tk.2.2
    obtain ⟨p, ep⟩ : ∃ p, p = P k := ⟨_, rfl⟩
    have es := enF_s (f := cpW t) (gs := gs) (gg := gg) (P := P) (s := s) k
    have kb : 0 ≤ (k : Int) ∧ (k : Int) < (6000 : Nat) := by omega
    have kK : ¬ (K : Int) ≤ k := by omega
    by_cases c : 0 < gg (P k)
    · rw [if_pos c] at es
      obtain ⟨A1, b1, b2, b3⟩ := cl_lits (q := q) (p := P k) ho hO hx ⟨r.1.1, r.1.2, by omega⟩ (by omega) hA h
      have l1 := ltW_r (t := t) (a := (enF (cpW t) gs gg P s k).1) (n := P k - (enF (cpW t) gs gg P s k).1) (w := (enF (cpW t) gs gg P s k).2) (by omega) r.2.2
      obtain ⟨A2, d1, d2, d3⟩ := cl_back (q := q) (l := gs (P k)) (d := gg (P k)) ho (by omega) (by omega) (by omega) b2
      have hA1 := TXc_o hO hA b1
      have hA2 := TXc_o hO hA1 d1
      have hT1 := CTk_o hO hT b1
      have hT2 := CTk_o hO hT1 d1
      obtain ⟨A', g1, g2, g3⟩ := ih (k + 1) A2 (by omega) hA2 hT2 (by rw [es]; exact d2)
      have es1 : (enF (cpW t) gs gg P s (k + 1)).1 = P k + gs (P k) := by rw [es]
      rw [es1, show ((k + 1 : Nat) : Int) = (k : Int) + 1 by omega] at g3
      have tk1 := hT1.2 k (by omega) (by omega)
      rw [ek] at tk1
      have tk2 := hT2.2 k (by omega) (by omega)
      rw [ek] at tk2
      have u1 : A1.1 13 k = gs (P k) := tk1.1
      have u2 : A1.1 14 k = gg (P k) := tk1.2.1
      have v1 : A2.1 13 k = gs (P k) := tk2.1
      have v3 : A2.1 15 k = P k := tk2.2.2
      refine ⟨A', (b1.trans d1).trans g1, g2, vc_Copies_packCopies_25 _ _ 1 6000 tr_row _ _ ho ?_⟩
      rw [hT.1, wK (), wk (), t2, w32_of (x := gg (P k)) (by omega), t3]
      refine cNo kK ⟨kb, cNo (by omega) ⟨kb, A1, b3, kb, kb, A2, ?_, kb, kb, ?_⟩⟩
      · rw [u1, u2]; exact d3
      · rw [v1, v3]
        exact vc_Copies_packCopies_112 _ _ 1 6000 tr_row _ _ ho g3
    · rw [if_neg c] at es
      obtain ⟨A', g1, g2, g3⟩ := ih (k + 1) A (by omega) hA hT (by rw [es]; exact h)
      rw [es, show ((k + 1 : Nat) : Int) = (k : Int) + 1 by omega] at g3
      refine ⟨A', g1, g2, vc_Copies_packCopies_25 _ _ 1 6000 tr_row _ _ ho ?_⟩
      rw [hT.1, wK (), wk (), t2, w32_of (x := gg (P k)) (by omega)]
      exact cNo kK ⟨kb, cY (by omega) (vc_Copies_packCopies_112 _ _ 1 6000 tr_row _ _ ho g3)⟩
theorem grc_0 {least most : Int} {n0 d0 : Int → Int} (hl : 3 ≤ least ∧ least ≤ 100) (hL : ∀ p : Int, 0 ≤ p → p < x → LM t p (min most (x - p)) (n0 p) (d0 p)) : ∀ p : Int, 0 ≤ p → p < x → grS least 0 x n0 p = (if least ≤ n0 p then n0 p else 1) ∧ grG least 0 x n0 d0 p = if least ≤ n0 p then d0 p else 0 := fun p p0 p1 => by
  have h1 := (hL p p0 p1).1
  have e : grN least 0 x n0 p = if least ≤ n0 p then n0 p else 0 := by
    have e1 : fcF 0 x p = x := by
      unfold fcF
      rw [if_neg (by decide), if_neg (by decide)]
    unfold grN
    rw [e1]
    split <;> omega
  unfold grS grG
  rw [e]
  by_cases c : least ≤ n0 p
  · simp only [if_pos c, and_self]
  · simp only [if_neg c, if_neg (show ¬ least ≤ 0 by omega), and_self]
def XPm (a : Nat) (k : Int) : Prop := XW a k ∨ XTm a k ∨ XLo a k
theorem md_copies {n0 d0 : Int → Int} {P : Nat → Int} {K : Nat} {s : Int × Wt} (hx : 0 ≤ x ∧ x ≤ 6000) (hL : ∀ p : Int, 0 ≤ p → p < x → LM t p (min 64 (x - p)) (n0 p) (d0 p)) (hM : ∀ p : Int, 0 ≤ p → p < x → ∀ B : ms, TXm B x t → ∃ B', EX XLo B B' ∧ B'.1 367 26 = n0 p ∧ B'.1 367 27 = d0 p ∧ LF t p (n0 p) (B'.1 379) ∧ EV q 293 0 [some (.ref 367), some (.ref 368), some (vI x), some (vI p), some (vI 64), some (vI 65535), none, none, none, none, none] [] B none B') (hP : GP x (grS 4 0 x n0) (grG 4 0 x n0 d0) P K) (h0 : s.1 = 0 ∧ wtO s.2) (hw : 0 ≤ s.2.1 ∧ s.2.1 < 1000) : ∀ (v k : Nat) (B : ms), k + v = K → TXm B x t → MTk B (tkF (grS 4 0 x n0) (grG 4 0 x n0 d0) P) k → MWt B (enF (cpW t) (grS 4 0 x n0) (grG 4 0 x n0 d0) P s k).2 → ∃ B', EX XPm B B' ∧ MTk B' (tkF (grS 4 0 x n0) (grG 4 0 x n0 d0) P) K ∧ MWt B' (ltW t (enF (cpW t) (grS 4 0 x n0) (grG 4 0 x n0 d0) P s K).1 (x - (enF (cpW t) (grS 4 0 x n0) (grG 4 0 x n0 d0) P s K).1) (enF (cpW t) (grS 4 0 x n0) (grG 4 0 x n0 d0) P s K).2) ∧ EV q 315 18 [some (.ref 367), some (vI (enF (cpW t) (grS 4 0 x n0) (grG 4 0 x n0 d0) P s k).1), some (vI (P k)), none, none] [] B none B' := by
  have gr := gr_rg (cut := 0) (least := 4) hx (by decide) hL
  have g0 := grc_0 (least := 4) (by decide) hL
  have rg := enF_rg (f := cpW t) hx cpW_g hP (fun p p0 p1 => (gr p p0 p1).1) h0
  have le := GP_le hP (fun p p0 p1 => (gr p p0 p1).1)
  have lx := hx.2
  have wx : w32 x = x := w32_of (by omega)
  intro v
  induction v with
  | zero =>
    intro k B hk hB hT h
    have e : k = K := by omega
    subst e
    have r := rg k (Nat.le_refl _)
    have lk := (le k (Nat.le_refl _)).1
    rw [hP.2.1] at r lk
    obtain ⟨B', g1, g2, g3⟩ := md_lits (q := q) (n := x - (enF (cpW t) (grS 4 0 x n0) (grG 4 0 x n0 d0) P s k).1) hx ⟨r.1.1, by omega, by omega⟩ (by omega) hB h
    refine ⟨B', EX.mono g1 (fun a k y => Or.inl y), MTk_w hT g1, g2, vc_MD_packCopies_18 _ _ ?_⟩
    rw [hB.1, hP.2.1]
    exact cY (Int.le_refl _) ⟨B', g3, rfl, rfl⟩
  | succ v ih =>
    intro k B hk hB hT h
    have hp := hP.2.2 k (by omega)
    have lk := (le k (by omega)).1
    have r := rg k (by omega)
    have es := enF_s (f := cpW t) (gs := grS 4 0 x n0) (gg := grG 4 0 x n0 d0) (P := P) (s := s) k
    have ek : tkF (grS 4 0 x n0) (grG 4 0 x n0 d0) P k = (grS 4 0 x n0 (P k), grG 4 0 x n0 d0 (P k), P k) := by unfold tkF; rw [show ((k : Int)).toNat = k by omega]
    obtain ⟨B1, b1, b2, b3, -, b4⟩ := hM (P k) hp.1.1 hp.1.2 B hB
    have hB1 := TXm_lo hB b1
    have hl := (hL (P k) hp.1.1 hp.1.2)
    have wp : w32 (P k) = P k := w32_of (by omega)
    have sp := gr (P k) hp.1.1 hp.1.2
    have wn : w32 (n0 (P k)) = n0 (P k) := w32_of (by have := hl.1; omega)
    obtain ⟨B2, c1, c2, c3⟩ := md_token (q := q) (n := k) (by omega) ek (MTk_lo hT b1)
    have hB2 := TXm_tk hB1 c1
    have h2 := MWt_tk (MWt_lo h b1) c1
    have kx : ¬ x ≤ P k := by omega
    have x1 : EX XPm B B2 := (EX.mono b1 (fun a k y => Or.inr (Or.inr y)) : EX XPm B B1).trans (EX.mono c1 (fun a k y => Or.inr (Or.inl y)))
    by_cases c : 4 ≤ n0 (P k)
    · have e1 := (g0 (P k) hp.1.1 hp.1.2).1
      have e2 := (g0 (P k) hp.1.1 hp.1.2).2
      rw [if_pos c] at e1 e2
      have hd := (hl.2.2.1 (by omega)).1
      have wd : w32 (d0 (P k)) = d0 (P k) := w32_of (by omega)
      rw [e1, e2] at c3
      rw [e1, e2, if_pos (by omega)] at es
      obtain ⟨B3, f1, f2, f3⟩ := md_lits (q := q) (n := P k - (enF (cpW t) (grS 4 0 x n0) (grG 4 0 x n0 d0) P s k).1) hx ⟨r.1.1, by omega, by omega⟩ (by omega) hB2 h2
      have l1 := ltW_r (t := t) (a := (enF (cpW t) (grS 4 0 x n0) (grG 4 0 x n0 d0) P s k).1) (n := P k - (enF (cpW t) (grS 4 0 x n0) (grG 4 0 x n0 d0) P s k).1) (w := (enF (cpW t) (grS 4 0 x n0) (grG 4 0 x n0 d0) P s k).2) (by omega) r.2.2
      have es1 : (enF (cpW t) (grS 4 0 x n0) (grG 4 0 x n0 d0) P s (k + 1)).1 = P k + n0 (P k) := by rw [es]
      have es2 : (enF (cpW t) (grS 4 0 x n0) (grG 4 0 x n0 d0) P s (k + 1)).2 = bkW (n0 (P k)) (d0 (P k)) (ltW t (enF (cpW t) (grS 4 0 x n0) (grG 4 0 x n0 d0) P s k).1 (P k - (enF (cpW t) (grS 4 0 x n0) (grG 4 0 x n0 d0) P s k).1) (enF (cpW t) (grS 4 0 x n0) (grG 4 0 x n0 d0) P s k).2) := by rw [es]; rfl
      have en : ∀ B4 : ms, EX XW B3 B4 → MWt B4 (enF (cpW t) (grS 4 0 x n0) (grG 4 0 x n0 d0) P s (k + 1)).2 → ∃ B', EX XPm B B' ∧ MTk B' (tkF (grS 4 0 x n0) (grG 4 0 x n0 d0) P) K ∧ MWt B' (ltW t (enF (cpW t) (grS 4 0 x n0) (grG 4 0 x n0 d0) P s K).1 (x - (enF (cpW t) (grS 4 0 x n0) (grG 4 0 x n0 d0) P s K).1) (enF (cpW t) (grS 4 0 x n0) (grG 4 0 x n0 d0) P s K).2) ∧ ∀ x1 : Int, EV q 315 150 [some (.ref 367), some (vI x1), some (vI (P k)), some (vI (n0 (P k))), some (vI (d0 (P k)))] [] B4 none B' := fun B4 y1 y2 => by
        obtain ⟨B', g1, g2, g3, g4⟩ := ih (k + 1) B4 (by omega) (TXm_x (TXm_x hB2 f1) y1) (by rw [show ((k + 1 : Nat) : Int) = (k : Int) + 1 by omega]; exact MTk_w (MTk_w c2 f1) y1) y2
        rw [es1, hp.2, e1] at g4
        exact ⟨B', (x1.trans (EX.mono (f1.trans y1) (fun a k y => Or.inl y))).trans g1, g2, g3, fun x1 => vc_MD_packCopies_150 _ _ _ _ g4⟩
      by_cases cb : n0 (P k) < 12 ∧ d0 (P k) < 2048
      · have eb : bkW (n0 (P k)) (d0 (P k)) = fun w => wtPut (d0 (P k)) (wtPut (bO (bO (d0 (P k) / 256 * 32) ((n0 (P k) - 4) * 4)) 1) w) := by funext w; unfold bkW; rw [if_pos cb]
        rw [eb] at es2
        obtain ⟨B4, k1, k2, k3⟩ := mw_put (q := q) (bO (bO (d0 (P k) / 256 * 32) ((n0 (P k) - 4) * 4)) 1) (by omega) f2
        obtain ⟨B5, l1, l2, l3⟩ := mw_put (q := q) (d0 (P k)) (by rw [wtPut_1]; omega) k3
        obtain ⟨B', g1, g2, g3, g4⟩ := en B5 (k2.trans l2) (by rw [es2]; exact l3)
        refine ⟨B', g1, g2, g3, vc_MD_packCopies_18 _ _ ?_⟩
        rw [hB.1, wx, wp]
        refine cNo kx ⟨B1, b4, ?_⟩
        rw [b2, b3, wn, wd]
        exact cY c ⟨B2, c3, B3, f3, cNo (by omega) (cNo (by omega) ⟨B4, k1, B5, l1, g4 _⟩)⟩
      · have eb : bkW (n0 (P k)) (d0 (P k)) = fun w => wtPuts (loF (d0 (P k))) 2 (wtPut (bO ((n0 (P k) - 1) * 4) 2) w) := by funext w; unfold bkW; rw [if_neg cb]
        rw [eb] at es2
        obtain ⟨B4, k1, k2, k3⟩ := mw_put (q := q) (bO ((n0 (P k) - 1) * 4) 2) (by omega) f2
        obtain ⟨B5, l1, l2, l3⟩ := mw_low (q := q) (d0 (P k)) (n := 2) (by decide) (by rw [wtPut_1]; omega) k3
        obtain ⟨B', g1, g2, g3, g4⟩ := en B5 (k2.trans l2) (by rw [es2]; exact l3)
        refine ⟨B', g1, g2, g3, vc_MD_packCopies_18 _ _ ?_⟩
        rw [hB.1, wx, wp]
        refine cNo kx ⟨B1, b4, ?_⟩
        rw [b2, b3, wn, wd]
        have k131 : ∀ x1 : Int, EV q 315 131 [some (.ref 367), some (vI x1), some (vI (P k)), some (vI (n0 (P k))), some (vI (d0 (P k)))] [] B3 none B' := fun x1 => vc_MD_packCopies_131 _ _ _ _ ⟨B4, k1, B5, by rw [wd]; exact l1, g4 _⟩
        refine cY c ⟨B2, c3, B3, f3, ?_⟩
        by_cases c12 : 12 ≤ n0 (P k)
        · exact cY c12 (k131 _)
        · exact cNo c12 (cY (by omega) (k131 _))
    · have e1 := (g0 (P k) hp.1.1 hp.1.2).1
      have e2 := (g0 (P k) hp.1.1 hp.1.2).2
      rw [if_neg c] at e1 e2
      rw [e1, e2] at c3
      rw [e2, if_neg (by decide)] at es
      obtain ⟨B', g1, g2, g3, g4⟩ := ih (k + 1) B2 (by omega) hB2 (by rw [show ((k + 1 : Nat) : Int) = (k : Int) + 1 by omega]; exact c2) (by rw [es]; exact h2)
      rw [es, hp.2, e1] at g4
      refine ⟨B', x1.trans g1, g2, g3, vc_MD_packCopies_18 _ _ ?_⟩
      rw [hB.1, wx, wp]
      refine cNo kx ⟨B1, b4, ?_⟩
      rw [b2, wn]
      exact cNo c ⟨B2, c3, g4⟩
end PCop
