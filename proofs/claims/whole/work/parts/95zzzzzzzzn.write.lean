/-! write: entries on both sides; folds -/
section WrF
variable {q : Nat × (Nat → Int32)} {n : Nat} {E : Nat → En}
def EnN (S : ms) (e : Nat) (E : En) : Prop := (S.1 420 e = E.1 ∧ ∀ k : Int, 0 ≤ k → k < E.1 → S.1 419 (100 * (e : Int) + k) = b8 (E.2.1 k)) ∧ (S.1 421 e = E.2.2.1 ∧ S.1 422 e = E.2.2.2.1) ∧ S.1 424 e = E.2.2.2.2.1 ∧ ∀ k : Int, 0 ≤ k → k < E.2.2.2.2.1 → S.1 423 (6000 * (e : Int) + k) = b8 (E.2.2.2.2.2 k)
/-- the standing shelf, the reference -/
def ShN (S : ms) (n : Nat) (E : Nat → En) : Prop := S.1 367 88 = n ∧ ∀ e : Nat, e < n → EnN S e (E e)
theorem ShN_k {S S1 : ms} (h : ShN S n E) (e : ∀ (a : Nat) (k : Int), (a = 367 ∧ k = 88) ∨ (419 ≤ a ∧ a ≤ 424) → S1.1 a k = S.1 a k) : ShN S1 n E := by
  refine ⟨by rw [e _ _ (by omega)]; exact h.1, fun i hi => ?_⟩
  obtain ⟨⟨a1, a2⟩, ⟨a3, a4⟩, a5, a6⟩ := h.2 i hi
  exact ⟨⟨by rw [e _ _ (by omega)]; exact a1, fun k k0 k1 => by rw [e _ _ (by omega)]; exact a2 k k0 k1⟩, ⟨by rw [e _ _ (by omega)]; exact a3, by rw [e _ _ (by omega)]; exact a4⟩, by rw [e _ _ (by omega)]; exact a5, fun k k0 k1 => by rw [e _ _ (by omega)]; exact a6 k k0 k1⟩
theorem ShC_k {S S1 : ms} {sh : Nat} (hn : n ≤ 16) (h : ShC S sh n E) (e : ∀ (a : Nat) (k : Int), (a = sh ∧ k = 4) ∨ a = sh + 3 ∨ a = sh + 4 ∨ (sh + 11 ≤ a ∧ a < sh + 75) → S1.1 a k = S.1 a k) : ShC S1 sh n E := by
  refine ⟨by rw [e _ _ (by omega)]; exact h.1, fun i hi => ?_⟩
  obtain ⟨⟨a1, a2⟩, ⟨a3, a4⟩, a5, a6⟩ := h.2 i hi
  exact ⟨⟨by rw [e _ _ (by omega)]; exact a1, fun k k0 k1 => by rw [e _ _ (by omega)]; exact a2 k k0 k1⟩, ⟨by rw [e _ _ (by omega)]; exact a3, by rw [e _ _ (by omega)]; exact a4⟩, by rw [e _ _ (by omega)]; exact a5, fun k k0 k1 => by rw [e _ _ (by omega)]; exact a6 k k0 k1⟩
theorem RE_E {S : ms} {sh : Nat} (h : RE S sh) (hm : RM S sh) : ∃ (n : Nat) (E : Nat → En), n ≤ 16 ∧ (∀ e : Nat, e < n → EnOk (E e)) ∧ ShC S sh n E ∧ ShN S n E := by
  obtain ⟨h1, h2, h3, h4, h5⟩ := h
  refine ⟨(S.1 sh 4).toNat, fun e => (S.1 (sh + 11 + 4 * e) 1, fun k => S.1 (sh + 11 + 4 * e + 1) k, S.1 (sh + 3) e, S.1 (sh + 4) e, S.1 (sh + 13 + 4 * e) 1, fun k => S.1 (sh + 13 + 4 * e + 1) k), by omega, fun e he => ?_, ⟨by omega, fun e he => ⟨⟨rfl, fun _ _ _ => rfl⟩, ⟨rfl, rfl⟩, rfl, fun _ _ _ => rfl⟩⟩, by omega, fun e he => ?_⟩
  · obtain ⟨⟨a1, a2, a3⟩, ⟨a4, a5⟩, a6, a7, a8⟩ := h5 e (by omega)
    obtain ⟨m1, m2⟩ := hm e (by omega)
    exact ⟨⟨a1, fun k k0 k1 => (a3 k k0 k1).1⟩, a6, fun k k0 k1 => (a8 k k0 k1).1, m1, m2⟩
  · obtain ⟨⟨a1, a2, a3⟩, ⟨a4, a5⟩, a6, a7, a8⟩ := h5 e (by omega)
    exact ⟨⟨a2, fun k k0 k1 => (a3 k k0 k1).2⟩, ⟨a4, a5⟩, a7, fun k k0 k1 => (a8 k k0 k1).2⟩
/-- folds: all entries; and as long as there is room -/
def gAll (G : Nat → Wt → Wt) : Nat → Nat → Wt → Wt
  | 0, _, w => w
  | d + 1, i, w => gAll G d (i + 1) (G i w)
def gStp (G : Nat → Wt → Wt) : Nat → Nat → Wt → Wt
  | 0, _, w => w
  | d + 1, i, w => if 12000 < w.1 then w else gStp G d (i + 1) (G i w)
theorem gAll_s (G : Nat → Wt → Wt) (d i : Nat) (w : Wt) : gAll G (d + 1) i w = gAll G d (i + 1) (G i w) := rfl
theorem gStp_s (G : Nat → Wt → Wt) (d i : Nat) (w : Wt) : gStp G (d + 1) i w = if 12000 < w.1 then w else gStp G d (i + 1) (G i w) := rfl
def GOk (G : Nat → Wt → Wt) (n : Nat) : Prop := ∀ (i : Nat) (w : Wt), i < n → (w.1 ≤ (G i w).1 ∧ (G i w).1 ≤ w.1 + 20000) ∧ (wtO w → wtO (G i w))
theorem gAll_r {G : Nat → Wt → Wt} (hG : GOk G n) : ∀ (d i : Nat) (w : Wt), i + d = n → (w.1 ≤ (gAll G d i w).1 ∧ (gAll G d i w).1 ≤ w.1 + 20000 * d) ∧ (wtO w → wtO (gAll G d i w))
  | 0, i, w, _ => ⟨⟨Int.le_refl _, by show w.1 ≤ w.1 + 20000 * ((0 : Nat) : Int); omega⟩, fun h => h⟩
  | d + 1, i, w, h => by
    have a := hG i w (by omega)
    have b := gAll_r hG d (i + 1) (G i w) (by omega)
    rw [gAll_s]
    exact ⟨by omega, fun y => b.2 (a.2 y)⟩
theorem gStp_r {G : Nat → Wt → Wt} (hG : GOk G n) : ∀ (d i : Nat) (w : Wt), i + d = n → (w.1 ≤ (gStp G d i w).1 ∧ (gStp G d i w).1 ≤ w.1 + 20000 * d) ∧ (wtO w → wtO (gStp G d i w))
  | 0, i, w, _ => ⟨⟨Int.le_refl _, by show w.1 ≤ w.1 + 20000 * ((0 : Nat) : Int); omega⟩, fun h => h⟩
  | d + 1, i, w, h => by
    have a := hG i w (by omega)
    have b := gStp_r hG d (i + 1) (G i w) (by omega)
    rw [gStp_s]
    by_cases c : 12000 < w.1
    · rw [if_pos c]
      exact ⟨by omega, fun y => y⟩
    · rw [if_neg c]
      exact ⟨by omega, fun y => b.2 (a.2 y)⟩
theorem g_eq {G : Nat → Wt → Wt} (hG : GOk G n) : ∀ (d i : Nat) (w : Wt), i + d = n → gStp G d i w = gAll G d i w ∨ (12000 < (gStp G d i w).1 ∧ 12000 < (gAll G d i w).1)
  | 0, i, w, _ => Or.inl rfl
  | d + 1, i, w, h => by
    have b := gAll_r hG (d + 1) i w h
    rw [gStp_s]
    by_cases c : 12000 < w.1
    · rw [if_pos c]
      exact Or.inr ⟨c, by omega⟩
    · rw [if_neg c, gAll_s]
      exact g_eq hG d (i + 1) (G i w) (by omega)
/-- a TAPE's entry -/
def tpG (E : En) (w : Wt) : Wt := wtPuts (fun _ => 0) ((512 - E.2.2.2.2.1 % 512) % 512).toNat (wtPuts (fun k => E.2.2.2.2.2 k) E.2.2.2.2.1.toNat (wtPuts (fun k => tpB (fun j => E.2.1 j) E.1.toNat E.2.2.1 E.2.2.2.2.1 E.2.2.2.1 k) 512 w))
theorem tpG_1 {E : En} (h : EnOk E) (w : Wt) : (tpG E w).1 = w.1 + 512 + E.2.2.2.2.1 + (512 - E.2.2.2.2.1 % 512) % 512 := by
  have s := h.2.1
  unfold tpG
  rw [wtPuts_1, wtPuts_1, wtPuts_1]
  omega
theorem tpG_ok (hE : ∀ e : Nat, e < n → EnOk (E e)) : GOk (fun e => tpG (E e)) n := fun i w hi => by
  have a := tpG_1 (hE i hi) w
  have s := (hE i hi).2.1
  refine ⟨?_, fun h => wtO_puts _ (wtO_puts _ (wtO_puts _ h _) _) _⟩
  show w.1 ≤ (tpG (E i) w).1 ∧ (tpG (E i) w).1 ≤ w.1 + 20000
  omega
theorem tpB_r {g : Nat → Int} {nn : Nat} {md sz tm : Int} (hg : ∀ k : Nat, k < nn → 0 ≤ g k ∧ g k < 256) (k : Int) : 0 ≤ tpB g nn md sz tm k ∧ tpB g nn md sz tm k < 256 := by
  have eg : ∀ (v : Int) (n k : Nat), 0 ≤ egF v n k ∧ egF v n k < 256 := fun v n k => by have := egF_r v n k; omega
  unfold tpB
  exact cW_r (fun _ _ => by decide) (cW_r (fun k _ => eg _ _ k) (tpA_r hg)) k
def Xtp (sh o : Nat) (a : Nat) (k : Int) : Prop := a = sh + 7 ∨ XRo o a k
theorem cl_tpE {A : ms} {sh o e : Nat} {w : Wt} (hs : isSh sh) (ho : isRow o 12000) (o3 : 342 < o) (hn : n ≤ 16) (he : e < n) (hok : EnOk (E e)) (hC : ShC A sh n E) (hw : 0 ≤ w.1) (h : CWt A o 12000 w) : ∃ A', EX (Xtp sh o) A A' ∧ CWt A' o 12000 (tpG (E e) w) ∧ ∀ (R : Option Value) (S' : ms), EV q 183 2 [some (.ref sh), some (.ref o), some (vI ((e : Int) + 1))] [] A' R S' → EV q 183 2 [some (.ref sh), some (.ref o), some (vI e)] [] A R S' := by
  have is := isSh_is hs
  have hsr : sh = 193 ∨ sh = 268 := hs
  obtain ⟨r1, r2, r3, r4⟩ := sh_nm hs (show e < 16 by omega)
  have ee : Unit → w32 (e : Int) = e := fun _ => w32_of (by omega)
  have r3' : sh_r (SH (sh + 2)).2.2 (w32 (e : Int)).toNat = some (sh + 13 + 4 * e) := by rw [ee ()]; exact r3
  have s7 : SH (sh + 7) = (0, 512, []) := is.2.2.2.2.2.2.2.1
  obtain ⟨⟨c1, c2⟩, ⟨c3, c4⟩, c5, c6⟩ := hC.2 e he
  obtain ⟨⟨n1, n2⟩, s1, s2, m1, t1⟩ := hok
  have hg : ∀ k : Nat, k < (E e).1.toNat → 0 ≤ (E e).2.1 k ∧ (E e).2.1 k < 256 := fun k hk => by have := n2 k (by omega) (by omega); omega
  obtain ⟨A1, a1, a2, a3⟩ := cl_card (q := q) (A := A) (sh := sh) (e := e) (nn := (E e).1.toNat) (g := fun j => (E e).2.1 j) (md := (E e).2.2.1) (sz := (E e).2.2.2.2.1) (tm := (E e).2.2.2.1) hs (by omega) (by omega) hg ⟨by omega, by omega, by omega⟩ (by rw [c1]; omega) (fun k hk => c2 k (by omega) (by omega)) c3 c4 c5
  have h1 : CWt A1 o 12000 w := CWt_cg h (fun a k y => a1.2 a k (by unfold XRo at y; omega))
  obtain ⟨A2, b1, b2, b3⟩ := cw_span (q := q) (a1 := sh + 7) (n1 := 512) (b := 0) (n := 512) (g := fun k => tpB (fun j => (E e).2.1 j) (E e).1.toNat (E e).2.2.1 (E e).2.2.2.2.1 (E e).2.2.2.1 k) s7 (by decide) (by decide) (fun k hk => ⟨tpB_r hg k, by rw [show ((0 : Nat) : Int) + (k : Int) = k by omega]; exact a2 k (by omega) (by omega)⟩) ho (by decide) hw h1
  have x2 : EX (Xtp sh o) A A2 := (a1.mono (fun a k y => Or.inl y)).trans (b2.mono (fun a k y => Or.inr y))
  have at2 : ∀ (a : Nat) (k : Int), sh + 11 ≤ a → a < 343 → A2.1 a k = A.1 a k := fun a k y1 y2 => x2.2 a k (by unfold Xtp XRo; omega)
  obtain ⟨A3, d1, d2, d3⟩ := cw_span (q := q) (A := A2) (a1 := sh + 13 + 4 * e + 1) (n1 := 6000) (b := 0) (n := (E e).2.2.2.2.1.toNat) (g := fun k => (E e).2.2.2.2.2 k) r4.2 (by omega) (by decide) (fun k hk => ⟨s2 k (by omega) (by omega), by rw [show ((0 : Nat) : Int) + (k : Int) = k by omega, at2 _ _ (by omega) (by omega)]; exact c6 k (by omega) (by omega)⟩) ho (by decide) (by rw [wtPuts_1]; omega) b3
  obtain ⟨pd, epd⟩ : ∃ pd : Nat, pd = ((512 - (E e).2.2.2.2.1 % 512) % 512).toNat := ⟨_, rfl⟩
  obtain ⟨A4, f1, f2, f3⟩ := cl_blks (q := q) (n := pd) ho (by rw [wtPuts_1, wtPuts_1]; omega) (by omega) pd 0 A3 (by omega) d3
  refine ⟨A4, (x2.trans (d2.mono (fun a k y => Or.inr y))).trans (f1.mono (fun a k y => Or.inr y)), ?_, fun R S' kk => ?_⟩
  · unfold tpG
    rw [← epd]
    exact f2
  · have e5 : A2.1 (sh + 13 + 4 * e) 1 = (E e).2.2.2.2.1 := by rw [at2 _ _ (by omega) (by omega)]; exact c5
    have e6 : A3.1 (sh + 13 + 4 * e) 1 = (E e).2.2.2.2.1 := by rw [d2.2 _ _ (by unfold XRo; omega)]; exact e5
    refine vc_Shelf_writeTape_2 _ _ is _ _ ho ?_
    rw [hC.1, ee (), show w32 (n : Int) = n from w32_of (by omega)]
    refine cNo (by omega) ⟨A1, a3, A2, b1, by omega, sh + 13 + 4 * e, 6000, by rw [show ((e : Int)).toNat = e by omega]; exact r3, r4, by omega, sh + 13 + 4 * e, 6000, by rw [show ((e : Int)).toNat = e by omega]; exact r3, r4, A3, ?_, by omega, sh + 13 + 4 * e, 6000, by rw [show ((e : Int)).toNat = e by omega]; exact r3, r4, A4, ?_, kk⟩
    · rw [e5]
      rw [show ((0 : Nat) : Int) + (((E e).2.2.2.2.1.toNat : Nat) : Int) = (E e).2.2.2.2.1 by omega] at d1
      exact d1
    · have w5 : w32 512 = 512 := by decide
      rw [e6, w5, w32_of (x := (E e).2.2.2.2.1) (by omega), show Int.tmod (E e).2.2.2.2.1 512 = (E e).2.2.2.2.1 % 512 from Int.tmod_eq_emod_of_nonneg (by omega), w32_of (x := 512 - (E e).2.2.2.2.1 % 512) (by omega), Int.tmod_eq_emod_of_nonneg (by omega), show (512 - (E e).2.2.2.2.1 % 512) % 512 = ((pd : Nat) : Int) by omega]
      exact vc_Shelf_blanks _ _ _ ho f3
theorem md_tpE {B : ms} {e : Nat} {w : Wt} (hn : n ≤ 16) (he : e < n) (hok : EnOk (E e)) (hC : ShN B n E) (hw : 0 ≤ w.1 ∧ w.1 ≤ 12000) (h5 : w.1 % 512 = 0) (h : MWt B w) : ∃ B', EX XW B B' ∧ MWt B' (tpG (E e) w) ∧ ∀ (R : Option Value) (S' : ms), EV q 382 2 [some (.ref 367), some (vI ((e : Int) + 1))] [] B' R S' → EV q 382 2 [some (.ref 367), some (vI e)] [] B R S' := by
  have ee : Unit → w32 (e : Int) = e := fun _ => w32_of (by omega)
  obtain ⟨⟨c1, c2⟩, ⟨c3, c4⟩, c5, c6⟩ := hC.2 e he
  obtain ⟨⟨n1, n2⟩, s1, s2, m1, t1⟩ := hok
  have hg : ∀ k : Nat, k < (E e).1.toNat → 0 ≤ (E e).2.1 k ∧ (E e).2.1 k < 256 := fun k hk => by have := n2 k (by omega) (by omega); omega
  obtain ⟨B1, a1, a2, a3⟩ := md_card (q := q) (B := B) (e := e) (nn := (E e).1.toNat) (g := fun j => (E e).2.1 j) (md := (E e).2.2.1) (sz := (E e).2.2.2.2.1) (tm := (E e).2.2.2.1) (w := w) (by omega) (by omega) hg ⟨by omega, by omega, by omega⟩ hw (by rw [c1]; omega) (fun k hk => c2 k (by omega) (by omega)) c3 c4 c5 h
  have at1 : ∀ (a : Nat) (k : Int), 419 ≤ a → B1.1 a k = B.1 a k := fun a k y => a1.2 a k (by unfold XW; omega)
  obtain ⟨B2, b1, b2, b3⟩ := md_txO (q := q) (g := fun k => (E e).2.2.2.2.2 k) (e := e) (n := (E e).2.2.2.2.1.toNat) (w := wtPuts (fun k => tpB (fun j => (E e).2.1 j) (E e).1.toNat (E e).2.2.1 (E e).2.2.2.2.1 (E e).2.2.2.1 k) 512 w) (by rw [wtPuts_1]; omega) (by omega) (by omega) (E e).2.2.2.2.1.toNat 0 B1 (by omega) (by rw [at1 _ _ (by omega), c5]; omega) (fun k hk => by rw [at1 _ _ (by omega)]; exact c6 k (by omega) (by omega)) a2
  obtain ⟨pd, epd⟩ : ∃ pd : Nat, pd = ((512 - (E e).2.2.2.2.1 % 512) % 512).toNat := ⟨_, rfl⟩
  obtain ⟨B3, d1, d2, d3⟩ := md_fillT (q := q) (v := 0) (n := pd) (w := wtPuts (fun k => (E e).2.2.2.2.2 k) (E e).2.2.2.2.1.toNat (wtPuts (fun k => tpB (fun j => (E e).2.1 j) (E e).1.toNat (E e).2.2.1 (E e).2.2.2.2.1 (E e).2.2.2.1 k) 512 w)) (by rw [wtPuts_1, wtPuts_1]; omega) (by omega) pd 0 B2 (by omega) b2
  have e9 : B2.1 367 9 = w.1 + 512 + (E e).2.2.2.2.1 := by
    have := b2.1
    rw [wtPuts_1, wtPuts_1] at this
    omega
  refine ⟨B3, (a1.trans b1).trans d1, ?_, fun R S' kk => vc_MD_writeTape_2 _ ?_⟩
  · unfold tpG
    rw [← epd]
    exact d2
  · rw [hC.1, ee (), show w32 (n : Int) = n from w32_of (by omega), h.1, w32_of (x := w.1) (by omega)]
    refine cNo (by omega) (cNo (by omega) ⟨B1, a3, B2, vc_MD_textOf _ b3, B3, ?_, kk⟩)
    rw [wtPuts_1, wtPuts_1] at d3
    rw [e9, show w32 512 = 512 by decide, w32_of (x := w.1 + 512 + (E e).2.2.2.2.1 + 511) (by omega), Int.tdiv_eq_ediv_of_nonneg (by omega), show (w.1 + 512 + (E e).2.2.2.2.1 + 511) / 512 * 512 = w.1 + ((512 : Nat) : Int) + (((E e).2.2.2.2.1.toNat : Nat) : Int) + ((pd : Nat) : Int) by omega]
    exact d3
/-- a TAPE whole -/
theorem cl_tape {sh o : Nat} (hs : isSh sh) (ho : isRow o 12000) (o3 : 342 < o) (hn : n ≤ 16) (hE : ∀ e : Nat, e < n → EnOk (E e)) : ∀ (d i : Nat) (A : ms) (w : Wt), i + d = n → 0 ≤ w.1 → ShC A sh n E → CWt A o 12000 w → ∃ A', EX (Xtp sh o) A A' ∧ CWt A' o 12000 (wtPuts (fun _ => 0) 1024 (gAll (fun e => tpG (E e)) d i w)) ∧ EV q 183 2 [some (.ref sh), some (.ref o), some (vI i)] [] A none A' := by
  have is := isSh_is hs
  have hsr : sh = 193 ∨ sh = 268 := hs
  intro d
  induction d with
  | zero =>
    intro i A w hi hw hC h
    obtain ⟨A', f1, f2, f3⟩ := cl_blks (q := q) (n := 1024) ho hw (by decide) 1024 0 A (by decide) h
    refine ⟨A', f1.mono (fun a k y => Or.inr y), f2, vc_Shelf_writeTape_2 _ _ is _ _ ho ?_⟩
    rw [hC.1, show i = n by omega]
    exact cY (Int.le_refl _) ⟨A', vc_Shelf_blanks _ _ _ ho f3, rfl, rfl⟩
  | succ d ih =>
    intro i A w hi hw hC h
    obtain ⟨A1, a1, a2, a3⟩ := cl_tpE (q := q) hs ho o3 hn (show i < n by omega) (hE i (by omega)) hC hw h
    have g1 := (tpG_ok hE i w (by omega)).1
    obtain ⟨A', b1, b2, b3⟩ := ih (i + 1) A1 (tpG (E i) w) (by omega) (by have : w.1 ≤ (tpG (E i) w).1 := g1.1; omega) (ShC_k hn hC (fun a k y => a1.2 a k (by unfold Xtp XRo; omega))) a2
    rw [show ((i + 1 : Nat) : Int) = (i : Int) + 1 by omega] at b3
    exact ⟨A', a1.trans b1, b2, a3 _ _ b3⟩
theorem md_tape (hn : n ≤ 16) (hE : ∀ e : Nat, e < n → EnOk (E e)) : ∀ (d i : Nat) (B : ms) (w : Wt), i + d = n → (0 ≤ w.1 ∧ w.1 < 100000) → w.1 % 512 = 0 → ShN B n E → MWt B w → ∃ B', EX XW B B' ∧ MWt B' (wtPuts (fun _ => 0) 1024 (gStp (fun e => tpG (E e)) d i w)) ∧ EV q 382 2 [some (.ref 367), some (vI i)] [] B (some (vI 1)) B' := by
  have fin : ∀ (i : Nat) (B : ms) (w : Wt), (0 ≤ w.1 ∧ w.1 < 100000) → MWt B w → ∃ B', EX XW B B' ∧ MWt B' (wtPuts (fun _ => 0) 1024 w) ∧ EV q 382 57 [some (.ref 367), some (vI i)] [] B (some (vI 1)) B' := fun i B w hw h => by
    obtain ⟨B', f1, f2, f3⟩ := md_fillT (q := q) (v := 0) (n := 1024) (w := w) (by omega) (by decide) 1024 0 B (by decide) h
    refine ⟨B', f1, f2, vc_MD_writeTape_57 _ ⟨B', ?_, rfl, rfl⟩⟩
    rw [h.1]
    exact f3
  intro d
  induction d with
  | zero =>
    intro i B w hi hw h5 hC h
    obtain ⟨B', f1, f2, f3⟩ := fin i B w hw h
    refine ⟨B', f1, f2, vc_MD_writeTape_2 _ ?_⟩
    rw [hC.1, show i = n by omega]
    rw [show i = n by omega] at f3
    exact cY (Int.le_refl _) f3
  | succ d ih =>
    intro i B w hi hw h5 hC h
    by_cases c : 12000 < w.1
    · obtain ⟨B', f1, f2, f3⟩ := fin i B w hw h
      refine ⟨B', f1, by rw [gStp_s, if_pos c]; exact f2, vc_MD_writeTape_2 _ ?_⟩
      rw [hC.1, show w32 (n : Int) = n from w32_of (by omega), show w32 (i : Int) = i from w32_of (by omega), h.1, w32_of (x := w.1) (by omega)]
      exact cNo (by omega) (cY c f3)
    · obtain ⟨B1, a1, a2, a3⟩ := md_tpE (q := q) hn (show i < n by omega) (hE i (by omega)) hC ⟨hw.1, by omega⟩ h5 h
      have g1 := tpG_1 (hE i (by omega)) w
      have s1 := (hE i (by omega)).2.1
      obtain ⟨B', b1, b2, b3⟩ := ih (i + 1) B1 (tpG (E i) w) (by omega) (by omega) (by omega) (ShN_k hC (fun a k y => a1.2 a k (by unfold XW; omega))) a2
      rw [show ((i + 1 : Nat) : Int) = (i : Int) + 1 by omega] at b3
      exact ⟨B', a1.trans b1, by rw [gStp_s, if_neg c]; exact b2, a3 _ _ b3⟩
end WrF
