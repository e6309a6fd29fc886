/-! pack: a kind on both sides; RUNS, COPIES -/
section PJp
variable {q : Nat × (Nat → Int32)} {x : Int} {t : Int → Int} {IC : ms → Prop}
def XPa (o a : Nat) (k : Int) : Prop := (a = 10 ∧ (k = 3 ∨ k = 4 ∨ k = 8)) ∨ a = 7 ∨ a = 8 ∨ (11 ≤ a ∧ a ≤ 15) ∨ (19 ≤ a ∧ a ≤ 28) ∨ a = 30 ∨ (53 ≤ a ∧ a ≤ 91) ∨ (94 ≤ a ∧ a ≤ 172) ∨ XRb o a k
def XPb (a : Nat) (k : Int) : Prop := (a = 367 ∧ ((9 ≤ k ∧ k ≤ 12) ∨ (26 ≤ k ∧ k ≤ 29) ∨ k = 45 ∨ (55 ≤ k ∧ k ≤ 59) ∨ k = 66 ∨ k = 72)) ∨ a = 374 ∨ (376 ≤ a ∧ a ≤ 415)
def w00 : Wt := (0, fun _ => 0)
theorem w00_O : wtO w00 := fun k => by show (0 : Int) ≤ 0 ∧ (0 : Int) < 256; decide
/-- does the kind tell tokens -/
def tkK (kd lv : Int) : Prop := (3 ≤ kd ∧ kd ≤ 5 ∧ 0 < lv) ∨ (6 ≤ kd ∧ kd ≤ 8)
def JP (q : Nat × (Nat → Int32)) (IC : ms → Prop) (kd lv x : Int) (t : Int → Int) : Prop := ∃ (w : Wt) (T : Int → Int × Int × Int) (K bits : Int), (((0 ≤ w.1 ∧ w.1 < 1000000) ∧ wtO w) ∧ (0 ≤ K ∧ K ≤ 6000) ∧ (¬ tkK kd lv → K = 0) ∧ (¬ (3 ≤ kd ∧ kd ≤ 5) → bits = 0)) ∧ (∀ (A : ms) (o : Nat), isRow o 12000 → 300 < o → IC A → TXc A x t → CBt A o 12000 (w00, 0) → A.1 10 8 = 0 → ∃ (A' : ms) (c : Nat) (z : Int), (w.1 ≤ 12000 → z = bits) ∧ EY (XPa o) (wR A 10 2 c) A' ∧ CWt A' o 12000 w ∧ CTk A' T K ∧ EV q 45 0 [some (.ref 0), some (vI kd), some (vI lv), some (.ref o), none] [] A (some (vI z)) A') ∧ ∀ B : ms, RQ B → TbK B → TXm B x t → MBt B 0 (w00, 0) → ∃ B' : ms, EY XPb B B' ∧ TbK B' ∧ MWt B' w ∧ (tkK kd lv → MTk B' T K) ∧ (3 ≤ kd ∧ kd ≤ 5 → B'.1 367 56 = bits) ∧ EV q 279 0 [some (.ref 367), some (vI kd), some (vI lv)] [] B none B'
theorem wR_id (A : ms) (a : Nat) (k : Int) : wR A a k (A.2.2 a k) = A := by
  show (A.1, A.2.1, fun b j => if b = a ∧ j = k then A.2.2 a k else A.2.2 b j) = A
  obtain ⟨a1, a2, a3⟩ := A
  refine congrArg (fun z => (a1, a2, z)) ?_
  funext b j
  by_cases c : b = a ∧ j = k
  · rw [if_pos c, c.1, c.2]
  · rw [if_neg c]
theorem jp_runs (hx : 0 ≤ x ∧ x ≤ 6000) (ht : ∀ k : Int, 0 ≤ k → k < x → 0 ≤ t k ∧ t k < 256) : JP q IC 1 0 x t := by
  obtain ⟨w, h1, h2, h3⟩ := jpRuns (q := q) hx ht x.toNat 0 w00 (by omega) (by omega) hx.1 (by decide) w00_O
  refine ⟨w, fun _ => (0, 0, 0), 0, 0, ⟨⟨by omega, h1.2⟩, by decide, fun _ => rfl, fun _ => rfl⟩, fun A o ho o3 _ hA h h8 => ?_, fun B _ hK hB h => ?_⟩
  · obtain ⟨A', k1, k2, k3⟩ := h2 A o 0 ho o3 hA (by decide) (by decide) h.1
    refine ⟨A', A.2.2 10 2, 0, fun _ => rfl, by rw [wR_id]; exact (EX.mono k1 (fun a k y => by unfold XRo at y; unfold XPa XRb; omega)).ey, k2, ⟨by rw [k1.2 10 8 (by unfold XRo; omega)]; exact h8, fun k k0 k1 => absurd k0 (by omega)⟩, vc_PH_packKind _ _ _ _ ho ⟨fun _ => ⟨A', vc_Plain_packRuns 1 6000 tr_row _ _ ho k3, rfl, rfl⟩, fun c => absurd c (by decide), fun c => absurd c (by decide), fun c => absurd c (by decide), fun c => absurd c (by decide), fun c => absurd c (by decide), fun c => absurd c (by decide), fun c => absurd c (by decide), fun c => absurd c (by decide), fun c => absurd (by decide) c⟩⟩
  · obtain ⟨B', k1, k2, k3⟩ := h3 B hB h.1
    have e : EY XPb B B' := (EX.mono k1 (fun a k y => by unfold XW at y; unfold XPb; omega)).ey
    refine ⟨B', e, TbK_ey hK k1.ey (fun a k y => by unfold XW at y; omega), k2, fun c => absurd c (by unfold tkK; decide), fun c => absurd c (by decide), vc_MD_packAs _ _ ⟨fun _ => ⟨B', vc_MD_packRuns k3, rfl, rfl⟩, fun c => absurd c (by decide), fun c => absurd c (by decide), fun c => absurd c (by decide), fun c => absurd c (by decide), fun c => absurd c (by decide), fun c => absurd c (by decide), fun c => absurd c (by decide), fun c => absurd c (by decide), fun c => absurd (by decide) c⟩⟩
/-- greedy, from its beginning -/
theorem cl_greedy0 {least most cut : Int} {n0 d0 : Int → Int} {P : Nat → Int} {K : Nat} {A : ms} (hx : 0 ≤ x ∧ x ≤ 6000) (hl : 3 ≤ least ∧ least ≤ 100) (hm : 1 ≤ most ∧ most ≤ 6000) (hc : 0 ≤ cut ∧ cut ≤ 2) (hL : ∀ p : Int, 0 ≤ p → p < x → LM t p (min most (x - p)) (n0 p) (d0 p)) (hP : GP x (grS least cut x n0) (grG least cut x n0 d0) P K) (hA : TXc A x t) : ∃ A', EX (fun a k => XTc a k ∨ X4 a k ∨ XFu a k) (wR A 10 2 2) A' ∧ CTk A' (tkF (grS least cut x n0) (grG least cut x n0 d0) P) K ∧ EV q 58 0 [some (.ref 10), some (.ref 1), some (vI least), some (vI most), some (vI cut), none, none, none] [] A none A' := by
  obtain ⟨A1, k1, k2, k3, k4⟩ := cl_chain (q := q) (A := A) (a1 := 1) (N := 6000) tr_row (by omega) (by omega) hx hA.1 hA.2
  obtain ⟨A', g1, g2, g3, g4⟩ := cl_greedy (q := q) tr_row hx hl hm hc hL hP K 0 A1 (by omega) k4 ⟨k3, fun k k0 k1 => absurd k1 (by omega)⟩
  rw [hP.1] at g4
  exact ⟨A', (EX.mono k2 (fun a k y => Or.inr (Or.inr y))).trans (EX.mono g1 (fun a k y => y.imp id Or.inl)), g3, vc_Finder_greedy _ _ _ 1 6000 tr_row ⟨A1, k1, g4⟩⟩
theorem jp_copies (hx : 0 ≤ x ∧ x ≤ 6000) (ht : ∀ k : Int, 0 ≤ k → k < x → 0 ≤ t k ∧ t k < 256) : JP q IC 8 0 x t := by
  obtain ⟨n0, d0, hL, hM⟩ := jLMs (q := q) (most := 64) (reach := 65535) hx ht (by decide) (by decide)
  have gr := gr_rg (cut := 0) (least := 4) hx (by decide) hL
  obtain ⟨P, K, hP⟩ := GP_ex (x := x) (grS 4 0 x n0) (grG 4 0 x n0 d0) hx.1 (fun p p0 p1 => (gr p p0 p1).1)
  have le := GP_le hP (fun p p0 p1 => (gr p p0 p1).1)
  have leK := le K (Nat.le_refl _)
  have s1 := wtSev_1 4 x w00
  have s2 := wtO_sev 4 x w00_O
  obtain ⟨ws, ews⟩ : ∃ ws, ws = wtSev 4 x w00 := ⟨_, rfl⟩
  rw [← ews] at s1 s2
  have s3 : 0 < ws.1 ∧ ws.1 ≤ 5 := s1
  have rg := enF_rg (f := cpW t) (s := (0, ws)) hx cpW_g hP (fun p p0 p1 => (gr p p0 p1).1) ⟨rfl, s2⟩ K (Nat.le_refl _)
  obtain ⟨e, ee⟩ : ∃ e, e = enF (cpW t) (grS 4 0 x n0) (grG 4 0 x n0 d0) P (0, ws) K := ⟨_, rfl⟩
  rw [← ee] at rg
  have rg2 : ws.1 ≤ e.2.1 ∧ e.2.1 ≤ ws.1 + e.1 + 100 * K := rg.2.1
  have lw := ltW_r (t := t) (a := e.1) (n := x - e.1) (w := e.2) (by omega) rg.2.2
  refine ⟨ltW t e.1 (x - e.1) e.2, tkF (grS 4 0 x n0) (grG 4 0 x n0 d0) P, K, 0, ⟨⟨by omega, lw.2⟩, by omega, fun c => absurd (Or.inr (by decide)) c, fun _ => rfl⟩, fun A o ho o3 _ hA h h8 => ?_, fun B _ hK hB h => ?_⟩
  · obtain ⟨A1, k1, k2, k3⟩ := cw_sev (q := q) (v := x) (by omega) ho (by decide) (by decide) h.1
    rw [← ews] at k3
    have hA1 := TXc_x o3 hA k2
    obtain ⟨A2, j1, j2, j3⟩ := cl_greedy0 (q := q) (least := 4) (most := 64) (cut := 0) hx (by decide) (by decide) (by decide) hL hP hA1
    have j1' : ∀ (a : Nat) (k : Int), ¬ (XTc a k ∨ X4 a k ∨ XFu a k) → A2.1 a k = A1.1 a k := fun a k y => j1.2 a k y
    have hA2 : TXc A2 x t := TXc_e hA1 (fun a k y => j1' a k (by unfold XTc X4 XFu; omega))
    have h2 : CWt A2 o 12000 ws := CWt_cg k3 (fun a k y => j1' a k (by unfold XRo at y; unfold XTc X4 XFu; omega))
    obtain ⟨A', l1, l2, l3⟩ := cl_copies (q := q) (s := (0, ws)) ho (Or.inr o3) hx hP (fun p p0 p1 => ⟨(gr p p0 p1).1, (gr p p0 p1).2.1.2⟩) ⟨rfl, s2⟩ (by show 0 ≤ ws.1; omega) K 0 A2 (by omega) hA2 j2 h2
    rw [← ee] at l2
    refine ⟨A', 2, 0, fun _ => rfl, ?_, l2, CTk_o (Or.inr o3) j2 l1, vc_PH_packKind _ _ _ _ ho ⟨fun c => absurd c (by decide), fun c => absurd c (by decide), fun c => absurd c (by decide), fun c => absurd c (by decide), fun c => absurd c (by decide), fun c => absurd c (by decide), fun c => absurd c (by decide), fun _ => ⟨A', vc_Copies_packCopies 1 6000 tr_row _ _ ho ⟨A1, by rw [hA.1]; exact k1, A2, j3, l3⟩, rfl, rfl⟩, fun c => absurd c (by decide), fun _ _ _ _ _ _ _ c => absurd (by decide) c⟩⟩
    refine ⟨?_, fun a k y => ?_⟩
    · rw [l1.1, j1.1]
      show (wR A1 10 2 2).2.2 = _
      show (fun b j => if b = 10 ∧ j = 2 then 2 else A1.2.2 b j) = fun b j => if b = 10 ∧ j = 2 then 2 else A.2.2 b j
      rw [k2.1]
    · unfold XPa XRb at y
      rw [l1.2 a k (by unfold XRo; omega), j1' a k (by unfold XTc X4 XFu; omega), k2.2 a k (by unfold XRo; omega)]
      rfl
  · have x1 : EX XPm B (wI B 367 29 0) := (EX.refl _ B).wr (by unfold XPm XTm; omega)
    have hB1 : TXm (wI B 367 29 0) x t := TXm_e hB (fun a k y => wI_no _ (by omega))
    have h1 : MWt (wI B 367 29 0) w00 := MWt_cg h.1 (fun a k y => wI_no _ (by unfold XW at y; omega))
    obtain ⟨B2, k1, k2, k3⟩ := mw_sev (q := q) (v := x) (by omega) (by decide) h1
    rw [← ews] at k3
    have hB2 := TXm_x hB1 k2
    obtain ⟨B', g1, g2, g3, g4⟩ := md_copies (q := q) (s := (0, ws)) hx hL hM hP ⟨rfl, s2⟩ (by show 0 ≤ ws.1 ∧ ws.1 < 1000; omega) K 0 B2 (by omega) hB2 ⟨by rw [k2.2 367 29 (by unfold XW; omega), wI_at]; rfl, fun k k0 k1 => absurd k1 (by omega)⟩ k3
    rw [← ee] at g3
    have x2 : EX XPm B B' := (x1.trans (EX.mono k2 (fun a k y => Or.inl y))).trans g1
    have e : EY XPb B B' := (EX.mono x2 (fun a k y => by unfold XPm XW XTm XLo at y; unfold XPb; omega)).ey
    rw [hP.1] at g4
    refine ⟨B', e, TbK_ey hK x2.ey (fun a k y => by unfold XPm XW XTm XLo at y; omega), g3, fun _ => g2, fun c => absurd c (by decide), vc_MD_packAs _ _ ⟨fun c => absurd c (by decide), fun c => absurd c (by decide), fun c => absurd c (by decide), fun c => absurd c (by decide), fun c => absurd c (by decide), fun c => absurd c (by decide), fun c => absurd c (by decide), fun _ => ⟨B', vc_MD_packCopies (fun S1 f1 => ?_), rfl, rfl⟩, fun c => absurd c (by decide), fun _ _ _ _ _ _ _ c => absurd (by decide) c⟩⟩
    subst f1
    refine ⟨B2, ?_, g4⟩
    rw [hB1.1, w32_of (x := x) (by omega)]
    exact k1
end PJp
