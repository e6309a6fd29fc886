/-! pack: FAST as a whole; what is written does not depend on where it begins -/
section PFrame
variable {q : Nat × (Nat → Int32)} {x : Int} {t : Int → Int} {IC : ms → Prop}
/-- w is w0 and then v -/
def Rl (w0 w v : Wt) : Prop := (w.1 = w0.1 + v.1 ∧ 0 ≤ v.1) ∧ (∀ k : Int, 0 ≤ k → k < v.1 → w.2 (w0.1 + k) = v.2 k) ∧ ∀ k : Int, k < w0.1 → w.2 k = w0.2 k
theorem Rl_0 (w0 : Wt) : Rl w0 w0 w00 := ⟨⟨by show w0.1 = w0.1 + 0; omega, by decide⟩, fun k k0 k1 => absurd k1 (by show ¬ k < 0; omega), fun _ _ => rfl⟩
theorem Rl_put (c : Int) {w0 w v : Wt} (h : Rl w0 w v) : Rl w0 (wtPut c w) (wtPut c v) := by
  obtain ⟨⟨h1, h2⟩, h3, h4⟩ := h
  refine ⟨⟨by rw [wtPut_1, wtPut_1]; omega, by rw [wtPut_1]; omega⟩, fun k k0 k1 => ?_, fun k k1 => ?_⟩
  · rw [wtPut_1] at k1
    show (if w0.1 + k = w.1 then c % 256 else w.2 (w0.1 + k)) = if k = v.1 then c % 256 else v.2 k
    by_cases e : k = v.1
    · rw [if_pos (by omega), if_pos e]
    · rw [if_neg (by omega), if_neg e]
      exact h3 k k0 (by omega)
  · show (if k = w.1 then c % 256 else w.2 k) = w0.2 k
    rw [if_neg (by omega)]
    exact h4 k k1
theorem Rl_puts (f : Nat → Int) {w0 w v : Wt} (h : Rl w0 w v) : ∀ n : Nat, Rl w0 (wtPuts f n w) (wtPuts f n v)
  | 0 => h
  | n + 1 => by rw [wtPuts_s, wtPuts_s]; exact Rl_put _ (Rl_puts f h n)
theorem Rl_rs : ∀ (n : Nat) (c : Int) {w0 w v : Wt}, Rl w0 w v → Rl w0 (rsW n c w) (rsW n c v)
  | 0, c, w0, w, v, h => Rl_put _ h
  | n + 1, c, w0, w, v, h => by
    rw [rsW_s, rsW_s]
    split
    · exact Rl_put _ h
    · exact Rl_rs n _ (Rl_put _ h)
theorem Rl_mr (c : Int) {w0 w v : Wt} (h : Rl w0 w v) : Rl w0 (mrW c w) (mrW c v) := by
  unfold mrW
  split
  · exact h
  · exact Rl_rs _ _ h
theorem Rl_fl (a n lb : Int) {w0 w v : Wt} (h : Rl w0 w v) : Rl w0 (flW t a n lb w) (flW t a n lb v) := Rl_puts _ (Rl_mr _ (Rl_put _ h)) _
theorem Rl_fs (a p l d : Int) {w0 w v : Wt} (h : Rl w0 w v) : Rl w0 (fsW t a p l d w) (fsW t a p l d v) := Rl_mr _ (Rl_puts _ (Rl_fl _ _ _ h) _)
theorem Rl_en {gs gg : Int → Int} {P : Nat → Int} {w0 : Wt} : ∀ k : Nat, (enF (fsW t) gs gg P (0, w0) k).1 = (enF (fsW t) gs gg P (0, w00) k).1 ∧ Rl w0 (enF (fsW t) gs gg P (0, w0) k).2 (enF (fsW t) gs gg P (0, w00) k).2
  | 0 => ⟨rfl, Rl_0 w0⟩
  | k + 1 => by
    have ih := Rl_en (gs := gs) (gg := gg) (P := P) (w0 := w0) k
    rw [enF_s, enF_s]
    split
    · refine ⟨rfl, ?_⟩
      show Rl w0 (fsW t _ _ _ _ _) (fsW t _ _ _ _ _)
      rw [ih.1]
      exact Rl_fs _ _ _ _ ih.2
    · exact ih
theorem jFst (hx : 0 ≤ x ∧ x ≤ 6000) (ht : ∀ k : Int, 0 ≤ k → k < x → 0 ≤ t k ∧ t k < 256) : ∃ (T : Int → Int × Int × Int) (K : Nat) (F : Wt → Wt), (K : Int) ≤ x ∧ (∀ w : Wt, wtO w → (w.1 ≤ (F w).1 ∧ (F w).1 ≤ w.1 + 700000) ∧ wtO (F w)) ∧ (∀ w : Wt, Rl w (F w) (F w00)) ∧ (∀ (A : ms) (o : Nat) (w : Wt), isRow o 12000 → (o = 7 ∨ 300 < o) → TXc A x t → wtO w → 0 ≤ w.1 → CWt A o 12000 w → ∃ A', EX (fun a k => XTc a k ∨ X4 a k ∨ XFu a k ∨ XRo o a k) (wR A 10 2 2) A' ∧ CWt A' o 12000 (F w) ∧ CTk A' T K ∧ EV q 84 0 [some (.ref 29), some (.ref 1), some (.ref o), none, none, none] [] A none A') ∧ ∀ (B : ms) (w : Wt), TXm B x t → wtO w → (0 ≤ w.1 ∧ w.1 < 1000) → MWt B w → ∃ B', EX XPm B B' ∧ MTk B' T K ∧ MWt B' (F w) ∧ EV q 311 0 [some (.ref 367), none, none, none] [] B none B' := by
  obtain ⟨n0, d0, hL, hM⟩ := jLMs (q := q) (most := 6000) (reach := 65535) hx ht (by decide) (by decide)
  have gr := gr_rg (cut := 2) (least := 4) hx (by decide) hL
  have g2 := grc_2 hL
  obtain ⟨P, K, hP⟩ := GP_ex (x := x) (grS 4 2 x n0) (grG 4 2 x n0 d0) hx.1 (fun p p0 p1 => (gr p p0 p1).1)
  have le := GP_le hP (fun p p0 p1 => (gr p p0 p1).1)
  have leK := le K (Nat.le_refl _)
  have hs4 : ∀ p : Int, 0 ≤ p → p < x → 0 < grG 4 2 x n0 d0 p → 4 ≤ grS 4 2 x n0 p := fun p p0 p1 y => by
    rw [(g2 p p0 p1).1]
    rw [(g2 p p0 p1).2] at y
    by_cases c : 4 ≤ frL x n0 p
    · rw [if_pos c]; exact c
    · rw [if_neg c] at y; omega
  obtain ⟨F, eF⟩ : ∃ F : Wt → Wt, ∀ w : Wt, F w = flW t (enF (fsW t) (grS 4 2 x n0) (grG 4 2 x n0 d0) P (0, w) K).1 (x - (enF (fsW t) (grS 4 2 x n0) (grG 4 2 x n0 d0) P (0, w) K).1) 0 (enF (fsW t) (grS 4 2 x n0) (grG 4 2 x n0 d0) P (0, w) K).2 := ⟨_, fun _ => rfl⟩
  refine ⟨tkF (grS 4 2 x n0) (grG 4 2 x n0 d0) P, K, F, by omega, fun w hw => ?_, fun w => ?_, fun A o w ho hO hA hwO hw h => ?_, fun B w hB hwO hw h => ?_⟩
  · have rg := enF_rg (f := fsW t) (s := (0, w)) hx fsW_g hP (fun p p0 p1 => (gr p p0 p1).1) ⟨rfl, hw⟩ K (Nat.le_refl _)
    rw [hP.2.1] at rg
    have rg2 : w.1 ≤ (enF (fsW t) (grS 4 2 x n0) (grG 4 2 x n0 d0) P (0, w) K).2.1 ∧ (enF (fsW t) (grS 4 2 x n0) (grG 4 2 x n0 d0) P (0, w) K).2.1 ≤ w.1 + (enF (fsW t) (grS 4 2 x n0) (grG 4 2 x n0 d0) P (0, w) K).1 + 100 * K := rg.2.1
    have lw := flW_r (t := t) (a := (enF (fsW t) (grS 4 2 x n0) (grG 4 2 x n0 d0) P (0, w) K).1) (n := x - (enF (fsW t) (grS 4 2 x n0) (grG 4 2 x n0 d0) P (0, w) K).1) 0 (w := (enF (fsW t) (grS 4 2 x n0) (grG 4 2 x n0 d0) P (0, w) K).2) (by omega) rg.2.2
    rw [eF]
    exact ⟨by omega, lw.2⟩
  · have r := Rl_en (t := t) (gs := grS 4 2 x n0) (gg := grG 4 2 x n0 d0) (P := P) (w0 := w) K
    rw [eF, eF, r.1]
    exact Rl_fl _ _ _ r.2
  · obtain ⟨A2, j1, j2, j3⟩ := cl_greedy0 (q := q) (least := 4) (most := 6000) (cut := 2) hx (by decide) (by decide) (by decide) hL hP hA
    have j1' : ∀ (a : Nat) (k : Int), ¬ (XTc a k ∨ X4 a k ∨ XFu a k) → A2.1 a k = A.1 a k := fun a k y => j1.2 a k y
    have hA2 : TXc A2 x t := TXc_e hA (fun a k y => j1' a k (by unfold XTc X4 XFu; omega))
    have h2 : CWt A2 o 12000 w := CWt_cg h (fun a k y => j1' a k (by unfold XRo at y; unfold XTc X4 XFu; omega))
    obtain ⟨A', l1, l2, l3⟩ := cl_fast (q := q) (s := (0, w)) ho hO hx hP (fun p p0 p1 => ⟨(gr p p0 p1).1, (gr p p0 p1).2.1.2⟩) hs4 ⟨rfl, hwO⟩ hw K 0 A2 (by omega) hA2 j2 h2
    exact ⟨A', (EX.mono j1 (fun a k y => by rcases y with y | y | y; exact Or.inl y; exact Or.inr (Or.inl y); exact Or.inr (Or.inr (Or.inl y)))).trans (EX.mono l1 (fun a k y => Or.inr (Or.inr (Or.inr y)))), by rw [eF]; exact l2, CTk_o hO j2 l1, vc_Copies_packFast 1 6000 tr_row _ _ ho ⟨A2, j3, l3⟩⟩
  · have x1 : EX XPm B (wI B 367 29 0) := (EX.refl _ B).wr (by unfold XPm XTm; omega)
    have hB1 : TXm (wI B 367 29 0) x t := TXm_e hB (fun a k y => wI_no _ (by omega))
    have h1 : MWt (wI B 367 29 0) w := MWt_cg h (fun a k y => wI_no _ (by unfold XW at y; omega))
    obtain ⟨B', g1, g2, g3, g4⟩ := md_fast (q := q) (s := (0, w)) hx hL hM hP ⟨rfl, hwO⟩ hw K 0 (wI B 367 29 0) (by omega) hB1 ⟨by rw [wI_at]; rfl, fun k k0 k1 => absurd k1 (by omega)⟩ h1
    rw [hP.1] at g4
    exact ⟨B', x1.trans g1, g2, by rw [eF]; exact g3, vc_MD_packFast (fun S1 f1 => by subst f1; exact g4)⟩
theorem jp_fast (hx : 0 ≤ x ∧ x ≤ 6000) (ht : ∀ k : Int, 0 ≤ k → k < x → 0 ≤ t k ∧ t k < 256) : JP q IC 6 0 x t := by
  obtain ⟨T, K, F, f1, f2, -, f4, f5⟩ := jFst (q := q) hx ht
  have r := f2 w00 w00_O
  have r0 : (0 : Int) ≤ (F w00).1 ∧ (F w00).1 ≤ 0 + 700000 := r.1
  refine ⟨F w00, T, K, 0, ⟨⟨by omega, r.2⟩, by omega, fun c => absurd (Or.inr (by decide)) c, fun _ => rfl⟩, fun A o ho o3 _ hA h h8 => ?_, fun B _ hK hB h => ?_⟩
  · obtain ⟨A', k1, k2, k3, k4⟩ := f4 A o w00 ho (Or.inr o3) hA w00_O (by decide) h.1
    refine ⟨A', 2, 0, fun _ => rfl, (EX.mono k1 (fun a k y => by unfold XTc X4 XFu XRo at y; unfold XPa XRb; omega)).ey, k2, k3, vc_PH_packKind _ _ _ _ ho ⟨fun c => absurd c (by decide), fun c => absurd c (by decide), fun c => absurd c (by decide), fun c => absurd c (by decide), fun c => absurd c (by decide), fun _ => ⟨A', k4, rfl, rfl⟩, fun c => absurd c (by decide), fun c => absurd c (by decide), fun c => absurd c (by decide), fun _ _ _ _ _ c => absurd (by decide) c⟩⟩
  · obtain ⟨B', g1, g2, g3, g4⟩ := f5 B w00 hB w00_O (by decide) h.1
    exact ⟨B', (EX.mono g1 (fun a k y => by unfold XPm XW XTm XLo at y; unfold XPb; omega)).ey, TbK_ey hK g1.ey (fun a k y => by unfold XPm XW XTm XLo at y; omega), g3, fun _ => g2, fun c => absurd c (by decide), vc_MD_packAs _ _ ⟨fun c => absurd c (by decide), fun c => absurd c (by decide), fun c => absurd c (by decide), fun c => absurd c (by decide), fun c => absurd c (by decide), fun _ => ⟨B', g4, rfl, rfl⟩, fun c => absurd c (by decide), fun c => absurd c (by decide), fun c => absurd c (by decide), fun _ _ _ _ _ c => absurd (by decide) c⟩⟩
end PFrame
