/-! write: pieces on both sides -/
section WrA
variable {q : Nat × (Nat → Int32)} {w : Wt}
theorem b8_mod (x : Int) : b8 x % 256 = x % 256 := by unfold b8; omega
theorem md_fillT {v : Int} (hw : 0 ≤ w.1 ∧ w.1 < 900000) {n : Nat} (hn : n ≤ 30000) : ∀ (r i : Nat) (B : ms), i + r = n → MWt B (wtPuts (fun _ => v) i w) → ∃ B', EX XW B B' ∧ MWt B' (wtPuts (fun _ => v) n w) ∧ EV q 385 0 [some (.ref 367), some (vI (w.1 + n)), some (vI v)] [] B none B' := by
  intro r
  induction r with
  | zero =>
    intro i B hi h
    have e : i = n := by omega
    subst e
    refine ⟨B, EX.refl _ B, h, vc_MD_fillTo _ _ ?_⟩
    rw [h.1, wtPuts_1]
    exact cY (Int.le_refl _) ⟨rfl, rfl⟩
  | succ r ih =>
    intro i B hi h
    have l := wtPuts_1 (fun _ => v) w i
    obtain ⟨B1, k1, k2, k3⟩ := mw_put (q := q) v (by omega) h
    obtain ⟨B', g1, g2, g3⟩ := ih (i + 1) B1 (by omega) k3
    refine ⟨B', k2.trans g1, g2, vc_MD_fillTo _ _ ?_⟩
    rw [h.1, l, w32_of (x := w.1 + (n : Int)) (by omega), w32_of (x := w.1 + (i : Int)) (by omega)]
    exact cNo (by omega) ⟨B1, k1, g3⟩
theorem md_nmO {g : Nat → Int} {e n : Nat} (hw : 0 ≤ w.1 ∧ w.1 < 900000) (he : e < 16) (hn : n ≤ 100) : ∀ (r i : Nat) (B : ms), i + r = n → B.1 420 e = n → (∀ k : Nat, k < n → B.1 419 (100 * (e : Int) + k) = b8 (g k)) → MWt B (wtPuts g i w) → ∃ B', EX XW B B' ∧ MWt B' (wtPuts g n w) ∧ (∀ k : Int, w.1 + n ≤ k → B'.1 374 k = B.1 374 k) ∧ EV q 384 2 [some (.ref 367), some (vI e), some (vI i)] [] B none B' := by
  intro r
  induction r with
  | zero =>
    intro i B hi h4 h9 h
    have e' : i = n := by omega
    subst e'
    refine ⟨B, EX.refl _ B, h, fun _ _ => rfl, vc_MD_nameOf_2 _ _ ?_⟩
    rw [show w32 (e : Int) = e from w32_of (by omega), h4]
    exact ⟨by omega, cY (Int.le_refl _) ⟨rfl, rfl⟩⟩
  | succ r ih =>
    intro i B hi h4 h9 h
    have l := wtPuts_1 g w i
    obtain ⟨B1, k1, k2, k3, k5⟩ := mw_putF (q := q) (b8 (g i)) (by omega) h
    rw [wtPut_m (b8_mod (g i))] at k3
    obtain ⟨B', g1, g2, g5, g3⟩ := ih (i + 1) B1 (by omega) (by rw [k2.2 _ _ (by unfold XW; omega)]; exact h4) (fun k hk => by rw [k2.2 _ _ (by unfold XW; omega)]; exact h9 k hk) k3
    refine ⟨B', k2.trans g1, g2, fun k hk => by rw [g5 k hk, k5 k (by omega)], vc_MD_nameOf_2 _ _ ?_⟩
    rw [show ((i + 1 : Nat) : Int) = (i : Int) + 1 by omega] at g3
    rw [show w32 (e : Int) = e from w32_of (by omega), h4, show w32 (n : Int) = n from w32_of (by omega), show w32 (i : Int) = i from w32_of (by omega), w32_of (x := 100 * (e : Int) + i) (by omega), h9 i (by omega)]
    exact ⟨by omega, cNo (by omega) ⟨by omega, B1, k1, g3⟩⟩
theorem md_txO {g : Nat → Int} {e n : Nat} (hw : 0 ≤ w.1 ∧ w.1 < 900000) (he : e < 16) (hn : n ≤ 6000) : ∀ (r i : Nat) (B : ms), i + r = n → B.1 424 e = n → (∀ k : Nat, k < n → B.1 423 (6000 * (e : Int) + k) = b8 (g k)) → MWt B (wtPuts g i w) → ∃ B', EX XW B B' ∧ MWt B' (wtPuts g n w) ∧ EV q 387 2 [some (.ref 367), some (vI e), some (vI i)] [] B none B' := by
  intro r
  induction r with
  | zero =>
    intro i B hi h4 h9 h
    have e' : i = n := by omega
    subst e'
    refine ⟨B, EX.refl _ B, h, vc_MD_textOf_2 _ _ ?_⟩
    rw [show w32 (e : Int) = e from w32_of (by omega), h4]
    exact ⟨by omega, cY (Int.le_refl _) ⟨rfl, rfl⟩⟩
  | succ r ih =>
    intro i B hi h4 h9 h
    have l := wtPuts_1 g w i
    obtain ⟨B1, k1, k2, k3⟩ := mw_put (q := q) (b8 (g i)) (by omega) h
    rw [wtPut_m (b8_mod (g i))] at k3
    obtain ⟨B', g1, g2, g3⟩ := ih (i + 1) B1 (by omega) (by rw [k2.2 _ _ (by unfold XW; omega)]; exact h4) (fun k hk => by rw [k2.2 _ _ (by unfold XW; omega)]; exact h9 k hk) k3
    refine ⟨B', k2.trans g1, g2, vc_MD_textOf_2 _ _ ?_⟩
    rw [show ((i + 1 : Nat) : Int) = (i : Int) + 1 by omega] at g3
    rw [show w32 (e : Int) = e from w32_of (by omega), h4, show w32 (n : Int) = n from w32_of (by omega), show w32 (i : Int) = i from w32_of (by omega), w32_of (x := 6000 * (e : Int) + i) (by omega), h9 i (by omega)]
    exact ⟨by omega, cNo (by omega) ⟨by omega, B1, k1, g3⟩⟩
theorem cl_blks {o n : Nat} (ho : isRow o 12000) (hw : 0 ≤ w.1) (hn : n ≤ 30000) : ∀ (r i : Nat) (A : ms), i + r = n → CWt A o 12000 (wtPuts (fun _ => 0) i w) → ∃ A', EX (XRo o) A A' ∧ CWt A' o 12000 (wtPuts (fun _ => 0) n w) ∧ EV q 187 2 [some (.ref o), some (vI n), some (vI i)] [] A none A' := by
  intro r
  induction r with
  | zero =>
    intro i A hi h
    have e : i = n := by omega
    subst e
    exact ⟨A, EX.refl _ A, h, vc_Shelf_blanks_2 _ _ _ _ ho (cY (Int.le_refl _) ⟨rfl, rfl⟩)⟩
  | succ r ih =>
    intro i A hi h
    have l := wtPuts_1 (fun _ => 0) w i
    obtain ⟨A1, k1, k2, k3⟩ := cw_put (q := q) 0 ho (by decide) (by omega) h
    obtain ⟨A', g1, g2, g3⟩ := ih (i + 1) A1 (by omega) k3
    refine ⟨A', k2.trans g1, g2, vc_Shelf_blanks_2 _ _ _ _ ho ?_⟩
    rw [show ((i + 1 : Nat) : Int) = (i : Int) + 1 by omega] at g3
    rw [show w32 (n : Int) = n from w32_of (by omega), show w32 (i : Int) = i from w32_of (by omega)]
    exact cNo (by omega) ⟨A1, k1, g3⟩
/-- figures of base 8 -/
def egF (v : Int) (n k : Nat) : Int := 48 + v / (8 : Int) ^ (n - 1 - k) % 8
theorem egF_r (v : Int) (n k : Nat) : 48 ≤ egF v n k ∧ egF v n k < 56 := by unfold egF; omega
theorem pw8_r : ∀ k : Fin 12, (1 : Int) ≤ (8 : Int) ^ k.val ∧ (8 : Int) ^ k.val ≤ 8589934592 := by decide
theorem md_fg6 {B : ms} {v : Int} {n : Nat} (hn : 1 ≤ n ∧ n ≤ 11) {Q : Option Value} {S' : ms} : ∀ (r i : Nat), i + r = n → 1 ≤ i → EV q 386 29 [some (.ref 367), some (vL v), none, some (vI 8), some (vI n), some (vL ((8 : Int) ^ (n - 1))), none, some (vI 0)] [] B Q S' → EV q 386 6 [some (.ref 367), some (vL v), none, some (vI 8), some (vI n), some (vL ((8 : Int) ^ (i - 1))), none, some (vI i)] [] B Q S' := by
  intro r
  induction r with
  | zero =>
    intro i hi h1 k
    have e : i = n := by omega
    subst e
    exact vc_MD_figures_6 _ _ _ _ _ (cY (Int.le_refl _) k)
  | succ r ih =>
    intro i hi h1 k
    have g := ih (i + 1) (by omega) (by omega) k
    refine vc_MD_figures_6 _ _ _ _ _ ?_
    rw [show w32 (n : Int) = n from w32_of (by omega), show w32 (i : Int) = i from w32_of (by omega), show w32 8 = 8 by decide]
    rw [show i + 1 - 1 = i - 1 + 1 by omega, show ((i + 1 : Nat) : Int) = (i : Int) + 1 by omega, show (8 : Int) ^ (i - 1 + 1) = (8 : Int) ^ (i - 1) * 8 from rfl] at g
    exact cNo (by omega) g
theorem md_fg29 {v : Int} {n : Nat} (hv : 0 ≤ v ∧ v < 4611686018427387904) (hn : 1 ≤ n ∧ n ≤ 11) (hw : 0 ≤ w.1 ∧ w.1 < 900000) : ∀ (r i : Nat) (B : ms), i + r = n → MWt B (wtPuts (egF v n) i w) → ∃ B', EX XW B B' ∧ MWt B' (wtPuts (egF v n) n w) ∧ (∀ k : Int, w.1 + n ≤ k → B'.1 374 k = B.1 374 k) ∧ ∀ by' : Int, (i < n → by' = (8 : Int) ^ (n - 1 - i)) → EV q 386 29 [some (.ref 367), some (vL v), none, some (vI 8), some (vI n), some (vL by'), none, some (vI i)] [] B none B' := by
  have w8 : w64 (w32 8) = 8 := by decide
  intro r
  induction r with
  | zero =>
    intro i B hi h
    have e : i = n := by omega
    subst e
    exact ⟨B, EX.refl _ B, h, fun _ _ => rfl, fun by' _ => vc_MD_figures_29 _ _ _ _ _ (cY (Int.le_refl _) ⟨rfl, rfl⟩)⟩
  | succ r ih =>
    intro i B hi h
    have l := wtPuts_1 (egF v n) w i
    obtain ⟨B1, k1, k2, k3, k5⟩ := mw_putF (q := q) (egF v n i) (by omega) h
    obtain ⟨B', g1, g2, g5, g3⟩ := ih (i + 1) B1 (by omega) k3
    refine ⟨B', k2.trans g1, g2, fun k hk => by rw [g5 k hk, k5 k (by omega)], fun by' hb => vc_MD_figures_29 _ _ _ _ _ ?_⟩
    obtain ⟨P, eP⟩ : ∃ P : Int, P = (8 : Int) ^ (n - 1 - i) := ⟨_, rfl⟩
    have pr := pw8_r ⟨n - 1 - i, by omega⟩
    have pr' : (1 : Int) ≤ P ∧ P ≤ 8589934592 := by rw [eP]; exact pr
    have hb' : by' = P := by rw [eP]; exact hb (by omega)
    have dn : 0 ≤ v / P ∧ v / P ≤ v := ⟨Int.ediv_nonneg hv.1 (by omega), Int.ediv_le_self _ hv.1⟩
    rw [hb', show w32 (n : Int) = n from w32_of (by omega), show w32 (i : Int) = i from w32_of (by omega), w8, w64_of (x := P) (by omega), w64_of (x := v) (by omega), Int.tdiv_eq_ediv_of_nonneg hv.1, w64_of (x := v / P) (by omega), Int.tmod_eq_emod_of_nonneg dn.1]
    have ef : egF v n i = 48 + v / P % 8 := by unfold egF; rw [eP]
    rw [ef] at k1
    refine cNo (by omega) ⟨by omega, by decide, B1, k1, by decide, ?_⟩
    have g4 := g3 (Int.tdiv P 8) (fun hlt => by
      have e1 : n - 1 - i = n - 1 - (i + 1) + 1 := by omega
      rw [Int.tdiv_eq_ediv_of_nonneg (by omega), eP, e1, show (8 : Int) ^ (n - 1 - (i + 1) + 1) = (8 : Int) ^ (n - 1 - (i + 1)) * 8 from rfl, Int.mul_ediv_cancel _ (by decide)])
    rw [show ((i + 1 : Nat) : Int) = (i : Int) + 1 by omega] at g4
    exact g4
theorem md_fig {v : Int} {n : Nat} {B : ms} (hv : 0 ≤ v ∧ v < 4611686018427387904) (hn : 1 ≤ n ∧ n ≤ 11) (hw : 0 ≤ w.1 ∧ w.1 < 900000) (h : MWt B w) : ∃ B', EX XW B B' ∧ MWt B' (wtPuts (egF v n) n w) ∧ (∀ k : Int, w.1 + n ≤ k → B'.1 374 k = B.1 374 k) ∧ EV q 386 0 [some (.ref 367), some (vL v), none, some (vI 8), some (vI n), none, none, none] [] B none B' := by
  obtain ⟨B', g1, g2, g5, g3⟩ := md_fg29 (q := q) hv hn hw n 0 B (by omega) h
  refine ⟨B', g1, g2, g5, vc_MD_figures _ _ _ ?_⟩
  have k := md_fg6 (q := q) (B := B) (v := v) (n := n) hn (n - 1) 1 (by omega) (Nat.le_refl _) (g3 ((8 : Int) ^ (n - 1)) (fun _ => by rw [show n - 1 - 0 = n - 1 by omega]))
  exact k
/-- eightsIn -/
theorem cl_eig {sh : Nat} {v x3 : Int} {p n : Nat} (hs : isShelf sh) (hv : 0 ≤ v ∧ v < 2147483648) (hp : p + n ≤ 512) (hn : n ≤ 11) : ∀ (i : Nat) (A : ms), i ≤ n → (∀ k : Nat, i ≤ k → k < n → A.1 (sh + 7) ((p : Int) + k) = egF v n k) → ∃ A', EX (fun a k => a = sh + 7 ∧ (p : Int) ≤ k ∧ k < (p : Int) + n) A A' ∧ (∀ k : Nat, k < n → A'.1 (sh + 7) ((p : Int) + k) = egF v n k) ∧ EV q 185 8 [some (.ref sh), some (vI p), some (vI n), some (vI x3), some (vI (v / (8 : Int) ^ (n - i))), some (vI ((i : Int) - 1))] [] A none A' := by
  intro i
  induction i with
  | zero =>
    intro A hi h
    refine ⟨A, EX.refl _ A, fun k hk => h k (by omega) hk, vc_Shelf_eightsIn_8 _ _ _ _ _ _ hs (cY (by decide) ⟨rfl, rfl⟩)⟩
  | succ i ih =>
    intro A hi h
    obtain ⟨z, ez⟩ : ∃ z : Int, z = v / (8 : Int) ^ (n - (i + 1)) := ⟨_, rfl⟩
    have p1 : (0 : Int) < (8 : Int) ^ (n - (i + 1)) := Int.pow_pos (by decide)
    have dn : 0 ≤ z ∧ z ≤ v := by rw [ez]; exact ⟨Int.ediv_nonneg hv.1 (by omega), Int.ediv_le_self _ hv.1⟩
    have ef : egF v n i = 48 + z % 8 := by unfold egF; rw [ez, show n - 1 - i = n - (i + 1) by omega]
    obtain ⟨A', g1, g2, g3⟩ := ih (wI A (sh + 7) ((p : Int) + i) (egF v n i)) (by omega) (fun k h1 h2 => by
      by_cases e : k = i
      · rw [e, wI_at]
      · rw [wI_no _ (by omega)]
        exact h k (by omega) h2)
    refine ⟨A', ((EX.refl _ A).wr (by omega)).trans g1, g2, vc_Shelf_eightsIn_8 _ _ _ _ _ _ hs ?_⟩
    rw [← ez, show ((i + 1 : Nat) : Int) - 1 = i by omega, show w32 (i : Int) = i from w32_of (by omega), w32_of (x := (p : Int) + i) (by omega), ← ef]
    refine cNo (by omega) ⟨by omega, fun S2 q2 => ?_⟩
    have e2 : z % 4294967296 / 8 = v / (8 : Int) ^ (n - i) := by
      rw [show z % 4294967296 = z by omega, ez, show n - i = n - (i + 1) + 1 by omega, show (8 : Int) ^ (n - (i + 1) + 1) = (8 : Int) ^ (n - (i + 1)) * 8 from rfl, Int.ediv_ediv_of_nonneg (by omega)]
    rw [q2, e2]
    exact g3
end WrA
