/-! pack: SORTED; all symbols on both sides -/
section PSym2
variable {q : Nat × (Nat → Int32)} {n m : Nat} {w ls0 : Nat → Int}
theorem mtF_0 (ls : Nat → Int) (j : Nat) : mtF ls 0 j = ls j := by
  unfold mtF
  by_cases c : j = 0
  · rw [if_pos c, c]
  · rw [if_neg c, if_neg (by omega)]
def mkF (w ls0 : Nat → Int) (m : Nat) : Nat → (Nat → Int) × Nat × Rst
  | 0 => (ls0, 0, (0, fun _ => 0))
  | k + 1 => if plS (mkF w ls0 m k).1 (w k) m 0 = 0 then ((mkF w ls0 m k).1, (mkF w ls0 m k).2.1 + 1, (mkF w ls0 m k).2.2) else (mtF (mkF w ls0 m k).1 (plS (mkF w ls0 m k).1 (w k) m 0), 0, rPut ((plS (mkF w ls0 m k).1 (w k) m 0 : Nat) + 1 : Int) (dgR 32 (mkF w ls0 m k).2.1 (mkF w ls0 m k).2.2))
theorem mkF_s (w ls0 : Nat → Int) (m k : Nat) : mkF w ls0 m (k + 1) = if plS (mkF w ls0 m k).1 (w k) m 0 = 0 then ((mkF w ls0 m k).1, (mkF w ls0 m k).2.1 + 1, (mkF w ls0 m k).2.2) else (mtF (mkF w ls0 m k).1 (plS (mkF w ls0 m k).1 (w k) m 0), 0, rPut ((plS (mkF w ls0 m k).1 (w k) m 0 : Nat) + 1 : Int) (dgR 32 (mkF w ls0 m k).2.1 (mkF w ls0 m k).2.2)) := rfl
theorem mkF_i (hm : 1 ≤ m) (hw : ∀ i : Nat, i < n → ∃ j : Nat, j < m ∧ ls0 j = w i) : ∀ k : Nat, k ≤ n → (∀ v : Int, (∃ j : Nat, j < m ∧ (mkF w ls0 m k).1 j = v) ↔ ∃ j : Nat, j < m ∧ ls0 j = v) ∧ sOk ((m : Int) + 2) (mkF w ls0 m k).2.2 ∧ (mkF w ls0 m k).2.2.1 + (mkF w ls0 m k).2.1 ≤ k
  | 0, _ => ⟨fun v => Iff.rfl, fun i hi => absurd hi (by show ¬ i < 0; omega), Nat.le_refl _⟩
  | k + 1, hk => by
    obtain ⟨h1, h2, h3⟩ := mkF_i hm hw k (by omega)
    rw [mkF_s]
    obtain ⟨st, est⟩ : ∃ st, st = mkF w ls0 m k := ⟨_, rfl⟩
    rw [← est] at h1 h2 h3 ⊢
    obtain ⟨j, j1, j2⟩ := (h1 (w k)).2 (hw k (by omega))
    have p := plS_p (ls := st.1) (c := w k) m 0 ⟨j, by omega, by omega, j2⟩
    obtain ⟨pl, epl⟩ : ∃ pl, pl = plS st.1 (w k) m 0 := ⟨_, rfl⟩
    rw [← epl] at p ⊢
    by_cases c : pl = 0
    · rw [if_pos c]
      exact ⟨h1, h2, by show st.2.2.1 + (st.2.1 + 1) ≤ k + 1; omega⟩
    · rw [if_neg c]
      have d := dgR_n (M := (m : Int) + 2) (by omega) 32 st.2.1 st.2.2 h2
      refine ⟨fun v => ?_, sOk_p d.1 (by omega), ?_⟩
      · show (∃ j : Nat, j < m ∧ mtF st.1 pl j = v) ↔ _
        rw [mtF_m (by omega) v]
        exact h1 v
      · show (dgR 32 st.2.1 st.2.2).1 + 1 + 0 ≤ k + 1
        omega
def XMk (a : Nat) (k : Int) : Prop := a = 102 ∨ XSy a k
theorem cl_msy (hn : n ≤ 2500) (hm : 1 ≤ m ∧ m ≤ 256) (hw : ∀ i : Nat, i < n → (0 ≤ w i ∧ w i < 256) ∧ ∃ j : Nat, j < m ∧ ls0 j = w i) (h0 : ∀ j : Nat, j < m → 0 ≤ ls0 j ∧ ls0 j < 256) : ∀ (v k : Nat) (A : ms), k + v = n → A.1 94 1 = n → A.1 94 9 = m → (∀ i : Nat, i < n → A.1 101 i = w i) → (∀ j : Nat, j < m → A.1 102 j = (mkF w ls0 m k).1 j) → CSy A (mkF w ls0 m k).2.2 → ∃ A', EX XMk A A' ∧ CSy A' (rPut ((m : Int) + 1) (dgR 32 (mkF w ls0 m n).2.1 (mkF w ls0 m n).2.2)) ∧ EV q 101 9 [some (.ref 94), some (vI (mkF w ls0 m k).2.1), some (vI k), none] [] A none A' := by
  have wn : Unit → w32 (n : Int) = n := fun _ => w32_of (by omega)
  intro v
  induction v with
  | zero =>
    intro k A hk h1 h9 h101 h102 h
    have e : k = n := by omega
    subst e
    have i := mkF_i (w := w) (ls0 := ls0) hm.1 (fun i hi => (hw i hi).2) k (Nat.le_refl _)
    obtain ⟨st, est⟩ : ∃ st, st = mkF w ls0 m k := ⟨_, rfl⟩
    rw [← est] at i h ⊢
    have dn := dgR_n (M := (m : Int) + 2) (by omega) 32 st.2.1 st.2.2 i.2.1
    obtain ⟨A1, a1, a2, a3⟩ := cl_dig (q := q) (x1 := st.2.1) 32 st.2.1 0 st.2.2 A (by decide) (by omega) h
    obtain ⟨A2, b1, b2, b3⟩ := cl_put (q := q) (v := (m : Int) + 1) (by omega) a2
    have e9 : A1.1 94 9 = m := by rw [a1.2 94 9 (by unfold XSy; omega)]; exact h9
    refine ⟨A2, (a1.trans b1).mono (fun a k y => Or.inr y), b2, vc_Sorted_makeSymbols_9 _ _ ?_⟩
    rw [h1]
    refine cY (Int.le_refl _) ⟨A1, vc_Sorted_addDigits _ a3, A2, ?_, rfl, rfl⟩
    rw [e9]
    exact b3
  | succ v ih =>
    intro k A hk h1 h9 h101 h102 h
    have i := mkF_i (w := w) (ls0 := ls0) hm.1 (fun i hi => (hw i hi).2) k (by omega)
    have es := mkF_s w ls0 m k
    obtain ⟨st, est⟩ : ∃ st, st = mkF w ls0 m k := ⟨_, rfl⟩
    rw [← est] at i h h102 es ⊢
    have wk := hw k (by omega)
    obtain ⟨j, j1, j2⟩ := (i.1 (w k)).2 wk.2
    have p := plS_p (ls := st.1) (c := w k) m 0 ⟨j, by omega, by omega, j2⟩
    obtain ⟨pl, epl⟩ : ∃ pl, pl = plS st.1 (w k) m 0 := ⟨_, rfl⟩
    rw [← epl] at p es
    have hl : ∀ j : Nat, j < m → (0 ≤ st.1 j ∧ st.1 j < 256) ∧ A.1 102 j = st.1 j := fun j hj => by
      obtain ⟨j', k1, k2⟩ := (i.1 (st.1 j)).1 ⟨j, hj, rfl⟩
      have := h0 j' k1
      rw [k2] at this
      exact ⟨this, h102 j hj⟩
    have kp := cl_plc (q := q) (A := A) (ls := st.1) (c := w k) (m := m) (p := pl) hm.2 (by omega) wk.1 hl h9 p.2.1 (fun j hj => p.2.2 j (by omega) hj) pl 0 (by omega)
    obtain ⟨A1, a1, a2, a3⟩ := cl_mtf (q := q) (ls := st.1) (m := m) (p := pl) hm.2 (by omega) pl A (Nat.le_refl _) (fun j hj => h102 j (by omega)) (fun j hj hj' => by rw [h102 j hj']; unfold mtF; rw [if_neg (by omega), if_neg (by omega)])
    have at1 : ∀ (a : Nat) (k : Int), a ≠ 102 → A1.1 a k = A.1 a k := fun a k y => a1.2 a k y
    have h1' : CSy A1 st.2.2 := ⟨by rw [at1 94 11 (by decide)]; exact h.1, fun i hi => by rw [at1 103 i (by decide)]; exact h.2 i hi⟩
    have wl : Unit → w32 (pl : Int) = pl := fun _ => w32_of (by omega)
    have head : ∀ A' : ms, (((¬ w32 (pl : Int) = 0) → ∃ (S12 : ms), EV q 104 0 [some (.ref 94), some (vI st.2.1), none, none, none] [] A1 none S12 ∧ ∃ (S14 : ms), EV q 105 0 [some (.ref 94), some (vI ((pl : Int) + 1))] [] S12 none S14 ∧ EV q 101 56 [some (.ref 94), some (vI 0), some (vI k), some (vI pl)] [] S14 none A') ∧ ((¬ (¬ w32 (pl : Int) = 0)) → EV q 101 56 [some (.ref 94), some (vI ((st.2.1 : Int) + 1)), some (vI k), some (vI pl)] [] A1 none A')) → EV q 101 9 [some (.ref 94), some (vI st.2.1), some (vI k), none] [] A none A' := fun A' hh => by
      refine vc_Sorted_makeSymbols_9 _ _ ?_
      rw [h1, wn (), show w32 (k : Int) = k from w32_of (by omega), h101 k (by omega)]
      refine cNo (by omega) ⟨by omega, pl, A, vc_Sorted_signPlace _ kp, pl, A1, vc_Sorted_toFront _ ?_, hh⟩
      rw [wl (), h102 pl (by omega)]
      exact ⟨by omega, a3⟩
    by_cases c : pl = 0
    · rw [if_pos c] at es
      obtain ⟨A', g1, g2, g3⟩ := ih (k + 1) A1 (by omega) (by rw [at1 94 1 (by decide)]; exact h1) (by rw [at1 94 9 (by decide)]; exact h9) (fun i hi => by rw [at1 101 i (by decide)]; exact h101 i hi) (fun j hj => by rw [es, a2 j hj, c]; exact mtF_0 _ _) (by rw [es]; exact h1')
      rw [es] at g3
      refine ⟨A', (a1.mono (fun a k y => Or.inl y)).trans g1, g2, head A' (cNN (by rw [wl ()]; omega) (vc_Sorted_makeSymbols_56 _ _ _ ?_))⟩
      have g4 : EV q 101 9 [some (.ref 94), some (vI ((st.2.1 + 1 : Nat) : Int)), some (vI ((k + 1 : Nat) : Int)), none] [] A1 none A' := g3
      rw [show ((st.2.1 + 1 : Nat) : Int) = (st.2.1 : Int) + 1 by omega, show ((k + 1 : Nat) : Int) = (k : Int) + 1 by omega] at g4
      exact g4
    · rw [if_neg c] at es
      have dn := dgR_n (M := (m : Int) + 2) (by omega) 32 st.2.1 st.2.2 i.2.1
      obtain ⟨A2, b1, b2, b3⟩ := cl_dig (q := q) (x1 := st.2.1) 32 st.2.1 0 st.2.2 A1 (by decide) (by omega) h1'
      obtain ⟨A3, c1, c2, c3⟩ := cl_put (q := q) (v := (pl : Int) + 1) (by omega) b2
      have x3 : EX XSy A1 A3 := b1.trans c1
      obtain ⟨A', g1, g2, g3⟩ := ih (k + 1) A3 (by omega) (by rw [x3.2 94 1 (by unfold XSy; omega), at1 94 1 (by decide)]; exact h1) (by rw [x3.2 94 9 (by unfold XSy; omega), at1 94 9 (by decide)]; exact h9) (fun i hi => by rw [x3.2 101 i (by unfold XSy; omega), at1 101 i (by decide)]; exact h101 i hi) (fun j hj => by rw [es, x3.2 102 j (by unfold XSy; omega)]; exact a2 j hj) (by rw [es]; exact c2)
      rw [es] at g3
      refine ⟨A', ((a1.mono (fun a k y => Or.inl y)).trans (x3.mono (fun a k y => Or.inr y))).trans g1, g2, head A' (cY (by rw [wl ()]; omega) ⟨A2, vc_Sorted_addDigits _ b3, A3, c3, vc_Sorted_makeSymbols_56 _ _ _ ?_⟩)⟩
      have g4 : EV q 101 9 [some (.ref 94), some (vI ((0 : Nat) : Int)), some (vI ((k + 1 : Nat) : Int)), none] [] A3 none A' := g3
      rw [show ((k + 1 : Nat) : Int) = (k : Int) + 1 by omega] at g4
      exact g4
def XMl (a : Nat) (k : Int) : Prop := a = 410 ∨ XSz a k
theorem md_plc {B : ms} {ls : Nat → Int} {c x1 x2 x3 x4 : Int} {p : Nat} (hm : m ≤ 256) (hp : p < m) (hc : 0 ≤ c ∧ c < 256) (hl : ∀ j : Nat, j < m → (0 ≤ ls j ∧ ls j < 256) ∧ B.1 410 j = b8 (ls j)) (h1 : ls p = c) (h2 : ∀ j : Nat, j < p → ls j ≠ c) {Q : Option Value} {S' : ms} : ∀ (v k : Nat), k + v = p → EV q 321 315 [some (.ref 367), some (vI x1), some (vI x2), some (vI x3), some (vI x4), some (vI (b8 c)), some (vI p)] [] B Q S' → EV q 321 315 [some (.ref 367), some (vI x1), some (vI x2), some (vI x3), some (vI x4), some (vI (b8 c)), some (vI k)] [] B Q S' := by
  intro v
  induction v with
  | zero =>
    intro k hk kk
    have e : k = p := by omega
    subst e
    exact kk
  | succ v ih =>
    intro k hk kk
    have l := hl k (by omega)
    have ne := h2 k (by omega)
    have g := ih (k + 1) (by omega) kk
    rw [show ((k + 1 : Nat) : Int) = (k : Int) + 1 by omega] at g
    have w8 : ∀ z : Int, w32 (b8 z) = b8 z := fun z => w32_of (by have := b8_rg z; omega)
    refine vc_MD_writeSorted_315 _ _ _ _ _ _ ?_
    rw [show w32 (k : Int) = k from w32_of (by omega), l.2, w8, w8]
    refine ⟨by omega, cNo (fun y => ne ?_) g⟩
    have e1 := oct_eq l.1 rfl
    have e2 := oct_eq hc rfl
    rw [← e1, ← e2, y]
theorem md_msy {u : Nat → Int} {R : Nat → Nat} {x1 : Int} (hn : n ≤ 2500) (hm : 1 ≤ m ∧ m ≤ 256) (hu : ∀ i : Nat, i < n → 0 ≤ u i ∧ u i < 256) (hR : Pmu n R) (eW : ∀ i : Nat, i < n → w i = u (laF n (R i))) (hw : ∀ i : Nat, i < n → (0 ≤ w i ∧ w i < 256) ∧ ∃ j : Nat, j < m ∧ ls0 j = w i) (h0 : ∀ j : Nat, j < m → 0 ≤ ls0 j ∧ ls0 j < 256) : ∀ (v k : Nat) (B : ms), k + v = n → MRs B (n, u) → (∀ i : Nat, i < n → B.1 407 i = R i) → (∀ j : Nat, j < m → B.1 410 j = b8 ((mkF w ls0 m k).1 j)) → MSy B (mkF w ls0 m k).2.2 → ∃ B', EX XMl B B' ∧ MSy B' (rPut ((m : Int) + 1) (dgR 32 (mkF w ls0 m n).2.1 (mkF w ls0 m n).2.2)) ∧ ∀ T : ms, EV q 325 0 [some (.ref 367), some (vI ((m : Int) + 2)), none, none, none, none, none] [] B' none T → EV q 321 277 [some (.ref 367), some (vI x1), some (vI m), some (vI (mkF w ls0 m k).2.1), some (vI k), none, none] [] B none T := by
  have wn : Unit → w32 (n : Int) = n := fun _ => w32_of (by omega)
  have p32 : 2500 < 2 ^ 32 := by decide
  intro v
  induction v with
  | zero =>
    intro k B hk hB h7 h10 h
    have e : k = n := by omega
    subst e
    have i := mkF_i (w := w) (ls0 := ls0) hm.1 (fun i hi => (hw i hi).2) k (Nat.le_refl _)
    obtain ⟨st, est⟩ : ∃ st, st = mkF w ls0 m k := ⟨_, rfl⟩
    rw [← est] at i h ⊢
    have dn := dgR_n (M := (m : Int) + 2) (by omega) 32 st.2.1 st.2.2 i.2.1
    obtain ⟨B1, a1, a2, a3⟩ := md_dig (q := q) (x1 := st.2.1) 32 st.2.1 st.2.2 B (by omega) (by omega) h
    obtain ⟨s, es⟩ : ∃ s, s = dgR 32 st.2.1 st.2.2 := ⟨_, rfl⟩
    rw [← es] at a2 dn ⊢
    obtain ⟨B2, e2⟩ : ∃ B2, B2 = wI (wI B1 411 s.1 ((m : Int) + 1)) 367 72 ((s.1 : Int) + 1) := ⟨_, rfl⟩
    have h2 := MSy_p (v := (m : Int) + 1) a2
    rw [← e2] at h2
    refine ⟨B2, (EX.trans a1 (by rw [e2]; exact ((EX.refl _ B1).wr (Or.inl rfl)).wr (Or.inr ⟨rfl, rfl⟩))).mono (fun a k y => Or.inr y), h2, fun T kk => vc_MD_writeSorted_277 _ _ _ _ ?_⟩
    have hB1 : B.1 367 66 = k := hB.1
    rw [hB1]
    refine cY (Int.le_refl _) ⟨B1, vc_MD_zeros _ a3, ?_⟩
    rw [a2.1, show w32 (s.1 : Int) = s.1 from w32_of (by omega)]
    refine ⟨by omega, fun S4 q4 S5 q5 => ?_⟩
    have e3 : S4.1 367 72 = s.1 := by rw [q4, wI_no _ (by omega)]; exact a2.1
    rw [e3, q4, ← e2] at q5
    rw [q5]
    exact ⟨T, kk, rfl, rfl⟩
  | succ v ih =>
    intro k B hk hB h7 h10 h
    have i := mkF_i (w := w) (ls0 := ls0) hm.1 (fun i hi => (hw i hi).2) k (by omega)
    have es := mkF_s w ls0 m k
    obtain ⟨st, est⟩ : ∃ st, st = mkF w ls0 m k := ⟨_, rfl⟩
    rw [← est] at i h h10 es ⊢
    have wk := hw k (by omega)
    obtain ⟨j, j1, j2⟩ := (i.1 (w k)).2 wk.2
    have p := plS_p (ls := st.1) (c := w k) m 0 ⟨j, by omega, by omega, j2⟩
    obtain ⟨pl, epl⟩ : ∃ pl, pl = plS st.1 (w k) m 0 := ⟨_, rfl⟩
    rw [← epl] at p es
    have hl : ∀ j : Nat, j < m → (0 ≤ st.1 j ∧ st.1 j < 256) ∧ B.1 410 j = b8 (st.1 j) := fun j hj => by
      obtain ⟨j', k1, k2⟩ := (i.1 (st.1 j)).1 ⟨j, hj, rfl⟩
      have := h0 j' k1
      rw [k2] at this
      exact ⟨this, h10 j hj⟩
    have rk := hR.1 k (by omega)
    have lk := laF_m rk
    have hB1 : B.1 367 66 = n := hB.1
    have eC : B.1 406 (laF n (R k) : Int) = b8 (w k) := by rw [eW k (by omega)]; exact hB.2 _ lk.1
    have em : w32 (Int.tmod (w32 ((R k : Int) + n - 1)) (n : Int)) = laF n (R k) := by
      rw [w32_of (x := (R k : Int) + n - 1) (by omega), show (R k : Int) + n - 1 = ((R k + n - 1 : Nat) : Int) by omega, ← Int.ofNat_tmod, lk.2]
      exact w32_of (by omega)
    have wl : Unit → w32 (pl : Int) = pl := fun _ => w32_of (by omega)
    have w8 : ∀ z : Int, w32 (b8 z) = b8 z := fun z => w32_of (by have := b8_rg z; omega)
    have lp := hl pl (by omega)
    have head : ∀ T : ms, (((¬ w32 (pl : Int) = 0) → ∃ (S2 : ms), EV q 323 0 [some (.ref 367), some (vI st.2.1), none, none] [] B none S2 ∧ (0 ≤ w32 (S2.1 367 72) ∧ w32 (S2.1 367 72) < (15400 : Nat)) ∧ ∀ S5 : ms, S5 = wI S2 411 (w32 (S2.1 367 72)) ((pl : Int) + 1) → ∀ S6 : ms, S6 = wI S5 367 72 (S5.1 367 72 + 1) → ∃ (S7 : ms), EV q 324 0 [some (.ref 367), some (vI pl), none, none] [] S6 none S7 ∧ EV q 321 380 [some (.ref 367), some (vI x1), some (vI m), some (vI 0), some (vI k), some (vI (b8 (w k))), some (vI pl)] [] S7 none T) ∧ ((¬ (¬ w32 (pl : Int) = 0)) → EV q 321 380 [some (.ref 367), some (vI x1), some (vI m), some (vI ((st.2.1 : Int) + 1)), some (vI k), some (vI (b8 (w k))), some (vI pl)] [] B none T)) → EV q 321 277 [some (.ref 367), some (vI x1), some (vI m), some (vI st.2.1), some (vI k), none, none] [] B none T := fun T hh => by
      refine vc_MD_writeSorted_277 _ _ _ _ ?_
      rw [hB1, wn (), show w32 (k : Int) = k from w32_of (by omega), h7 k (by omega), em, eC]
      refine cNo (by omega) ⟨by omega, by omega, by omega, md_plc (q := q) hm.2 (by omega) wk.1 hl p.2.1 (fun j hj => p.2.2 j (by omega) hj) pl 0 (by omega) (vc_MD_writeSorted_315 _ _ _ _ _ _ ?_)⟩
      rw [wl (), lp.2, w8, w8, p.2.1]
      rw [wl ()] at hh
      exact ⟨by omega, cY rfl hh⟩
    by_cases c : pl = 0
    · rw [if_pos c] at es
      obtain ⟨B', g1, g2, g3⟩ := ih (k + 1) B (by omega) hB h7 (fun j hj => by rw [es]; exact h10 j hj) (by rw [es]; exact h)
      refine ⟨B', g1, g2, fun T kk => head T (cNN (by rw [wl ()]; omega) (vc_MD_writeSorted_380 _ _ _ _ _ _ ?_))⟩
      have g3' := g3 T kk
      rw [es] at g3'
      have g4 : EV q 321 277 [some (.ref 367), some (vI x1), some (vI m), some (vI ((st.2.1 + 1 : Nat) : Int)), some (vI ((k + 1 : Nat) : Int)), none, none] [] B none T := g3'
      rw [show ((st.2.1 + 1 : Nat) : Int) = (st.2.1 : Int) + 1 by omega, show ((k + 1 : Nat) : Int) = (k : Int) + 1 by omega] at g4
      exact g4
    · rw [if_neg c] at es
      have dn := dgR_n (M := (m : Int) + 2) (by omega) 32 st.2.1 st.2.2 i.2.1
      obtain ⟨B1, b1, b2, b3⟩ := md_dig (q := q) (x1 := st.2.1) 32 st.2.1 st.2.2 B (by omega) (by omega) h
      obtain ⟨s, ess⟩ : ∃ s, s = dgR 32 st.2.1 st.2.2 := ⟨_, rfl⟩
      rw [← ess] at b2 dn es
      obtain ⟨B2, e2⟩ : ∃ B2, B2 = wI (wI B1 411 s.1 ((pl : Int) + 1)) 367 72 ((s.1 : Int) + 1) := ⟨_, rfl⟩
      have h2 := MSy_p (v := (pl : Int) + 1) b2
      rw [← e2] at h2
      have x2 : EX XSz B B2 := b1.trans (by rw [e2]; exact ((EX.refl _ B1).wr (Or.inl rfl)).wr (Or.inr ⟨rfl, rfl⟩))
      obtain ⟨B3, c1, c2, c3⟩ := md_mtf (q := q) (ls := st.1) (m := m) (p := pl) hm.2 (by omega) pl B2 (Nat.le_refl _) (fun j hj => by rw [x2.2 410 j (by unfold XSz; omega)]; exact h10 j (by omega)) (fun j hj hj' => by rw [x2.2 410 j (by unfold XSz; omega), h10 j hj']; unfold mtF; rw [if_neg (by omega), if_neg (by omega)])
      have at3 : ∀ (a : Nat) (k : Int), ¬ XMl a k → B3.1 a k = B.1 a k := fun a k y => by rw [c1.2 a k (fun z => y (Or.inl z)), x2.2 a k (fun z => y (Or.inr z))]
      obtain ⟨B', g1, g2, g3⟩ := ih (k + 1) B3 (by omega) ⟨by rw [at3 367 66 (by unfold XMl XSz; omega)]; exact hB.1, fun i hi => by rw [at3 406 i (by unfold XMl XSz; omega)]; exact hB.2 i hi⟩ (fun i hi => by rw [at3 407 i (by unfold XMl XSz; omega)]; exact h7 i hi) (fun j hj => by rw [es]; exact c2 j hj) (by
        rw [es]
        exact ⟨by rw [c1.2 367 72 (by decide)]; exact h2.1, fun i hi => by rw [c1.2 411 i (by omega)]; exact h2.2 i hi⟩)
      refine ⟨B', ((x2.mono (fun a k y => Or.inr y)).trans (c1.mono (fun a k y => Or.inl y))).trans g1, g2, fun T kk => head T (cY (by rw [wl ()]; omega) ⟨B1, vc_MD_zeros _ b3, ?_⟩)⟩
      rw [b2.1, show w32 (s.1 : Int) = s.1 from w32_of (by omega)]
      refine ⟨by omega, fun S5 q5 S6 q6 => ?_⟩
      have e3 : S5.1 367 72 = s.1 := by rw [q5, wI_no _ (by omega)]; exact b2.1
      rw [e3, q5, ← e2] at q6
      rw [q6]
      have k324 : EV q 324 0 [some (.ref 367), some (vI pl), none, none] [] B2 none B3 := vc_MD_toFront _ (by
        rw [wl (), x2.2 410 pl (by unfold XSz; omega), lp.2]
        exact ⟨by omega, c3⟩)
      refine ⟨B3, k324, vc_MD_writeSorted_380 _ _ _ _ _ _ ?_⟩
      have g3' := g3 T kk
      rw [es] at g3'
      have g4 : EV q 321 277 [some (.ref 367), some (vI x1), some (vI m), some (vI ((0 : Nat) : Int)), some (vI ((k + 1 : Nat) : Int)), none, none] [] B3 none T := g3'
      rw [show ((k + 1 : Nat) : Int) = (k : Int) + 1 by omega] at g4
      exact g4
end PSym2
