/-! BLOCKS: the lengths of the code for lengths, both sides at once -/
section Thr
variable {q : Nat × (Nat → Int32)} {en : Int}
def od (j : Nat) : Int := sS 6 (j : Int)
def oi (k : Nat) : Nat := [3, 17, 15, 13, 11, 9, 7, 5, 4, 6, 8, 10, 12, 14, 16, 18, 0, 1, 2].getD k 0
theorem od_rg {j : Nat} (h : j < 19) : (0 ≤ od j ∧ od j < 19) ∧ sS 9 (j : Int) = od j ∧ oi (od j).toNat = j := by
  have k : ∀ i : Fin 19, (0 ≤ od i.val ∧ od i.val < 19) ∧ sS 9 (i.val : Int) = od i.val ∧ oi (od i.val).toNat = i.val := by decide
  exact k ⟨j, h⟩
theorem oi_rg {k : Nat} (h : k < 19) : oi k < 19 ∧ od (oi k) = (k : Int) := by
  have g : ∀ i : Fin 19, oi i.val < 19 ∧ od (oi i.val) = (i.val : Int) := by decide
  exact g ⟨k, h⟩
theorem od_inj {i j : Nat} (hi : i < 19) (hj : j < 19) (e : od i = od j) : i = j := by
  rw [← (od_rg hi).2.2, ← (od_rg hj).2.2, e]
theorem tc_zero {c : Nat} {x2 x3 : Int} (hc : c ≤ 19) : ∀ (m i : Nat) (A : ms), i + m = 19 → c ≤ i → ∃ A1, EX (fun a _ => a = 76) A A1 ∧ (∀ j : Nat, j < i → A1.1 76 (od j) = A.1 76 (od j)) ∧ (∀ j : Nat, i ≤ j → j < 19 → A1.1 76 (od j) = 0) ∧ ∀ (r : Option Value) (T : ms), EV q 136 51 [some (.ref 30), some (.ref 9), some (vI x2), some (vI x3), some (vI c), some (vI 19)] [] A1 r T → EV q 136 51 [some (.ref 30), some (.ref 9), some (vI x2), some (vI x3), some (vI c), some (vI i)] [] A r T := by
  intro m
  induction m with
  | zero =>
    intro i A hi hci
    have e : i = 19 := by omega
    subst e
    exact ⟨A, EX.refl _ A, fun j _ => rfl, fun j j1 j2 => absurd j2 (by omega), fun r T y => y⟩
  | succ m ih =>
    intro i A hi hci
    have wi : Unit → w32 ((i : Nat) : Int) = i := fun _ => w32_of (by omega)
    have wc : Unit → w32 ((c : Nat) : Int) = c := fun _ => w32_of (by omega)
    have g := (od_rg (j := i) (by omega)).1
    have wo : w32 (od i) = od i := w32_of (by omega)
    obtain ⟨A1, g1, g2, g3, g4⟩ := ih (i + 1) (wI A 76 (od i) 0) (by omega) (by omega)
    refine ⟨A1, EX.trans (EX.wr (EX.refl _ A) rfl) g1, fun j hj => ?_, fun j j1 j2 => ?_, fun r T y => ?_⟩
    · rw [g2 j (by omega), wI_no _ (fun z => by have := od_inj (by omega) (by omega) z.2; omega)]
    · by_cases d : j = i
      · subst d
        rw [g2 j (by omega)]
        exact wI_at _ _ _ _
      · exact g3 j (by omega) j2
    · have z := g4 r T y
      rw [show ((i + 1 : Nat) : Int) = (i : Int) + 1 by omega] at z
      refine vc_Blocks_openCodes_51 _ _ _ _ ?_
      rw [wi (), wc ()]
      refine cNo (by omega) ⟨by omega, cY (by omega) (vc_Blocks_openCodes_88 _ _ _ _ _ _ ?_)⟩
      show (0 ≤ w32 (od i) ∧ w32 (od i) < (288 : Nat)) ∧ ∀ S2 : ms, S2 = wI A 76 (w32 (od i)) 0 → _
      rw [wo]
      exact ⟨by omega, fun S2 e => by rw [e]; exact z⟩
theorem tc_told {t : Int → Int} {c o : Nat} {x2 x3 u : Int} {st : Rd} (he : 0 ≤ en ∧ en ≤ 6000) (ht : ∀ k : Int, 0 ≤ k → k < en → 0 ≤ t k ∧ t k < 256) (hc : c ≤ 19) (ct : st.1 ≠ 0) (hr : rdR en st) (hh : hR st u) : ∀ (m i : Nat) (S A : ms), i + m = 19 → S.1 9 7 = 0 → RdC S o en t → CB S A o en t st u → (∀ j : Nat, j < i → 0 ≤ S.1 76 (od j) ∧ S.1 76 (od j) < 8) → ∃ S1 A1, EX (fun a _ => a = 76) S S1 ∧ CB S1 A1 o en t st u ∧ (∀ j : Nat, j < 19 → 0 ≤ S1.1 76 (od j) ∧ S1.1 76 (od j) < 8) ∧ ∀ (r : Option Value) (T : ms), EV q 136 51 [some (.ref 30), some (.ref 9), some (vI x2), some (vI x3), some (vI c), some (vI 19)] [] A1 r T → EV q 136 51 [some (.ref 30), some (.ref 9), some (vI x2), some (vI x3), some (vI c), some (vI i)] [] A r T := by
  obtain ⟨z, z', st', h', ⟨f1, f2, f3, f4⟩, fR, f5, f6, f7⟩ := jbitsR0 (q := q) (hi := 0) he.2 ht (Or.inl rfl) (n := 3) (by omega) hr hh
  have e' := f2.1 ct
  have p3 : (2 : Int) ^ 3 = 8 := by decide
  rw [p3] at fR
  intro m
  induction m with
  | zero =>
    intro i S A hi hS hC hA hj
    have e : i = 19 := by omega
    subst e
    exact ⟨S, A, EX.refl _ S, hA, hj, fun r T y => y⟩
  | succ m ih =>
    intro i S A hi hS hC hA hj
    have wi : Unit → w32 ((i : Nat) : Int) = i := fun _ => w32_of (by omega)
    have wc : Unit → w32 ((c : Nat) : Int) = c := fun _ => w32_of (by omega)
    have g := (od_rg (j := i) (by omega)).1
    have wo : w32 (od i) = od i := w32_of (by omega)
    have ho := hC.2.2.1
    -- whatever is written
    have key : ∀ (A2 : ms) (v : Int), (0 ≤ v ∧ v < 8) → CB S A2 o en t st u → ∃ S1 A1, EX (fun a _ => a = 76) S S1 ∧ CB S1 A1 o en t st u ∧ (∀ j : Nat, j < 19 → 0 ≤ S1.1 76 (od j) ∧ S1.1 76 (od j) < 8) ∧ ∀ (r : Option Value) (T : ms), EV q 136 51 [some (.ref 30), some (.ref 9), some (vI x2), some (vI x3), some (vI c), some (vI 19)] [] A1 r T → EV q 136 88 [some (.ref 30), some (.ref 9), some (vI x2), some (vI x3), some (vI c), some (vI i)] [vI v, vI (od i), .ref 76] A2 r T := by
      intro A2 v hv hA2
      have hA3 := CB_I (od i) v (by decide : 76 ≠ 9) (by omega) (by omega) ho hA2
      have ex : EX (fun a _ => a = 76) S (wI S 76 (od i) v) := EX.wr (EX.refl _ S) rfl
      obtain ⟨S1, A1, g1, g2, g3, g4⟩ := ih (i + 1) (wI S 76 (od i) v) (wI A2 76 (od i) v) (by omega) (by rw [wI_no _ (by omega)]; exact hS) (RdC_ey hC ex.ey (fun k => show ¬ (2 : Nat) = 76 by decide)) hA3 (fun j hj' => by
        by_cases d : j = i
        · subst d
          rw [wI_at]
          exact hv
        · rw [wI_no _ (fun z => by have := od_inj (by omega) (by omega) z.2; omega)]
          exact hj j (by omega))
      refine ⟨S1, A1, EX.trans ex g1, g2, g3, fun r T y => vc_Blocks_openCodes_88 _ _ _ _ _ _ ?_⟩
      have zz := g4 r T y
      rw [show ((i + 1 : Nat) : Int) = (i : Int) + 1 by omega] at zz
      rw [wo]
      exact ⟨by omega, fun S2 e => by rw [e]; exact zz⟩
    by_cases cc : (c : Int) ≤ i
    · obtain ⟨S1, A1, g1, g2, g3, g4⟩ := key A 0 (by decide) hA
      refine ⟨S1, A1, g1, g2, g3, fun r T y => vc_Blocks_openCodes_51 _ _ _ _ ?_⟩
      rw [wi (), wc ()]
      exact cNo (by omega) ⟨by omega, cY cc (g4 r T y)⟩
    · obtain ⟨A2, k1, k2⟩ := f6 S A o hS hC hA
      rw [e'] at k2
      obtain ⟨S1, A1, g1, g2, g3, g4⟩ := key A2 z fR.1 (CB_told ct k2)
      refine ⟨S1, A1, g1, g2, g3, fun r T y => vc_Blocks_openCodes_51 _ _ _ _ ?_⟩
      rw [wi (), wc ()]
      exact cNo (by omega) ⟨by omega, cNo cc ⟨z, A2, k1, g4 r T y⟩⟩
theorem tm_told {t : Int → Int} {c : Nat} {x1 x2 u : Int} {st : Rd} (he : 0 ≤ en ∧ en ≤ 6000) (ht : ∀ k : Int, 0 ≤ k → k < en → 0 ≤ t k ∧ t k < 256) (hc : c ≤ 19) (ct : st.1 ≠ 0) (hr : rdR en st) (hh : hR st u) : ∀ (m i : Nat) (S B : ms), i + m = c → S.1 367 18 = 0 → RdM S en t → MB S B en st u → ∃ S1 B1, EX (fun a _ => a = 389) S S1 ∧ MB S1 B1 en st u ∧ ∀ (r : Option Value) (T : ms), EV q 346 81 [some (.ref 367), some (vI x1), some (vI x2), some (vI c), some (vI c), none, none, none, none] [] B1 r T → EV q 346 81 [some (.ref 367), some (vI x1), some (vI x2), some (vI c), some (vI i), none, none, none, none] [] B r T := by
  obtain ⟨z, z', st', h', ⟨f1, f2, f3, f4⟩, fR, f5, f6, f7⟩ := jbitsR0 (q := q) (hi := 0) he.2 ht (Or.inl rfl) (n := 3) (by omega) hr hh
  have e' := f2.1 ct
  intro m
  induction m with
  | zero =>
    intro i S B hi hS hC hB
    have e : i = c := by omega
    subst e
    exact ⟨S, B, EX.refl _ S, hB, fun r T y => y⟩
  | succ m ih =>
    intro i S B hi hS hC hB
    have wi : Unit → w32 ((i : Nat) : Int) = i := fun _ => w32_of (by omega)
    have wc : Unit → w32 ((c : Nat) : Int) = c := fun _ => w32_of (by omega)
    obtain ⟨g, g9, _⟩ := od_rg (j := i) (by omega)
    have wo : w32 (od i) = od i := w32_of (by omega)
    obtain ⟨B2, k1, k2⟩ := f7 S B hS hC hB
    rw [e'] at k2
    have hB3 := MB_I (od i) z' (by decide : 389 ≠ 367) (by decide) (MB_told (u' := u) ct k2)
    have ex : EX (fun a _ => a = 389) S (wI S 389 (od i) z') := EX.wr (EX.refl _ S) rfl
    obtain ⟨S1, B1, g1, g2, g3⟩ := ih (i + 1) (wI S 389 (od i) z') (wI B2 389 (od i) z') (by omega) (by rw [wI_no _ (by omega)]; exact hS) (RdM_ey hC ex.ey (fun k => show ¬ (368 : Nat) = 389 by decide)) hB3
    refine ⟨S1, B1, EX.trans ex g1, g2, fun r T y => vc_MD_readOwn_81 _ _ _ _ ?_⟩
    have zz := g3 r T y
    rw [show ((i + 1 : Nat) : Int) = (i : Int) + 1 by omega] at zz
    rw [wi (), wc (), g9, wo]
    exact cNo (by omega) ⟨by omega, z', B2, k1, by omega, fun S2 e => by rw [e]; exact zz⟩
theorem tm_clear {x1 x2 x3 : Int} : ∀ (m i : Nat) (B : ms), i + m = 20 → (∀ k : Nat, k < i → B.1 389 k = 0) → ∃ B1, EX (fun a _ => a = 389) B B1 ∧ (∀ k : Nat, k < 20 → B1.1 389 k = 0) ∧ ∀ (r : Option Value) (T : ms), EV q 346 81 [some (.ref 367), some (vI x1), some (vI x2), some (vI x3), some (vI 0), none, none, none, none] [] B1 r T → EV q 346 57 [some (.ref 367), some (vI x1), some (vI x2), some (vI x3), some (vI i), none, none, none, none] [] B r T := by
  intro m
  induction m with
  | zero =>
    intro i B hi h
    have e : i = 20 := by omega
    subst e
    exact ⟨B, EX.refl _ B, h, fun r T y => vc_MD_readOwn_57 _ _ _ _ (cY (by decide) y)⟩
  | succ m ih =>
    intro i B hi h
    have wi : Unit → w32 ((i : Nat) : Int) = i := fun _ => w32_of (by omega)
    obtain ⟨B1, g1, g2, g3⟩ := ih (i + 1) (wI B 389 i 0) (by omega) (fun k hk => by
      by_cases d : k = i
      · subst d
        exact wI_at _ _ _ _
      · rw [wI_no _ (by omega)]
        exact h k (by omega))
    refine ⟨B1, EX.trans (EX.wr (EX.refl _ B) rfl) g1, g2, fun r T y => vc_MD_readOwn_57 _ _ _ _ ?_⟩
    have zz := g3 r T y
    rw [show ((i + 1 : Nat) : Int) = (i : Int) + 1 by omega] at zz
    rw [wi ()]
    exact cNo (by omega) ⟨by omega, fun S2 e => by rw [e]; exact zz⟩
theorem jthr {t : Int → Int} {c : Nat} (he : 0 ≤ en ∧ en ≤ 6000) (ht : ∀ k : Int, 0 ≤ k → k < en → 0 ≤ t k ∧ t k < 256) (hc : c ≤ 19) : ∀ (m i : Nat) (W : Nat → Int) (st : Rd) (h : Int), i + m = c → rdR en st → hR st h → st.1 = 0 → (∀ j : Nat, 0 ≤ W j ∧ W j < 8) → (∀ j : Nat, i ≤ j → W j = 0) → ∃ (stf : Rd) (hf : Int) (Wf : Nat → Int), (rdR en stf ∧ Fw st stf ∧ hR stf hf) ∧ (stf.1 = 0 → rdP st h ≤ rdP stf hf) ∧ (∀ j : Nat, 0 ≤ Wf j ∧ Wf j < 8) ∧ (∀ (S A : ms) (o : Nat) (x2 x3 : Int), S.1 9 7 = 0 → RdC S o en t → (∀ j : Nat, j < i → S.1 76 (od j) = W j) → CB S A o en t st h → ∃ S1 A1, EX (fun a _ => a = 76) S S1 ∧ CB S1 A1 o en t stf hf ∧ (∀ j : Nat, j < 19 → 0 ≤ S1.1 76 (od j) ∧ S1.1 76 (od j) < 8) ∧ (stf.1 = 0 → ∀ j : Nat, j < 19 → S1.1 76 (od j) = Wf j) ∧ ∀ (r : Option Value) (T : ms), EV q 136 51 [some (.ref 30), some (.ref 9), some (vI x2), some (vI x3), some (vI c), some (vI 19)] [] A1 r T → EV q 136 51 [some (.ref 30), some (.ref 9), some (vI x2), some (vI x3), some (vI c), some (vI i)] [] A r T) ∧ ∀ (S B : ms) (x1 x2 : Int), S.1 367 18 = 0 → RdM S en t → (∀ j : Nat, j < 19 → S.1 389 (od j) = W j) → MB S B en st h → ∃ S1 B1, EX (fun a _ => a = 389) S S1 ∧ MB S1 B1 en stf hf ∧ (stf.1 = 0 → ∀ j : Nat, j < 19 → S1.1 389 (od j) = Wf j) ∧ ∀ (r : Option Value) (T : ms), EV q 346 81 [some (.ref 367), some (vI x1), some (vI x2), some (vI c), some (vI c), none, none, none, none] [] B1 r T → EV q 346 81 [some (.ref 367), some (vI x1), some (vI x2), some (vI c), some (vI i), none, none, none, none] [] B r T := by
  intro m
  induction m with
  | zero =>
    intro i W st h hi hr hh c0 hW hW0
    have e : i = c := by omega
    subst e
    refine ⟨st, h, W, ⟨hr, Fw_r st, hh⟩, fun _ => Int.le_refl _, hW, fun S A o x2 x3 hS hC hj hA => ?_, fun S B x1 x2 hS hC hj hB => ⟨S, B, EX.refl _ S, hB, fun _ => hj, fun r T y => y⟩⟩
    have ho := hC.2.2.1
    obtain ⟨A1, f1, f2, f3, f4⟩ := tc_zero (q := q) (c := i) (x2 := x2) (x3 := x3) hc (19 - i) i A (by omega) (Nat.le_refl _)
    obtain ⟨S1, s1, s2, s3⟩ := CB_X (X := fun a _ => a = 76) (fun a k z => by omega) hA f1
    have hf : ∀ j : Nat, j < 19 → S1.1 76 (od j) = W j := by
      intro j hj'
      rw [s2 76 _ rfl]
      by_cases d : j < i
      · rw [f2 j d, hA.2.2.2 76 _ (by omega) (by omega) (by omega)]
        exact hj j d
      · rw [f3 j (by omega) hj', hW0 j (by omega)]
    exact ⟨S1, A1, s1, s3, fun j hj' => by rw [hf j hj']; exact hW j, fun _ => hf, f4⟩
  | succ m ih =>
    intro i W st h hi hr hh c0 hW hW0
    have wi : Unit → w32 ((i : Nat) : Int) = i := fun _ => w32_of (by omega)
    have wc : Unit → w32 ((c : Nat) : Int) = c := fun _ => w32_of (by omega)
    have ei : ((i + 1 : Nat) : Int) = (i : Int) + 1 := by omega
    obtain ⟨g, g9, _⟩ := od_rg (j := i) (by omega)
    have wo : w32 (od i) = od i := w32_of (by omega)
    obtain ⟨z, z', st1, h1, ⟨f1, f2, f3, f4⟩, fR, f5, f6, f7⟩ := jbitsR0 (q := q) (hi := 0) he.2 ht (Or.inl rfl) (n := 3) (by omega) hr hh
    have p3 : (2 : Int) ^ 3 = 8 := by decide
    rw [p3] at fR
    -- one step of the class, and of the reference
    have hcl : ∀ (A A2 A1 : ms) (x2 x3 : Int) (r : Option Value) (T : ms), EV q 123 0 [some (.ref 9), some (vI 3), none, none, none] [] A (some (vL z)) A2 → EV q 136 51 [some (.ref 30), some (.ref 9), some (vI x2), some (vI x3), some (vI c), some (vI (i + 1 : Nat))] [] (wI A2 76 (od i) z) r T → EV q 136 51 [some (.ref 30), some (.ref 9), some (vI x2), some (vI x3), some (vI c), some (vI i)] [] A r T := by
      intro A A2 A1 x2 x3 r T k1 k2
      rw [ei] at k2
      have k88 : EV q 136 88 [some (.ref 30), some (.ref 9), some (vI x2), some (vI x3), some (vI c), some (vI i)] [vI z, vI (od i), .ref 76] A2 r T := by
        refine vc_Blocks_openCodes_88 _ _ _ _ _ _ ?_
        rw [wo]
        exact ⟨by omega, fun S2 e => by rw [e]; exact k2⟩
      refine vc_Blocks_openCodes_51 _ _ _ _ ?_
      rw [wi (), wc ()]
      exact cNo (by omega) ⟨by omega, cNo (by omega) ⟨z, A2, k1, k88⟩⟩
    have hml : ∀ (B B2 : ms) (x1 x2 : Int) (r : Option Value) (T : ms), EV q 339 0 [some (.ref 367), some (vI 3), none, none, none, none, none] [] B (some (vL z')) B2 → EV q 346 81 [some (.ref 367), some (vI x1), some (vI x2), some (vI c), some (vI (i + 1 : Nat)), none, none, none, none] [] (wI B2 389 (od i) z') r T → EV q 346 81 [some (.ref 367), some (vI x1), some (vI x2), some (vI c), some (vI i), none, none, none, none] [] B r T := by
      intro B B2 x1 x2 r T k1 k2
      rw [ei] at k2
      refine vc_MD_readOwn_81 _ _ _ _ ?_
      rw [wi (), wc (), g9, wo]
      exact cNo (by omega) ⟨by omega, z', B2, k1, by omega, fun S2 e => by rw [e]; exact k2⟩
    have exC : ∀ S : ms, EX (fun a _ => a = 76) S (wI S 76 (od i) z) := fun S => EX.wr (EX.refl _ S) rfl
    have exM : ∀ S : ms, EX (fun a _ => a = 389) S (wI S 389 (od i) z') := fun S => EX.wr (EX.refl _ S) rfl
    by_cases c1 : st1.1 = 0
    case neg =>
      refine ⟨st1, h1, W, ⟨f1, f2, f3⟩, fun y => absurd y c1, hW, fun S A o x2 x3 hS hC hj hA => ?_, fun S B x1 x2 hS hC hj hB => ?_⟩
      · have ho := hC.2.2.1
        obtain ⟨A2, k1, k2⟩ := f6 S A o hS hC hA
        have hA3 := CB_I (od i) z (by decide : 76 ≠ 9) (by omega) (by omega) ho k2
        obtain ⟨S1, A1, m1, m2, m3, m4⟩ := tc_told (q := q) (c := c) (x2 := x2) (x3 := x3) he ht hc c1 f1 f3 (18 - i) (i + 1) (wI S 76 (od i) z) (wI A2 76 (od i) z) (by omega) (by rw [wI_no _ (by omega)]; exact hS) (RdC_ey hC (exC S).ey (fun k => show ¬ (2 : Nat) = 76 by decide)) hA3 (fun j hj' => by
          by_cases d : j = i
          · subst d
            rw [wI_at]
            exact fR.1
          · rw [wI_no _ (fun z => by have := od_inj (by omega) (by omega) z.2; omega), hj j (by omega)]
            exact hW j)
        exact ⟨S1, A1, EX.trans (exC S) m1, m2, m3, fun y => absurd y c1, fun r T y => hcl A A2 A1 x2 x3 r T k1 (m4 r T y)⟩
      · obtain ⟨B2, k1, k2⟩ := f7 S B hS hC hB
        have hB3 := MB_I (od i) z' (by decide : 389 ≠ 367) (by decide) k2
        obtain ⟨S1, B1, m1, m2, m3⟩ := tm_told (q := q) (c := c) (x1 := x1) (x2 := x2) he ht hc c1 f1 f3 m (i + 1) (wI S 389 (od i) z') (wI B2 389 (od i) z') (by omega) (by rw [wI_no _ (by omega)]; exact hS) (RdM_ey hC (exM S).ey (fun k => show ¬ (368 : Nat) = 389 by decide)) hB3
        exact ⟨S1, B1, EX.trans (exM S) m1, m2, fun y => absurd y c1, fun r T y => hml B B2 x1 x2 r T k1 (m3 r T y)⟩
    obtain ⟨ez, _, pz⟩ := f5 c1
    subst ez
    obtain ⟨W1, eW⟩ : ∃ W1 : Nat → Int, W1 = fun j => if j = i then z else W j := ⟨_, rfl⟩
    have a1 : W1 i = z := by rw [eW]; exact if_pos rfl
    have a2 : ∀ j : Nat, j ≠ i → W1 j = W j := fun j hj => by rw [eW]; exact if_neg hj
    obtain ⟨stf, hf, Wf, ⟨g1, g2, g3⟩, g4, g5, g6, g7⟩ := ih (i + 1) W1 st1 h1 (by omega) f1 f3 c1 (fun j => by
      by_cases d : j = i
      · subst d
        rw [a1]
        exact fR.1
      · rw [a2 j d]
        exact hW j) (fun j hj => by rw [a2 j (by omega)]; exact hW0 j (by omega))
    refine ⟨stf, hf, Wf, ⟨g1, Fw_t f2 g2, g3⟩, fun y => by have := g4 y; omega, g5, fun S A o x2 x3 hS hC hj hA => ?_, fun S B x1 x2 hS hC hj hB => ?_⟩
    · have ho := hC.2.2.1
      obtain ⟨A2, k1, k2⟩ := f6 S A o hS hC hA
      have hA3 := CB_I (od i) z (by decide : 76 ≠ 9) (by omega) (by omega) ho k2
      obtain ⟨S1, A1, m1, m2, m3, m4, m5⟩ := g6 (wI S 76 (od i) z) (wI A2 76 (od i) z) o x2 x3 (by rw [wI_no _ (by omega)]; exact hS) (RdC_ey hC (exC S).ey (fun k => show ¬ (2 : Nat) = 76 by decide)) (fun j hj' => by
        by_cases d : j = i
        · subst d
          rw [wI_at, a1]
        · rw [wI_no _ (fun z => by have := od_inj (by omega) (by omega) z.2; omega), a2 j d]
          exact hj j (by omega)) hA3
      exact ⟨S1, A1, EX.trans (exC S) m1, m2, m3, m4, fun r T y => hcl A A2 A1 x2 x3 r T k1 (m5 r T y)⟩
    · obtain ⟨B2, k1, k2⟩ := f7 S B hS hC hB
      have hB3 := MB_I (od i) z (by decide : 389 ≠ 367) (by decide) k2
      obtain ⟨S1, B1, m1, m2, m3, m4⟩ := g7 (wI S 389 (od i) z) (wI B2 389 (od i) z) x1 x2 (by rw [wI_no _ (by omega)]; exact hS) (RdM_ey hC (exM S).ey (fun k => show ¬ (368 : Nat) = 389 by decide)) (fun j hj' => by
        by_cases d : j = i
        · subst d
          rw [wI_at, a1]
        · rw [wI_no _ (fun z => by have := od_inj (by omega) (by omega) z.2; omega), a2 j d]
          exact hj j hj') hB3
      exact ⟨S1, B1, EX.trans (exM S) m1, m2, m3, fun r T y => hml B B2 x1 x2 r T k1 (m4 r T y)⟩
end Thr
