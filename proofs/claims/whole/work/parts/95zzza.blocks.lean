/-! BLOCKS: the symbols of a block, both sides at once -/
section Blk2
variable {q : Nat × (Nat → Int32)} {en : Int}
theorem bs_told {S A : ms} {o a1 a2 i : Nat} {t : Int → Int} {st : Rd} {u rc : Int} (hi : i < 1000000) (c : st.1 ≠ 0) (hr : rdR en st) (h1 : isCode a1) (h2 : isCode a2) (h : CB S A o en t st u) : EV q 133 3 [some (.ref 9), some (.ref a1), some (.ref a2), some (vI rc), some (vI i), none] [] A none A := by
  have wi : Unit → w32 ((i : Nat) : Int) = i := fun _ => w32_of (by omega)
  have wr : w32 st.1 = st.1 := w32_of (by have := hr.1; omega)
  refine vc_Blocks_openSymbols_3 _ _ _ h1 _ h2 ?_
  rw [wi (), h.2.1.2.1, wr]
  exact cNo (by omega) (cY c ⟨rfl, rfl⟩)
theorem ms_told {S B : ms} {st : Rd} {u : Int} (c : st.1 ≠ 0) (hr : rdR en st) (h : MB S B en st u) : EV q 349 2 [some (.ref 367), some (vI 1), none, none, none, none, none, none] [] B none B := by
  have kf := md_fine (q := q) hr h
  rw [if_neg c] at kf
  exact vc_MD_openSymbols_2 _ (cNo (by decide) ⟨0, B, kf, cY (by decide) ⟨rfl, rfl⟩⟩)
theorem jsyms {t l l' : Int → Int} {n n' : Nat} {rc : Int} (he : 0 ≤ en ∧ en ≤ 6000) (ht : ∀ k : Int, 0 ≤ k → k < en → 0 ≤ t k ∧ t k < 256) (hn : n ≤ 288) (hl : ∀ s : Nat, s < n → 0 ≤ l s ∧ l s ≤ 20) (hn' : n' ≤ 288) (hl' : ∀ s : Nat, s < n' → 0 ≤ l' s ∧ l' s ≤ 20) (hrc : 0 ≤ rc ∧ rc ≤ 100000) : ∀ (m i : Nat) (st : Rd) (h : Int), 8 * en - rdP st h < m → i + m ≤ 60000 → rdR en st → hR st h → ∃ (stf : Rd) (hf : Int), (rdR en stf ∧ Fw st stf ∧ hR stf hf) ∧ (stf.1 = 0 → rdP st h ≤ rdP stf hf) ∧ (∀ (S A : ms) (o a1 a2 : Nat), S.1 9 7 = 0 → RdC S o en t → CodC S a1 n l → CodC S a2 n' l' → CB S A o en t st h → ∃ A', EV q 133 3 [some (.ref 9), some (.ref a1), some (.ref a2), some (vI rc), some (vI i), none] [] A none A' ∧ CB S A' o en t stf hf) ∧ ∀ (S B : ms) (m1 m2 m3 m4 : Nat), S.1 367 18 = 0 → S.1 367 58 = n → S.1 367 59 = n' → S.2.1 367 60 = rc → TbM S → RdM S en t → CodM S 385 m1 386 m2 n l → CodM S 387 m3 388 m4 n' l' → MB S B en st h → ∃ B', EV q 349 2 [some (.ref 367), some (vI 1), none, none, none, none, none, none] [] B none B' ∧ MB S B' en stf hf := by
  intro m
  induction m with
  | zero =>
    intro i st h hm hi hr hh
    have a1 := hr.2.1
    have a2 := hh.1
    unfold rdP at hm
    omega
  | succ m ih =>
    intro i st h hm hi hr hh
    by_cases c : st.1 = 0
    case neg =>
      exact ⟨st, h, ⟨hr, Fw_r st, hh⟩, fun _ => Int.le_refl _, fun S A o a1 a2 hS hC hD hE hA => ⟨A, bs_told (by omega) c hr hD.1 hE.1 hA, hA⟩, fun S B m1 m2 m3 m4 hS h58 h59 h60 hT hC hD hE hB => ⟨B, ms_told c hr hB, hB⟩⟩
    have wi : Unit → w32 ((i : Nat) : Int) = i := fun _ => w32_of (by omega)
    have ei : ((i + 1 : Nat) : Int) = (i : Int) + 1 := by omega
    obtain ⟨s, st1, h1, ⟨i1, i2, i3, i4⟩, i5, i6, i7, i8⟩ := jsym (q := q) (hi := 0) he ht (Or.inl rfl) hn hl hr hh
    -- the class as far as the symbol
    have hc : ∀ (S A : ms) (o a1 a2 : Nat), S.1 9 7 = 0 → RdC S o en t → CodC S a1 n l → CodC S a2 n' l' → CB S A o en t st h → ∃ A1, CB S A1 o en t st1 h1 ∧ ∀ T : ms, (((¬ w32 s = 256) → ((w32 s < 0) → EV q 133 58 [some (.ref 9), some (.ref a1), some (.ref a2), some (vI rc), some (vI i), some (vI s)] [] A1 none T) ∧ ((¬ w32 s < 0) → ((256 ≤ w32 s) → EV q 133 58 [some (.ref 9), some (.ref a1), some (.ref a2), some (vI rc), some (vI i), some (vI s)] [] A1 none T) ∧ ((¬ 256 ≤ w32 s) → ∃ (S4 : ms), EV q 120 0 [some (.ref 9), some (vI s)] [] A1 none S4 ∧ EV q 133 78 [some (.ref 9), some (.ref a1), some (.ref a2), some (vI rc), some (vI i), some (vI s)] [] S4 none T))) ∧ ((¬ (¬ w32 s = 256)) → T = A1)) → EV q 133 3 [some (.ref 9), some (.ref a1), some (.ref a2), some (vI rc), some (vI i), none] [] A none T := by
      intro S A o a1 a2 hS hC hD hE hA
      obtain ⟨A1, k1, k2⟩ := i7 S A o a1 hS hC hD hA
      refine ⟨A1, k2, fun T y => vc_Blocks_openSymbols_3 _ _ _ hD.1 _ hE.1 ?_⟩
      rw [wi (), hA.2.1.2.1, c]
      exact cNo (by omega) (cNN (by decide) ⟨s, A1, k1, y.1, fun z => ⟨rfl, y.2 z⟩⟩)
    have hm' : ∀ (S B : ms) (m1 m2 : Nat), S.1 367 18 = 0 → S.1 367 58 = n → RdM S en t → CodM S 385 m1 386 m2 n l → MB S B en st h → ∃ B1, MB S B1 en st1 h1 ∧ ∀ T : ms, (((0 ≤ w32 s) → ((256 ≤ w32 s) → ((¬ w32 s = 256) → MatM q 1 s B1 none T) ∧ ((¬ (¬ w32 s = 256)) → EV q 349 223 [some (.ref 367), some (vI 0), some (vI s), none, none, none, none, none] [] B1 none T)) ∧ ((¬ 256 ≤ w32 s) → ∃ (S20 : ms), EV q 336 0 [some (.ref 367), some (vI s)] [] B1 none S20 ∧ EV q 349 223 [some (.ref 367), some (vI 1), some (vI s), none, none, none, none, none] [] S20 none T)) ∧ ((¬ 0 ≤ w32 s) → T = B1)) → EV q 349 2 [some (.ref 367), some (vI 1), none, none, none, none, none, none] [] B none T := by
      intro S B m1 m2 hS h58 hC hD hB
      obtain ⟨B1, k1, k2⟩ := i8 S B 385 m1 386 m2 hS hC hD hB
      have kf := md_fine (q := q) hr hB
      rw [if_pos c] at kf
      have e58 : B.1 367 58 = n := by rw [hB.2.2.2 367 58 (by omega) (by omega)]; exact h58
      refine ⟨B1, k2, fun T y => vc_MD_openSymbols_2 _ (cNo (by decide) ⟨1, B, kf, cNo (by decide) ⟨s, B1, ?_, y.1, fun z => ⟨rfl, y.2 z⟩⟩⟩)⟩
      rw [e58]
      exact k1
    by_cases c1 : st1.1 = 0
    case neg =>
      have es := i6 c1
      have ws : w32 s = -1 := by rw [es]; decide
      refine ⟨st1, h1, ⟨i1, i2, i3⟩, fun y => absurd y c1, fun S A o a1 a2 hS hC hD hE hA => ?_, fun S B m1 m2 m3 m4 hS h58 h59 h60 hT hC hD hE hB => ?_⟩
      · obtain ⟨A1, k1, k2⟩ := hc S A o a1 a2 hS hC hD hE hA
        refine ⟨A1, k2 A1 ?_, k1⟩
        have k3 := bs_told (q := q) (i := i + 1) (rc := rc) (by omega) c1 i1 hD.1 hE.1 k1
        rw [ei] at k3
        rw [ws]
        refine cY (by decide) (cY (by decide) (vc_Blocks_openSymbols_58 _ _ _ _ hD.1 _ hE.1 ?_))
        rw [ws]
        exact cY (by decide) (vc_Blocks_openSymbols_78 _ _ _ _ hD.1 _ hE.1 k3)
      · obtain ⟨B1, k1, k2⟩ := hm' S B m1 m2 hS h58 hC hD hB
        refine ⟨B1, k2 B1 ?_, k1⟩
        rw [ws]
        exact cNo (by decide) rfl
    obtain ⟨sr, sp⟩ := i5 c1
    have ws : w32 s = s := w32_of (by omega)
    by_cases c6 : s = 256
    · refine ⟨st1, h1, ⟨i1, i2, i3⟩, fun y => by omega, fun S A o a1 a2 hS hC hD hE hA => ?_, fun S B m1 m2 m3 m4 hS h58 h59 h60 hT hC hD hE hB => ?_⟩
      · obtain ⟨A1, k1, k2⟩ := hc S A o a1 a2 hS hC hD hE hA
        refine ⟨A1, k2 A1 ?_, k1⟩
        rw [ws]
        exact cNN c6 rfl
      · obtain ⟨B1, k1, k2⟩ := hm' S B m1 m2 hS h58 hC hD hB
        refine ⟨B1, k2 B1 ?_, k1⟩
        rw [ws]
        exact cY (by omega) (cY (by omega) (cNN c6 (vc_MD_openSymbols_223 _ _ (vc_MD_openSymbols_2 _ (cY (by decide) ⟨rfl, rfl⟩)))))
    by_cases c5 : s < 256
    · -- an octet
      have fe := Fw_emit (v := s) (st := st1)
      have pe : rdP st1 h1 ≤ rdP (rdEmit s st1) h1 := by
        have := fe.2
        unfold rdP
        omega
      obtain ⟨stf, hf, ⟨j1, j2, j3⟩, j4, j5, j6⟩ := ih (i + 1) (rdEmit s st1) h1 (by omega) (by omega) (rdR_emit i1) (hR_n i3 fe)
      refine ⟨stf, hf, ⟨j1, Fw_t i2 (Fw_t fe j2), j3⟩, fun y => by have := j4 y; omega, fun S A o a1 a2 hS hC hD hE hA => ?_, fun S B m1 m2 m3 m4 hS h58 h59 h60 hT hC hD hE hB => ?_⟩
      · obtain ⟨A1, k1, k2⟩ := hc S A o a1 a2 hS hC hD hE hA
        obtain ⟨A2, k3, k4⟩ := sb_emit (q := q) (v := s) hC i1 k1
        obtain ⟨A3, k5, k6⟩ := j5 S A2 o a1 a2 hS hC hD hE k4
        rw [ei] at k5
        refine ⟨A3, k2 A3 ?_, k6⟩
        rw [ws]
        exact cY c6 (cNo (by omega) (cNo (by omega) ⟨A2, k3, vc_Blocks_openSymbols_78 _ _ _ _ hD.1 _ hE.1 k5⟩))
      · obtain ⟨B1, k1, k2⟩ := hm' S B m1 m2 hS h58 hC hD hB
        obtain ⟨B2, k3, k4⟩ := mb_emit (q := q) (v := s) i1 he.2 i3 k1
        obtain ⟨B3, k5, k6⟩ := j6 S B2 m1 m2 m3 m4 hS h58 h59 h60 hT hC hD hE k4
        refine ⟨B3, k2 B3 ?_, k6⟩
        rw [ws]
        exact cY (by omega) (cNo (by omega) ⟨B2, k3, vc_MD_openSymbols_223 _ _ k5⟩)
    · -- a match
      obtain ⟨st2, h2, ⟨e1, e2, e3⟩, e4, e5, e6⟩ := jmat (q := q) he ht hn' hl' hrc (s := s) (by omega) i1 i3
      by_cases c2 : st2.1 = 0
      case neg =>
        refine ⟨st2, h2, ⟨e1, Fw_t i2 e2, e3⟩, fun y => absurd y c2, fun S A o a1 a2 hS hC hD hE hA => ?_, fun S B m1 m2 m3 m4 hS h58 h59 h60 hT hC hD hE hB => ?_⟩
        · obtain ⟨A1, k1, k2⟩ := hc S A o a1 a2 hS hC hD hE hA
          obtain ⟨A2, k3, k4⟩ := e5 S A1 o a2 hS hC hE k1
          have k5 := bs_told (q := q) (i := i + 1) (rc := rc) (by omega) c2 e1 hD.1 hE.1 k4
          rw [ei] at k5
          refine ⟨A2, k2 A2 ?_, k4⟩
          rw [ws]
          refine cY c6 (cNo (by omega) (cY (by omega) (vc_Blocks_openSymbols_58 _ _ _ _ hD.1 _ hE.1 ?_)))
          rw [ws]
          exact cNo (by omega) ⟨A2, k3, vc_Blocks_openSymbols_78 _ _ _ _ hD.1 _ hE.1 k5⟩
        · obtain ⟨B1, k1, k2⟩ := hm' S B m1 m2 hS h58 hC hD hB
          obtain ⟨B2, k3, k4⟩ := e6 S B1 m3 m4 hS h59 h60 hT hC hE k1
          refine ⟨B2, k2 B2 ?_, k3⟩
          rw [ws]
          exact cY (by omega) (cY (by omega) (cY c6 (k4 1 none B2 (vc_MD_openSymbols_223 _ _ (ms_told c2 e1 k3)) (fun _ => ⟨rfl, rfl⟩))))
      have p2 := e4 c2
      obtain ⟨stf, hf, ⟨j1, j2, j3⟩, j4, j5, j6⟩ := ih (i + 1) st2 h2 (by omega) (by omega) e1 e3
      refine ⟨stf, hf, ⟨j1, Fw_t i2 (Fw_t e2 j2), j3⟩, fun y => by have := j4 y; omega, fun S A o a1 a2 hS hC hD hE hA => ?_, fun S B m1 m2 m3 m4 hS h58 h59 h60 hT hC hD hE hB => ?_⟩
      · obtain ⟨A1, k1, k2⟩ := hc S A o a1 a2 hS hC hD hE hA
        obtain ⟨A2, k3, k4⟩ := e5 S A1 o a2 hS hC hE k1
        obtain ⟨A3, k5, k6⟩ := j5 S A2 o a1 a2 hS hC hD hE k4
        rw [ei] at k5
        refine ⟨A3, k2 A3 ?_, k6⟩
        rw [ws]
        refine cY c6 (cNo (by omega) (cY (by omega) (vc_Blocks_openSymbols_58 _ _ _ _ hD.1 _ hE.1 ?_)))
        rw [ws]
        exact cNo (by omega) ⟨A2, k3, vc_Blocks_openSymbols_78 _ _ _ _ hD.1 _ hE.1 k5⟩
      · obtain ⟨B1, k1, k2⟩ := hm' S B m1 m2 hS h58 hC hD hB
        obtain ⟨B2, k3, k4⟩ := e6 S B1 m3 m4 hS h59 h60 hT hC hE k1
        obtain ⟨B3, k5, k6⟩ := j6 S B2 m1 m2 m3 m4 hS h58 h59 h60 hT hC hD hE k3
        refine ⟨B3, k2 B3 ?_, k6⟩
        rw [ws]
        exact cY (by omega) (cY (by omega) (cY c6 (k4 1 none B3 (vc_MD_openSymbols_223 _ _ k5) (fun y => absurd c2 y))))
end Blk2
