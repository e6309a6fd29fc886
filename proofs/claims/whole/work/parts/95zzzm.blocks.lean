/-! BLOCKS: all blocks, both sides at once -/
section Blk6
variable {q : Nat × (Nat → Int32)} {en : Int}
theorem cl_fin {S A : ms} {o : Nat} {t : Int → Int} {st : Rd} {u x2 x3 x4 : Int} (hd : ¬ w32 x3 = 0 ∨ st.1 ≠ 0) (hr : rdR en st) (ho : (300 < o ∨ o = 7)) (h : CB S A o en t st u) : EV q 129 5 [some (.ref 30), some (.ref 9), some (vI x2), some (vI x3), some (vI x4)] [] A none (wI A 9 8 0) ∧ CR S (wI A 9 8 0) o en st := by
  obtain ⟨k1, k2⟩ := cb_whole (q := q) ho h
  have wr : w32 st.1 = st.1 := w32_of (by have := hr.1; omega)
  have k127 : EV q 129 127 [some (.ref 30), some (.ref 9), some (vI x2), some (vI x3), some (vI x4)] [] A none (wI A 9 8 0) := vc_Blocks_openAll_127 _ _ _ ⟨_, k1, rfl, rfl⟩
  refine ⟨vc_Blocks_openAll_5 _ _ _ ⟨fun _ => k127, fun _ => ⟨fun _ => k127, fun w => ?_⟩⟩, k2⟩
  have c : st.1 ≠ 0 := by
    rcases hd with y | y
    · exact absurd y w
    · exact y
  rw [h.2.1.2.1, wr]
  exact cY c k127
theorem ml_fin {S B : ms} {st : Rd} {u x1 x3 : Int} (hd : ¬ w32 x3 = 0 ∨ st.1 ≠ 0) (hr : rdR en st) (hh : hR st u) (h : MB S B en st u) : ∃ B1, EV q 343 16 [some (.ref 367), some (vL x1), none, some (vI x3), none] [] B none B1 ∧ MR S B1 en st := by
  obtain ⟨B1, k1, k2⟩ := mb_whole (q := q) hh h
  have k120 : EV q 343 120 [some (.ref 367), some (vL x1), none, some (vI x3), none] [] B none B1 := vc_MD_openBlocks_120 _ _ ⟨B1, k1, rfl, rfl⟩
  refine ⟨B1, vc_MD_openBlocks_16 _ _ ⟨fun _ => k120, fun w => ?_⟩, k2⟩
  have c : st.1 ≠ 0 := by
    rcases hd with y | y
    · exact absurd y w
    · exact y
  have kf := md_fine (q := q) hr h
  rw [if_neg c] at kf
  exact ⟨0, B, kf, cY (by decide) k120⟩
theorem jblk {t : Int → Int} {rc : Int} (he : 0 ≤ en ∧ en ≤ 6000) (ht : ∀ k : Int, 0 ≤ k → k < en → 0 ≤ t k ∧ t k < 256) (hrc : 0 ≤ rc ∧ rc ≤ 100000) : ∀ (m i : Nat) (st : Rd) (h : Int), 8 * en - rdP st h < m → i + m ≤ 60000 → rdR en st → hR st h → ∃ stf : Rd, (rdR en stf ∧ Fw st stf) ∧ (∀ (S A : ms) (o : Nat), S.1 9 7 = 0 → RdC S o en t → CodC S 31 288 flF → CodC S 42 32 (fun _ => 5) → CB S A o en t st h → ∃ S1 A1, EX XCc S S1 ∧ EV q 129 5 [some (.ref 30), some (.ref 9), some (vI rc), some (vI 0), some (vI i)] [] A none A1 ∧ CR S1 A1 o en stf) ∧ ∀ (S B : ms) (x1 : Int), S.1 367 18 = 0 → S.2.1 367 60 = rc → TbM S → RdM S en t → MB S B en st h → ∃ S1 B1, EX XCm S S1 ∧ EV q 343 16 [some (.ref 367), some (vL x1), none, some (vI 0), none] [] B none B1 ∧ MR S1 B1 en stf := by
  intro m
  induction m with
  | zero =>
    intro i st h hm hi hr hh
    have a1 := hr.2.1
    have a2 := hh.1
    unfold rdP at hm
    omega
  | succ m ih =>
    intro i st h hm hi hr hh
    by_cases c : st.1 = 0
    case neg =>
      refine ⟨st, ⟨hr, Fw_r st⟩, fun S A o hS hC hD hE hA => ?_, fun S B x1 hS h60 hT hC hB => ?_⟩
      · obtain ⟨k1, k2⟩ := cl_fin (q := q) (x2 := rc) (x3 := 0) (x4 := i) (Or.inr c) hr hC.2.2.1 hA
        exact ⟨S, _, EX.refl _ S, k1, k2⟩
      · obtain ⟨B1, k1, k2⟩ := ml_fin (q := q) (x1 := x1) (x3 := 0) (Or.inr c) hr hh hB
        exact ⟨S, B1, EX.refl _ S, k1, k2⟩
    have wi : Unit → w32 ((i : Nat) : Int) = i := fun _ => w32_of (by omega)
    have ei : ((i + 1 : Nat) : Int) = (i : Int) + 1 := by omega
    obtain ⟨z, z', st1, h1, ⟨a1, a2, a3⟩, aR, a4, a5, a6⟩ := jbit1 (q := q) he ht hr hh
    obtain ⟨v, v', st2, h2, ⟨b1, b2, b3, b4⟩, bR, b5, b6, b7⟩ := jbitsR0 (q := q) (hi := 0) he.2 ht (Or.inl rfl) (n := 2) (by omega) a1 a3
    have p2 : (2 : Int) ^ 2 = 4 := by decide
    rw [p2] at bR
    have wz : w64 z = z := w64_of (by omega)
    have wz' : w32 z' = z' := w32_of (by omega)
    have w1 : w64 1 = 1 := by decide
    obtain ⟨st3, h3, ⟨g1, g2, g3⟩, g4, g5, g6⟩ := jone (q := q) (rc := rc) (m := 60000) (z := v) he ht hrc (st := st2) (h := h2) (by
      have q1 := b1.2.1
      have q2 := b3.1
      unfold rdP
      omega) (Nat.le_refl _) b1 b3 bR.1
    obtain ⟨fl, hfl⟩ : ∃ fl : Int, (z = 1 → fl = 1) ∧ (z ≠ 1 → fl = 0) := by
      by_cases y : z = 1
      · exact ⟨1, fun _ => rfl, fun w => absurd y w⟩
      · exact ⟨0, fun w => absurd w y, fun _ => rfl⟩
    -- the class, one block
    have hcl : ∀ (S A : ms) (o : Nat), S.1 9 7 = 0 → RdC S o en t → CodC S 31 288 flF → CodC S 42 32 (fun _ => 5) → CB S A o en t st h → ∃ S1 A1, EX XCc S S1 ∧ CB S1 A1 o en t st3 h3 ∧ ∀ (T : ms), EV q 129 5 [some (.ref 30), some (.ref 9), some (vI rc), some (vI fl), some (vI (i + 1 : Nat))] [] A1 none T → EV q 129 5 [some (.ref 30), some (.ref 9), some (vI rc), some (vI 0), some (vI i)] [] A none T := by
      intro S A o hS hC hD hE hA
      have h5 : A.1 9 5 = 0 := by rw [hA.2.1.2.1]; exact c
      obtain ⟨A1, k1, k2⟩ := a5 S A o hS hC hA
      obtain ⟨A2, k3, k4⟩ := b6 S A1 o hS hC k2
      obtain ⟨S1, A3, m1, m2, m3⟩ := g5 S A2 o hS hC hD hE k4
      refine ⟨S1, A3, m1, m2, fun T y => vc_Blocks_openAll_5 _ _ _ ?_⟩
      rw [ei] at y
      have k39 : EV q 129 39 [some (.ref 30), some (.ref 9), some (vI rc), some (vI 0), some (vI i)] [vI fl] A1 none T := vc_Blocks_openAll_39 _ _ _ _ ⟨v, A2, k3, m3 i fl T (vc_Blocks_openAll_121 _ _ _ y)⟩
      rw [wi (), h5]
      refine cNo (by omega) (cNN (by decide) (cNN (by decide) ⟨z, A1, k1, ?_⟩))
      rw [wz, w1]
      by_cases d : z = 1
      · rw [hfl.1 d] at k39
        exact cNN d k39
      · rw [hfl.2 d] at k39
        exact cY d k39
    by_cases c2 : st2.1 = 0
    case neg =>
      have e3 : st3 = st2 := g2.1 c2
      subst e3
      refine ⟨st3, ⟨b1, Fw_t a2 b2⟩, fun S A o hS hC hD hE hA => ?_, fun S B x1 hS h60 hT hC hB => ?_⟩
      · obtain ⟨S1, A1, k1, k2, k3⟩ := hcl S A o hS hC hD hE hA
        obtain ⟨m1, m2⟩ := cl_fin (q := q) (x2 := rc) (x3 := fl) (x4 := (i + 1 : Nat)) (Or.inr c2) b1 hC.2.2.1 k2
        exact ⟨S1, _, k1, k3 _ m1, m2⟩
      · have kf := md_fine (q := q) hr hB
        rw [if_pos c] at kf
        obtain ⟨B1, k1, k2⟩ := a6 S B hS hC hB
        obtain ⟨B2, k3, k4⟩ := b7 S B1 hS hC k2
        have kf2 := md_fine (q := q) b1 k4
        rw [if_neg c2] at kf2
        have k40 : ∀ y : Int, EV q 343 40 [some (.ref 367), some (vL x1), none, some (vI 0), none] [vI y] B1 none B2 := fun y => vc_MD_openBlocks_40 _ _ _ ⟨v', B2, k3, 0, B2, kf2, cNN (by decide) ⟨rfl, rfl⟩⟩
        exact ⟨S, B2, EX.refl _ S, vc_MD_openBlocks_16 _ _ (cNN (by decide) ⟨1, B, kf, cNo (by decide) ⟨z', B1, k1, fun _ => k40 0, fun _ => k40 1⟩⟩), MB_told c2 k4⟩
    obtain ⟨ev, _, pv⟩ := b5 c2
    obtain ⟨ez, pz⟩ := a4 (Fw_z b2 c2)
    subst ev ez
    -- the reference, one block
    have hml : ∀ (S B : ms) (x1 : Int), S.1 367 18 = 0 → S.2.1 367 60 = rc → TbM S → RdM S en t → MB S B en st h → ∃ S1 B1, EX XCm S S1 ∧ MB S1 B1 en st3 h3 ∧ ∀ (T : ms), EV q 343 16 [some (.ref 367), some (vL x1), none, some (vI fl), none] [] B1 none T → EV q 343 16 [some (.ref 367), some (vL x1), none, some (vI 0), none] [] B none T := by
      intro S B x1 hS h60 hT hC hB
      have kf := md_fine (q := q) hr hB
      rw [if_pos c] at kf
      obtain ⟨B1, k1, k2⟩ := a6 S B hS hC hB
      obtain ⟨B2, k3, k4⟩ := b7 S B1 hS hC k2
      have kf2 := md_fine (q := q) b1 k4
      rw [if_pos c2] at kf2
      obtain ⟨S1, B3, m1, m2, m3⟩ := g6 S B2 hS h60 hT hC k4
      refine ⟨S1, B3, m1, m2, fun T y => vc_MD_openBlocks_16 _ _ (cNN (by decide) ⟨1, B, kf, cNo (by decide) ⟨z, B1, k1, ?_⟩⟩)⟩
      have k40 : EV q 343 40 [some (.ref 367), some (vL x1), none, some (vI 0), none] [vI fl] B1 none T := vc_MD_openBlocks_40 _ _ _ ⟨v, B2, k3, 1, B2, kf2, cY (by decide) (m3 x1 fl T (vc_MD_openBlocks_117 _ _ _ y))⟩
      rw [wz']
      by_cases d : z = 1
      · rw [hfl.1 d] at k40
        exact cNN d k40
      · rw [hfl.2 d] at k40
        exact cY d k40
    by_cases hd : z = 1 ∨ st3.1 ≠ 0
    · have hd' : ¬ w32 fl = 0 ∨ st3.1 ≠ 0 := by
        rcases hd with y | y
        · rw [hfl.1 y]
          exact Or.inl (by decide)
        · exact Or.inr y
      refine ⟨st3, ⟨g1, Fw_t a2 (Fw_t b2 g2)⟩, fun S A o hS hC hD hE hA => ?_, fun S B x1 hS h60 hT hC hB => ?_⟩
      · obtain ⟨S1, A1, k1, k2, k3⟩ := hcl S A o hS hC hD hE hA
        obtain ⟨m1, m2⟩ := cl_fin (q := q) (x2 := rc) (x3 := fl) (x4 := (i + 1 : Nat)) hd' g1 hC.2.2.1 k2
        exact ⟨S1, _, k1, k3 _ m1, m2⟩
      · obtain ⟨S1, B1, k1, k2, k3⟩ := hml S B x1 hS h60 hT hC hB
        obtain ⟨B2, m1, m2⟩ := ml_fin (q := q) (x1 := x1) (x3 := fl) hd' g1 g3 k2
        exact ⟨S1, B2, k1, k3 B2 m1, m2⟩
    · have c3 : st3.1 = 0 := Classical.not_not.mp (fun y => hd (Or.inr y))
      have ef : fl = 0 := hfl.2 (fun y => hd (Or.inl y))
      subst ef
      have p3 := g4 c3
      obtain ⟨stf, ⟨i1, i2⟩, i3, i4⟩ := ih (i + 1) st3 h3 (by omega) (by omega) g1 g3
      refine ⟨stf, ⟨i1, Fw_t a2 (Fw_t b2 (Fw_t g2 i2))⟩, fun S A o hS hC hD hE hA => ?_, fun S B x1 hS h60 hT hC hB => ?_⟩
      · obtain ⟨S1, A1, k1, k2, k3⟩ := hcl S A o hS hC hD hE hA
        obtain ⟨S2, A2, m1, m2, m3⟩ := i3 S1 A1 o (by rw [k1.2 9 7 (by unfold XCc; omega)]; exact hS) (RdC_ey hC k1.ey (fun k => by unfold XCc; omega)) (CodC_ex hD k1 (fun a k y => by unfold XCc at y; omega)) (CodC_ex hE k1 (fun a k y => by unfold XCc at y; omega)) k2
        exact ⟨S2, A2, EX.trans k1 m1, k3 A2 m2, m3⟩
      · obtain ⟨S1, B1, k1, k2, k3⟩ := hml S B x1 hS h60 hT hC hB
        obtain ⟨S2, B2, m1, m2, m3⟩ := i4 S1 B1 x1 (by rw [k1.2 367 18 (by unfold XCm; omega)]; exact hS) (by rw [k1.1]; exact h60) (TbM_ex hT k1 (fun a k y => by unfold XCm at y; omega)) (RdM_ey hC k1.ey (fun k => by unfold XCm; omega)) k2
        exact ⟨S2, B2, EX.trans k1 m1, k3 B2 m2, m3⟩
end Blk6
