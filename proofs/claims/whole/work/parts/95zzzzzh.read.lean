/-! read: blocks from a window on: the octet read last is not known -/
section ReaH
variable {q : Nat × (Nat → Int32)} {en : Int}
/-- the first bit from a window on -/
theorem sb_bit0T {S A : ms} {o : Nat} {t : Int → Int} {st : Rd} (hS : S.1 9 7 = 0) (hC : RdC S o en t) (ht : ∀ k : Int, 0 ≤ k → k < en → 0 ≤ t k ∧ t k < 256) (hr : rdR en st) (c : st.1 = 0) (hA : CT S A o en st) : ∃ A', EV q 123 0 [some (.ref 9), some (vI 1), none, none, none] [] A (some (vL (rdBit t en 0 st 0).1)) A' ∧ CB S A' o en t (rdBit t en 0 st 0).2.1 (rdBit t en 0 st 0).2.2 := by
  have ho := hC.2.2.1
  obtain ⟨A1, k1, k2⟩ := sp_takeT (q := q) hC hr hA
  have e8 : A.1 9 8 = 0 := hA.2.1.2.2.2.2 c
  have r2 := hr.2.1
  have c' : ¬ st.1 ≠ 0 := fun y => y c
  obtain ⟨z, ez⟩ : ∃ z : Int, z = (rdTake t en st).1 := ⟨_, rfl⟩
  rw [← ez] at k1
  obtain ⟨s, es⟩ : ∃ s : Rd, s = (rdTake t en st).2 := ⟨_, rfl⟩
  rw [← es] at k2
  have q2 : ∀ (a : Nat) (k : Int), (wI (wI A1 9 9 z) 9 8 8).1 a k = if a = 9 ∧ k = 8 then 8 else if a = 9 ∧ k = 9 then z else A1.1 a k := fun _ _ => rfl
  have go : ∀ (r : Option Value) (S' : ms), EV q 123 32 [some (.ref 9), some (vI 1), some (vL 0), none, some (vI 0)] [] (wI (wI A1 9 9 z) 9 8 8) r S' → EV q 123 0 [some (.ref 9), some (vI 1), none, none, none] [] A r S' := by
    intro r S' k
    refine vc_Source_takeBits _ (vc_Source_takeBits_5 _ _ _ (cNo (by decide) ?_))
    rw [e8]
    exact cNN (by decide) ⟨z, A1, k1, fun S4 e4 S5 e5 => by rw [e5, e4]; exact k⟩
  unfold rdBit
  rw [if_neg c', if_pos rfl]
  by_cases d : st.2.2.1 < en
  · have es' : s = (st.1, st.2.1, st.2.2.1 + 1, st.2.2.2) := by rw [es]; unfold rdTake; rw [if_neg c', if_pos d]
    have ez' : z = t st.2.2.1 := by rw [ez]; unfold rdTake; rw [if_neg c', if_pos d]
    have hz := ht st.2.2.1 r2.1 d
    have s0 : s.1 = 0 := by rw [es']; exact c
    have sn : s.2.2.1 = st.2.2.1 + 1 := by rw [es']
    rw [if_pos d, ← es]
    have e5 : (wI (wI A1 9 9 z) 9 8 8).1 9 5 = 0 := by rw [q2, if_neg (by omega), if_neg (by omega), k2.2.1.2.1]; exact s0
    have e7 : (wI (wI A1 9 9 z) 9 8 8).1 9 7 = 0 := by rw [q2, if_neg (by omega), if_neg (by omega), k2.2.2.2 9 7 (by omega) (by omega) (by omega)]; exact hS
    have e9 : (wI (wI A1 9 9 z) 9 8 8).1 9 9 = z := by rw [q2, if_neg (by omega), if_pos ⟨rfl, rfl⟩]
    have e88 : (wI (wI A1 9 9 z) 9 8 8).1 9 8 = 8 := by rw [q2, if_pos ⟨rfl, rfl⟩]
    have q3 : ∀ (a : Nat) (k : Int), (wI (wI (wI A1 9 9 z) 9 8 8) 9 8 7).1 a k = if a = 9 ∧ k = 8 then 7 else if a = 9 ∧ k = 9 then z else A1.1 a k := fun a k => by
      rw [rI_I]
      by_cases y : a = 9 ∧ k = 8
      · rw [if_pos y, if_pos y]
      · rw [if_neg y, if_neg y, q2, if_neg y]
    refine ⟨wI (wI (wI A1 9 9 z) 9 8 8) 9 8 7, go _ _ (vc_Source_takeBits_32 _ _ _ ?_), ?_⟩
    · rw [e5, e7, e9, e88]
      have wz : w32 z = z := w32_of (by omega)
      have ev : lO 0 ((w32 ((w32 z / ((2 : Int) ^ ((8 - (8 : Int)) % 32).toNat)) % 2)) * ((2 : Int) ^ ((0 : Int) % 64).toNat)) = btV 0 (t st.2.2.1) 0 := by
        rw [wz, show ((8 - (8 : Int)) % 32).toNat = 0 by decide, show ((0 : Int) % 64).toNat = 0 by decide, show (2 : Int) ^ 0 = 1 by decide, Int.ediv_one, w32_of (by omega), ← ez']
        have : lO 0 (z % 2 * 1) = z % 2 := by
          have hz2 : z % 2 = 0 ∨ z % 2 = 1 := by omega
          rcases hz2 with y | y
          · rw [y]; decide
          · rw [y]; decide
        rw [this]
        unfold btV
        rw [if_pos rfl, show Int.toNat 0 = 0 from rfl, show (2 : Int) ^ 0 = 1 by decide, Int.ediv_one]
      refine cY (by decide) (cY (by decide) (vc_Source_takeBits_91 _ _ _ (fun S1 e1 => vc_Source_takeBits_5 _ _ _ (cY (by decide) ?_))))
      rw [e88] at e1
      exact ⟨by rw [ev], e1.symm⟩
    · refine ⟨k2.1, ⟨fun y => by rw [q3, if_neg (by omega), if_neg (by omega)]; exact k2.2.1.1 s0, by rw [q3, if_neg (by omega), if_neg (by omega)]; exact k2.2.1.2.1, by rw [q3, if_neg (by omega), if_neg (by omega)]; exact k2.2.1.2.2.1, fun y => by rw [q3, if_neg (by omega), if_neg (by omega)]; exact k2.2.1.2.2.2.1 s0, fun y => ⟨by rw [q3, if_neg (by omega), if_neg (by omega)]; exact (k2.2.1.2.2.2.2 s0).1, by rw [q3, if_pos ⟨rfl, rfl⟩]; exact (by decide : (7 : Int) = (8 - 1) % 8), fun _ => by rw [q3, if_neg (by omega), if_pos ⟨rfl, rfl⟩, sn, show st.2.2.1 + 1 - 1 = st.2.2.1 by omega]; exact ez'⟩⟩, ⟨by rw [q3, if_neg (by omega), if_neg (by omega)]; exact k2.2.2.1.1, fun k k0 k1' => by rw [q3, if_neg (by omega), if_neg (by omega)]; exact k2.2.2.1.2 k k0 k1'⟩, fun a k n1 n2 n3 => by rw [q3, if_neg (by omega), if_neg (by omega)]; exact k2.2.2.2 a k n1 n2 n3⟩
  · have es' : s = (1, en, st.2.2) := by rw [es]; unfold rdTake; rw [if_neg c', if_neg d]
    have s1 : s.1 ≠ 0 := by rw [es']; exact (by decide : (1 : Int) ≠ 0)
    rw [if_neg d, ← es]
    have rs : s.1 = 1 := by rw [es']
    have e5 : (wI (wI A1 9 9 z) 9 8 8).1 9 5 = 1 := by rw [q2, if_neg (by omega), if_neg (by omega), k2.2.1.2.1]; exact rs
    refine ⟨wI (wI A1 9 9 z) 9 8 8, go _ _ (vc_Source_takeBits_32 _ _ _ ?_), ?_⟩
    · rw [e5]
      exact cNo (by decide) ⟨rfl, rfl⟩
    · exact ⟨k2.1, ⟨fun y => absurd y s1, by rw [q2, if_neg (by omega), if_neg (by omega)]; exact k2.2.1.2.1, by rw [q2, if_neg (by omega), if_neg (by omega)]; exact k2.2.1.2.2.1, fun y => absurd y s1, fun y => absurd y s1⟩, ⟨by rw [q2, if_neg (by omega), if_neg (by omega)]; exact k2.2.2.1.1, fun k k0 k1' => by rw [q2, if_neg (by omega), if_neg (by omega)]; exact k2.2.2.1.2 k k0 k1'⟩, fun a k n1 n2 n3 => by rw [q2, if_neg (by omega), if_neg (by omega)]; exact k2.2.2.2 a k n1 n2 n3⟩
theorem jbit1T {t : Int → Int} (he : 0 ≤ en ∧ en ≤ 6000) (ht : ∀ k : Int, 0 ≤ k → k < en → 0 ≤ t k ∧ t k < 256) {st : Rd} (hr : rdR en st) (c : st.1 = 0) : ∃ (z z' : Int) (st' : Rd) (h' : Int), (rdR en st' ∧ Fw st st' ∧ hR st' h') ∧ ((0 ≤ z ∧ z < 2) ∧ (0 ≤ z' ∧ z' < 2)) ∧ (st'.1 = 0 → z = z' ∧ rdP st' h' = rdP st 0 + 1) ∧ (∀ (S A : ms) (o : Nat), S.1 9 7 = 0 → RdC S o en t → CT S A o en st → ∃ A', EV q 123 0 [some (.ref 9), some (vI 1), none, none, none] [] A (some (vL z)) A' ∧ CB S A' o en t st' h') ∧ ∀ S B : ms, S.1 367 18 = 0 → RdM S en t → MB S B en st 0 → ∃ B', EV q 340 0 [some (.ref 367), none] [] B (some (vI z')) B' ∧ MB S B' en st' h' := by
  obtain ⟨g1, g2, g3, g4, g5, g6⟩ := rdBit_s (t := t) (hi := 0) hr (hR_0 st)
  exact ⟨(rdBit t en 0 st 0).1, (rdBit t en 0 st 0).1, (rdBit t en 0 st 0).2.1, (rdBit t en 0 st 0).2.2, ⟨g1, g2, g3⟩, ⟨g5, g5⟩, fun y => ⟨rfl, g6 y⟩, fun S A o hS hC hA => sb_bit0T hS hC ht hr c hA, fun S B hS hC hB => mb_bit (q := q) ⟨hS, Or.inl rfl⟩ he.2 hC hr (hR_0 st) hB⟩
theorem jblkT {t : Int → Int} {rc : Int} (he : 0 ≤ en ∧ en ≤ 6000) (ht : ∀ k : Int, 0 ≤ k → k < en → 0 ≤ t k ∧ t k < 256) (hrc : 0 ≤ rc ∧ rc ≤ 100000) {st : Rd} {i : Nat} (hi : i = 0) (hr : rdR en st) (c : st.1 = 0) : ∃ stf : Rd, (rdR en stf ∧ Fw st stf) ∧ (∀ (S A : ms) (o : Nat), S.1 9 7 = 0 → RdC S o en t → CodC S 31 288 flF → CodC S 42 32 (fun _ => 5) → CT S A o en st → ∃ S1 A1, EX XCc S S1 ∧ EV q 129 5 [some (.ref 30), some (.ref 9), some (vI rc), some (vI 0), some (vI i)] [] A none A1 ∧ CR S1 A1 o en stf) ∧ ∀ (S B : ms) (x1 : Int), S.1 367 18 = 0 → S.2.1 367 60 = rc → TbM S → RdM S en t → MB S B en st 0 → ∃ S1 B1, EX XCm S S1 ∧ EV q 343 16 [some (.ref 367), some (vL x1), none, some (vI 0), none] [] B none B1 ∧ MR S1 B1 en stf := by
  have wi : Unit → w32 ((i : Nat) : Int) = i := fun _ => w32_of (by omega)
  have ei : ((i + 1 : Nat) : Int) = (i : Int) + 1 := by omega
  obtain ⟨z, z', st1, h1, ⟨a1, a2, a3⟩, aR, a4, a5, a6⟩ := jbit1T (q := q) he ht hr c
  obtain ⟨v, v', st2, h2, ⟨b1, b2, b3, b4⟩, bR, b5, b6, b7⟩ := jbitsR0 (q := q) (hi := 0) he.2 ht (Or.inl rfl) (n := 2) (by omega) a1 a3
  have p2 : (2 : Int) ^ 2 = 4 := by decide
  rw [p2] at bR
  have wz : w64 z = z := w64_of (by omega)
  have wz' : w32 z' = z' := w32_of (by omega)
  have w1 : w64 1 = 1 := by decide
  obtain ⟨st3, h3, ⟨g1, g2, g3⟩, g4, g5, g6⟩ := jone (q := q) (rc := rc) (m := 60000) (z := v) he ht hrc (st := st2) (h := h2) (by
    have q1 := b1.2.1
    have q2 := b3.1
    unfold rdP
    omega) (Nat.le_refl _) b1 b3 bR.1
  obtain ⟨fl, hfl⟩ : ∃ fl : Int, (z = 1 → fl = 1) ∧ (z ≠ 1 → fl = 0) := by
    by_cases y : z = 1
    · exact ⟨1, fun _ => rfl, fun w => absurd y w⟩
    · exact ⟨0, fun w => absurd w y, fun _ => rfl⟩
  -- the class, one block
  have hcl : ∀ (S A : ms) (o : Nat), S.1 9 7 = 0 → RdC S o en t → CodC S 31 288 flF → CodC S 42 32 (fun _ => 5) → CT S A o en st → ∃ S1 A1, EX XCc S S1 ∧ CB S1 A1 o en t st3 h3 ∧ ∀ (T : ms), EV q 129 5 [some (.ref 30), some (.ref 9), some (vI rc), some (vI fl), some (vI (i + 1 : Nat))] [] A1 none T → EV q 129 5 [some (.ref 30), some (.ref 9), some (vI rc), some (vI 0), some (vI i)] [] A none T := by
    intro S A o hS hC hD hE hA
    have h5 : A.1 9 5 = 0 := by rw [hA.2.1.2.1]; exact c
    obtain ⟨A1, k1, k2⟩ := a5 S A o hS hC hA
    obtain ⟨A2, k3, k4⟩ := b6 S A1 o hS hC k2
    obtain ⟨S1, A3, m1, m2, m3⟩ := g5 S A2 o hS hC hD hE k4
    refine ⟨S1, A3, m1, m2, fun T y => vc_Blocks_openAll_5 _ _ _ ?_⟩
    rw [ei] at y
    have k39 : EV q 129 39 [some (.ref 30), some (.ref 9), some (vI rc), some (vI 0), some (vI i)] [vI fl] A1 none T := vc_Blocks_openAll_39 _ _ _ _ ⟨v, A2, k3, m3 i fl T (vc_Blocks_openAll_121 _ _ _ y)⟩
    rw [wi (), h5]
    refine cNo (by omega) (cNN (by decide) (cNN (by decide) ⟨z, A1, k1, ?_⟩))
    rw [wz, w1]
    by_cases d : z = 1
    · rw [hfl.1 d] at k39
      exact cNN d k39
    · rw [hfl.2 d] at k39
      exact cY d k39
  by_cases c2 : st2.1 = 0
  case neg =>
    have e3 : st3 = st2 := g2.1 c2
    subst e3
    refine ⟨st3, ⟨b1, Fw_t a2 b2⟩, fun S A o hS hC hD hE hA => ?_, fun S B x1 hS h60 hT hC hB => ?_⟩
    · obtain ⟨S1, A1, k1, k2, k3⟩ := hcl S A o hS hC hD hE hA
      obtain ⟨m1, m2⟩ := cl_fin (q := q) (x2 := rc) (x3 := fl) (x4 := (i + 1 : Nat)) (Or.inr c2) b1 hC.2.2.1 k2
      exact ⟨S1, _, k1, k3 _ m1, m2⟩
    · have kf := md_fine (q := q) hr hB
      rw [if_pos c] at kf
      obtain ⟨B1, k1, k2⟩ := a6 S B hS hC hB
      obtain ⟨B2, k3, k4⟩ := b7 S B1 hS hC k2
      have kf2 := md_fine (q := q) b1 k4
      rw [if_neg c2] at kf2
      have k40 : ∀ y : Int, EV q 343 40 [some (.ref 367), some (vL x1), none, some (vI 0), none] [vI y] B1 none B2 := fun y => vc_MD_openBlocks_40 _ _ _ ⟨v', B2, k3, 0, B2, kf2, cNN (by decide) ⟨rfl, rfl⟩⟩
      exact ⟨S, B2, EX.refl _ S, vc_MD_openBlocks_16 _ _ (cNN (by decide) ⟨1, B, kf, cNo (by decide) ⟨z', B1, k1, fun _ => k40 0, fun _ => k40 1⟩⟩), MB_told c2 k4⟩
  obtain ⟨ev, _, pv⟩ := b5 c2
  obtain ⟨ez, pz⟩ := a4 (Fw_z b2 c2)
  subst ev ez
  -- the reference, one block
  have hml : ∀ (S B : ms) (x1 : Int), S.1 367 18 = 0 → S.2.1 367 60 = rc → TbM S → RdM S en t → MB S B en st 0 → ∃ S1 B1, EX XCm S S1 ∧ MB S1 B1 en st3 h3 ∧ ∀ (T : ms), EV q 343 16 [some (.ref 367), some (vL x1), none, some (vI fl), none] [] B1 none T → EV q 343 16 [some (.ref 367), some (vL x1), none, some (vI 0), none] [] B none T := by
    intro S B x1 hS h60 hT hC hB
    have kf := md_fine (q := q) hr hB
    rw [if_pos c] at kf
    obtain ⟨B1, k1, k2⟩ := a6 S B hS hC hB
    obtain ⟨B2, k3, k4⟩ := b7 S B1 hS hC k2
    have kf2 := md_fine (q := q) b1 k4
    rw [if_pos c2] at kf2
    obtain ⟨S1, B3, m1, m2, m3⟩ := g6 S B2 hS h60 hT hC k4
    refine ⟨S1, B3, m1, m2, fun T y => vc_MD_openBlocks_16 _ _ (cNN (by decide) ⟨1, B, kf, cNo (by decide) ⟨z, B1, k1, ?_⟩⟩)⟩
    have k40 : EV q 343 40 [some (.ref 367), some (vL x1), none, some (vI 0), none] [vI fl] B1 none T := vc_MD_openBlocks_40 _ _ _ ⟨v, B2, k3, 1, B2, kf2, cY (by decide) (m3 x1 fl T (vc_MD_openBlocks_117 _ _ _ y))⟩
    rw [wz']
    by_cases d : z = 1
    · rw [hfl.1 d] at k40
      exact cNN d k40
    · rw [hfl.2 d] at k40
      exact cY d k40
  by_cases hd : z = 1 ∨ st3.1 ≠ 0
  · have hd' : ¬ w32 fl = 0 ∨ st3.1 ≠ 0 := by
      rcases hd with y | y
      · rw [hfl.1 y]
        exact Or.inl (by decide)
      · exact Or.inr y
    refine ⟨st3, ⟨g1, Fw_t a2 (Fw_t b2 g2)⟩, fun S A o hS hC hD hE hA => ?_, fun S B x1 hS h60 hT hC hB => ?_⟩
    · obtain ⟨S1, A1, k1, k2, k3⟩ := hcl S A o hS hC hD hE hA
      obtain ⟨m1, m2⟩ := cl_fin (q := q) (x2 := rc) (x3 := fl) (x4 := (i + 1 : Nat)) hd' g1 hC.2.2.1 k2
      exact ⟨S1, _, k1, k3 _ m1, m2⟩
    · obtain ⟨S1, B1, k1, k2, k3⟩ := hml S B x1 hS h60 hT hC hB
      obtain ⟨B2, m1, m2⟩ := ml_fin (q := q) (x1 := x1) (x3 := fl) hd' g1 g3 k2
      exact ⟨S1, B2, k1, k3 B2 m1, m2⟩
  · have c3 : st3.1 = 0 := Classical.not_not.mp (fun y => hd (Or.inr y))
    have ef : fl = 0 := hfl.2 (fun y => hd (Or.inl y))
    subst ef
    have p3 := g4 c3
    obtain ⟨stf, ⟨i1, i2⟩, i3, i4⟩ := jblk (q := q) (rc := rc) he ht hrc 59000 (i + 1) st3 h3 (by
      have q1 := g1.2.1
      have q2 := g3.1
      unfold rdP
      omega) (by omega) g1 g3
    refine ⟨stf, ⟨i1, Fw_t a2 (Fw_t b2 (Fw_t g2 i2))⟩, fun S A o hS hC hD hE hA => ?_, fun S B x1 hS h60 hT hC hB => ?_⟩
    · obtain ⟨S1, A1, k1, k2, k3⟩ := hcl S A o hS hC hD hE hA
      obtain ⟨S2, A2, m1, m2, m3⟩ := i3 S1 A1 o (by rw [k1.2 9 7 (by unfold XCc; omega)]; exact hS) (RdC_ey hC k1.ey (fun k => by unfold XCc; omega)) (CodC_ex hD k1 (fun a k y => by unfold XCc at y; omega)) (CodC_ex hE k1 (fun a k y => by unfold XCc at y; omega)) k2
      exact ⟨S2, A2, EX.trans k1 m1, k3 A2 m2, m3⟩
    · obtain ⟨S1, B1, k1, k2, k3⟩ := hml S B x1 hS h60 hT hC hB
      obtain ⟨S2, B2, m1, m2, m3⟩ := i4 S1 B1 x1 (by rw [k1.2 367 18 (by unfold XCm; omega)]; exact hS) (by rw [k1.1]; exact h60) (TbM_ex hT k1 (fun a k y => by unfold XCm at y; omega)) (RdM_ey hC k1.ey (fun k => by unfold XCm; omega)) k2
      exact ⟨S2, B2, EX.trans k1 m1, k3 B2 m2, m3⟩
theorem jallT {t : Int → Int} {rc : Int} (he : 0 ≤ en ∧ en ≤ 6000) (ht : ∀ k : Int, 0 ≤ k → k < en → 0 ≤ t k ∧ t k < 256) (hrc : 0 ≤ rc ∧ rc ≤ 100000) {st : Rd} (hr : rdR en st) (c : st.1 = 0) : ∃ stf : Rd, (rdR en stf ∧ Fw st stf) ∧ (∀ (S A : ms) (o : Nat), S.1 9 7 = 0 → RdC S o en t → CodC S 31 288 flF → CodC S 42 32 (fun _ => 5) → CT S A o en st → ∃ S1 A1, EX XCc S S1 ∧ EV q 129 0 [some (.ref 30), some (.ref 9), some (vI rc), none, none] [] A none A1 ∧ CR S1 A1 o en stf) ∧ ∀ S B : ms, TbK S → RdM S en t → MB S B en st 0 → ∃ S1 B1, EY XBm S S1 ∧ EV q 343 0 [some (.ref 367), some (vL rc), none, none, none] [] B none B1 ∧ MR S1 B1 en stf ∧ TbK S1 := by
  obtain ⟨stf, g1, g2, g3⟩ := jblkT (q := q) (rc := rc) he ht hrc (i := 0) rfl hr c
  refine ⟨stf, g1, fun S A o hS hC hD hE hA => ?_, fun S B hK hC hB => ?_⟩
  · obtain ⟨S1, A1, k1, k2, k3⟩ := g2 S A o hS hC hD hE hA
    exact ⟨S1, A1, k1, vc_Blocks_openAll _ k2, k3⟩
  · have hKB : TbK B := by
      refine ⟨by rw [hB.2.2.2 392 28 (by omega) (by omega)]; exact hK.1, ?_⟩
      rw [hB.2.2.2 367 45 (by omega) (by omega)]
      rcases hK.2 with y | ⟨y, hT⟩
      · exact Or.inl y
      · refine Or.inr ⟨y, fun s s0 s1 => ?_, fun s s0 s1 => ?_⟩
        · rw [hB.2.2.2 391 s (by omega) (by omega), hB.2.2.2 392 s (by omega) (by omega)]
          exact hT.1 s s0 s1
        · rw [hB.2.2.2 393 s (by omega) (by omega), hB.2.2.2 394 s (by omega) (by omega)]
          exact hT.2 s s0 s1
    obtain ⟨B1, k1, k2, k3, k4⟩ := md_prep (q := q) hKB
    have ex : EX (fun a k => XTb a k ∨ (a = 367 ∧ k = 18)) B (wI B1 367 18 0) := EX.wr (EX.mono k1 (fun a k y => Or.inl y)) (Or.inr ⟨rfl, rfl⟩)
    obtain ⟨S1, s1, s2, s3⟩ := MB_X (X := fun a k => XTb a k ∨ (a = 367 ∧ k = 18)) (fun a k y => by unfold XTb at y; omega) hB ex
    have hT1 : TbM S1 := by
      refine ⟨fun s s0 s1' => ?_, fun s s0 s1' => ?_⟩
      · rw [s2 391 s (by unfold XTb; omega), s2 392 s (by unfold XTb; omega), wI_no _ (by omega), wI_no _ (by omega)]
        exact k3.1 s s0 s1'
      · rw [s2 393 s (by unfold XTb; omega), s2 394 s (by unfold XTb; omega), wI_no _ (by omega), wI_no _ (by omega)]
        exact k3.2 s s0 s1'
    have h18 : S1.1 367 18 = 0 := by
      rw [s2 367 18 (Or.inr ⟨rfl, rfl⟩)]
      exact wI_at _ _ _ _
    have e45 : S1.1 367 45 = 0 ∨ S1.1 367 45 = 1 := by
      rw [s2 367 45 (by unfold XTb; omega), wI_no _ (by omega)]
      rcases k4.2 with y | ⟨y, _⟩
      · exact Or.inl y
      · exact Or.inr y
    have e28 : S1.1 392 28 = 0 := by
      rw [s2 392 28 (by unfold XTb; omega), wI_no _ (by omega)]
      exact k4.1
    obtain ⟨S2, B2, m1, m2, m3⟩ := g3 (wJ S1 367 60 rc) (wJ (wI B1 367 18 0) 367 60 rc) rc h18 (by show (if (367 : Nat) = 367 ∧ (60 : Int) = 60 then rc else S1.2.1 367 60) = rc; exact if_pos ⟨rfl, rfl⟩) hT1 (RdM_ey hC (show EY (fun a k => XTb a k ∨ (a = 367 ∧ k = 18)) S (wJ S1 367 60 rc) from ⟨by show S1.2.2 = S.2.2; rw [s1.1], s1.2⟩) (fun k => by unfold XTb; omega)) (MB_J 60 rc s3)
    have hT2 : TbM S2 := TbM_ex (S := wJ S1 367 60 rc) hT1 m1 (fun a k y => by unfold XCm at y; omega)
    refine ⟨S2, B2, ⟨?_, fun a k y => ?_⟩, vc_MD_openBlocks _ ⟨B1, k2, fun S3 e3 S4 e4 => by rw [e4, e3]; exact m2⟩, m3, ?_, ?_⟩
    · rw [m1.1]
      show S1.2.2 = S.2.2
      rw [s1.1]
    · rw [m1.2 a k (fun z => y (Or.inl z))]
      show S1.1 a k = S.1 a k
      exact s1.2 a k (fun z => y (Or.inr z))
    · rw [m1.2 392 28 (by unfold XCm; omega)]
      exact e28
    · rw [m1.2 367 45 (by unfold XCm; omega)]
      rcases e45 with y | y
      · exact Or.inl y
      · exact Or.inr ⟨y, hT2⟩
end ReaH
