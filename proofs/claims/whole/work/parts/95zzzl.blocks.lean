/-! BLOCKS: one block, both sides at once -/
section Blk5
variable {q : Nat × (Nat → Int32)} {en : Int}
def SwC (q : Nat × (Nat → Int32)) (x2 x4 y0 z3 : Int) (S1 T : ms) : Prop := ((w32 z3 = 0) → ∃ (S6 : ms), EV q 130 0 [some (.ref 9), none, none, none, none] [] S1 none S6 ∧ EV q 129 121 [some (.ref 30), some (.ref 9), some (vI x2), some (vI y0), some (vI x4)] [] S6 none T) ∧ ((w32 z3 = 1) → ∃ (S8 : ms), EV q 133 0 [some (.ref 9), some (.ref 31), some (.ref 42), some (vI x2), none, none] [] S1 none S8 ∧ EV q 129 121 [some (.ref 30), some (.ref 9), some (vI x2), some (vI y0), some (vI x4)] [] S8 none T) ∧ ((w32 z3 = 2) → ∃ (S10 : ms), EV q 136 0 [some (.ref 30), some (.ref 9), none, none, none, none] [] S1 none S10 ∧ ∃ (S12 : ms), EV q 133 0 [some (.ref 9), some (.ref 53), some (.ref 64), some (vI x2), none, none] [] S10 none S12 ∧ EV q 129 121 [some (.ref 30), some (.ref 9), some (vI x2), some (vI y0), some (vI x4)] [] S12 none T) ∧ ((¬ w32 z3 = 0) → (¬ w32 z3 = 1) → (¬ w32 z3 = 2) → ∃ (S4 : ms), EV q 124 0 [some (.ref 9), some (vI 2)] [] S1 none S4 ∧ EV q 129 121 [some (.ref 30), some (.ref 9), some (vI x2), some (vI y0), some (vI x4)] [] S4 none T)
def SwM (q : Nat × (Nat → Int32)) (x1 y0 z3 : Int) (S4 T : ms) : Prop := ((¬ w32 z3 = 0) → ((¬ w32 z3 = 3) → ∀ S7 : ms, S7 = wI S4 367 58 288 → ∀ S8 : ms, S8 = wI S7 367 59 32 → ((¬ w32 z3 = 1) → ∃ (S9 : ms), EV q 346 0 [some (.ref 367), none, none, none, none, none, none, none, none] [] S8 none S9 ∧ EV q 343 113 [some (.ref 367), some (vL x1), none, some (vI y0), some (vI z3)] [] S9 none T) ∧ ((¬ (¬ w32 z3 = 1)) → ∃ (S11 : ms), EV q 306 0 [some (.ref 367), none, none] [] S8 none S11 ∧ EV q 343 113 [some (.ref 367), some (vL x1), none, some (vI y0), some (vI z3)] [] S11 none T)) ∧ ((¬ (¬ w32 z3 = 3)) → ∃ (S13 : ms), EV q 337 0 [some (.ref 367), some (vI 2)] [] S4 none S13 ∧ EV q 343 117 [some (.ref 367), some (vL x1), none, some (vI y0), some (vI z3)] [] S13 none T)) ∧ ((¬ (¬ w32 z3 = 0)) → ∃ (S15 : ms), EV q 344 0 [some (.ref 367), none, none, none, none, none, none, none] [] S4 none S15 ∧ EV q 343 117 [some (.ref 367), some (vL x1), none, some (vI y0), some (vI z3)] [] S15 none T)
theorem TbM_ex {X : Nat → Int → Prop} {S S1 : ms} (h : TbM S) (e : EX X S S1) (hx : ∀ a k, X a k → ¬ (391 ≤ a ∧ a ≤ 394)) : TbM S1 := ⟨fun s h0 h1 => by rw [e.2 391 s (fun z => hx _ _ z (by omega)), e.2 392 s (fun z => hx _ _ z (by omega))]; exact h.1 s h0 h1, fun s h0 h1 => by rw [e.2 393 s (fun z => hx _ _ z (by omega)), e.2 394 s (fun z => hx _ _ z (by omega))]; exact h.2 s h0 h1⟩
theorem jone {t : Int → Int} {rc : Int} (he : 0 ≤ en ∧ en ≤ 6000) (ht : ∀ k : Int, 0 ≤ k → k < en → 0 ≤ t k ∧ t k < 256) (hrc : 0 ≤ rc ∧ rc ≤ 100000) {m : Nat} {st : Rd} {h : Int} (hm : 8 * en - rdP st h < m) (hm6 : m ≤ 60000) (hr : rdR en st) (hh : hR st h) {z : Int} (hz : 0 ≤ z ∧ z < 4) : ∃ (st3 : Rd) (h3 : Int), (rdR en st3 ∧ Fw st st3 ∧ hR st3 h3) ∧ (st3.1 = 0 → rdP st h ≤ rdP st3 h3) ∧ (∀ (S A : ms) (o : Nat), S.1 9 7 = 0 → RdC S o en t → CodC S 31 288 flF → CodC S 42 32 (fun _ => 5) → CB S A o en t st h → ∃ S1 A1, EX XCc S S1 ∧ CB S1 A1 o en t st3 h3 ∧ ∀ (x4 y0 : Int) (T : ms), EV q 129 121 [some (.ref 30), some (.ref 9), some (vI rc), some (vI y0), some (vI x4)] [] A1 none T → SwC q rc x4 y0 z A T) ∧ ∀ (S B : ms), S.1 367 18 = 0 → S.2.1 367 60 = rc → TbM S → RdM S en t → MB S B en st h → ∃ S1 B1, EX XCm S S1 ∧ MB S1 B1 en st3 h3 ∧ ∀ (x1 y0 : Int) (T : ms), EV q 343 117 [some (.ref 367), some (vL x1), none, some (vI y0), some (vI z)] [] B1 none T → SwM q x1 y0 z B T := by
  have wz : w32 z = z := w32_of (by omega)
  have hfl : ∀ s : Nat, s < 288 → 0 ≤ flF s ∧ flF s ≤ 20 := fun s _ => by have := flF_rg s; omega
  -- the reference's counts
  have hset : ∀ (S B : ms), S.1 367 18 = 0 → S.2.1 367 60 = rc → TbM S → RdM S en t → MB S B en st h → ∃ S1, EX XCm S S1 ∧ MB S1 (wI (wI B 367 58 288) 367 59 32) en st h ∧ S1.1 367 18 = 0 ∧ S1.2.1 367 60 = rc ∧ TbM S1 ∧ RdM S1 en t ∧ S1.1 367 58 = 288 ∧ S1.1 367 59 = 32 := by
    intro S B hS h60 hT hC hB
    have ex : EX (fun a k => a = 367 ∧ (k = 58 ∨ k = 59)) B (wI (wI B 367 58 288) 367 59 32) := EX.wr (EX.wr (EX.refl _ B) ⟨rfl, Or.inl rfl⟩) ⟨rfl, Or.inr rfl⟩
    obtain ⟨S1, s1, s2, s3⟩ := MB_X (X := fun a k => a = 367 ∧ (k = 58 ∨ k = 59)) (fun a k z => by omega) hB ex
    refine ⟨S1, EX.mono s1 (fun a k y => by unfold XCm; omega), s3, ?_, ?_, TbM_ex hT s1 (fun a k y => by omega), RdM_ey hC s1.ey (fun k z => absurd z.1 (by decide)), ?_, ?_⟩
    · rw [s1.2 367 18 (fun z => by omega)]; exact hS
    · rw [s1.1]; exact h60
    · rw [s2 367 58 ⟨rfl, Or.inl rfl⟩, wI_no _ (by omega)]
      exact wI_at _ _ _ _
    · rw [s2 367 59 ⟨rfl, Or.inr rfl⟩]
      exact wI_at _ _ _ _
  by_cases z0 : z = 0
  · obtain ⟨st3, ⟨g1, g2⟩, g3, g4⟩ := jsto (q := q) he ht hr hh
    refine ⟨st3, 0, ⟨g1, g2, hR_0 st3⟩, fun _ => ?_, fun S A o hS hC hD hE hA => ?_, fun S B hS h60 hT hC hB => ?_⟩
    · have a1 := g2.2
      have a2 := hh.1
      unfold rdP
      omega
    · obtain ⟨A1, k1, k2⟩ := g3 S A o hC hA
      refine ⟨S, A1, EX.refl _ S, CB_0 t k2, fun x4 y0 T y => ?_⟩
      unfold SwC
      rw [wz]
      exact ⟨fun _ => ⟨A1, k1, y⟩, fun w => by omega, fun w => by omega, fun w => absurd z0 w⟩
    · obtain ⟨B1, k1, k2⟩ := g4 S B hC hB
      refine ⟨S, B1, EX.refl _ S, k2, fun x1 y0 T y => ?_⟩
      unfold SwM
      rw [wz]
      exact cNN z0 ⟨B1, k1, y⟩
  by_cases z3 : z = 3
  · have ct : (rdTell 2 st).1 ≠ 0 := rdTell_1 (by decide)
    refine ⟨rdTell 2 st, h, ⟨rdR_tell hr (by decide), Fw_tellAt, hR_n hh Fw_tellAt⟩, fun y => absurd y ct, fun S A o hS hC hD hE hA => ?_, fun S B hS h60 hT hC hB => ?_⟩
    · obtain ⟨A1, k1, k2⟩ := sb_tell (q := q) (k := 2) hr hC.2.2.1 hA
      refine ⟨S, A1, EX.refl _ S, k2, fun x4 y0 T y => ?_⟩
      unfold SwC
      rw [wz]
      exact ⟨fun w => by omega, fun w => by omega, fun w => by omega, fun _ _ _ => ⟨A1, k1, y⟩⟩
    · obtain ⟨B1, k1, k2⟩ := mb_tell (q := q) (k := 2) hr he.2 hh hB
      refine ⟨S, B1, EX.refl _ S, k2, fun x1 y0 T y => ?_⟩
      unfold SwM
      rw [wz]
      exact cY z0 (cNN z3 ⟨B1, k1, y⟩)
  by_cases z1 : z = 1
  · obtain ⟨st3, h3, ⟨g1, g2, g3⟩, g4, g5, g6⟩ := jsyms (q := q) (l := flF) (n := 288) (l' := fun _ => 5) (n' := 32) he ht (by omega) hfl (by omega) (fun s _ => by decide) hrc m 0 st h hm (by omega) hr hh
    refine ⟨st3, h3, ⟨g1, g2, g3⟩, g4, fun S A o hS hC hD hE hA => ?_, fun S B hS h60 hT hC hB => ?_⟩
    · obtain ⟨A1, k1, k2⟩ := g5 S A o 31 42 hS hC hD hE hA
      refine ⟨S, A1, EX.refl _ S, k2, fun x4 y0 T y => ?_⟩
      unfold SwC
      rw [wz]
      exact ⟨fun w => by omega, fun _ => ⟨A1, vc_Blocks_openSymbols _ _ hD.1 _ hE.1 k1, y⟩, fun w => by omega, fun _ w => absurd z1 w⟩
    · obtain ⟨S1, k1, k2, k3, k4, k5, k6, k7, k8⟩ := hset S B hS h60 hT hC hB
      obtain ⟨S2, B2, m1, m2, m3, m4, m5⟩ := mb_fixed (q := q) k2
      have xm : EX XCm S1 S2 := EX.mono m1 (fun a k y => by unfold XSm at y; unfold XCm; omega)
      obtain ⟨B3, n1, n2⟩ := g6 S2 B2 330 330 40 40 (by rw [m1.2 367 18 (by unfold XSm; omega)]; exact k3) (by rw [m1.2 367 58 (by unfold XSm; omega)]; exact k7) (by rw [m1.2 367 59 (by unfold XSm; omega)]; exact k8) (by rw [m1.1]; exact k4) (TbM_ex k5 m1 (fun a k y => by unfold XSm at y; omega)) (RdM_ey k6 m1.ey (fun k => by unfold XSm; omega)) m4 m5 m2
      refine ⟨S2, B3, EX.trans k1 xm, n2, fun x1 y0 T y => ?_⟩
      unfold SwM
      rw [wz]
      exact cY z0 (cY z3 (fun S7 e7 S8 e8 => cNN z1 ⟨B2, by rw [e8, e7]; exact m3, vc_MD_openBlocks_113 _ _ _ ⟨B3, vc_MD_openSymbols n1, y⟩⟩))
  have z2 : z = 2 := by omega
  obtain ⟨st2, h2, a, n, L, ⟨g1, g2, g3⟩, g4, g5, g6⟩ := jcod (q := q) he ht hr hh
  by_cases c2 : st2.1 = 0
  case neg =>
    refine ⟨st2, h2, ⟨g1, g2, g3⟩, fun y => absurd y c2, fun S A o hS hC hD hE hA => ?_, fun S B hS h60 hT hC hB => ?_⟩
    · obtain ⟨S1, A1, k1, k2, k3, k4⟩ := g5 S A o hS hC hA
      refine ⟨S1, A1, k1, k3, fun x4 y0 T y => ?_⟩
      unfold SwC
      rw [wz]
      exact ⟨fun w => by omega, fun w => by omega, fun _ => ⟨A1, k2, A1, vc_Blocks_openSymbols _ _ is_53 _ is_64 (bs_told (i := 0) (by decide) c2 g1 is_53 is_64 k3), y⟩, fun _ _ w => absurd z2 w⟩
    · obtain ⟨S1, k1, k2, k3, k4, k5, k6, k7, k8⟩ := hset S B hS h60 hT hC hB
      obtain ⟨S2, B2, m1, m2, m3, m4⟩ := g6 S1 _ k3 k6 k2
      refine ⟨S2, B2, EX.trans k1 m1, m3, fun x1 y0 T y => ?_⟩
      unfold SwM
      rw [wz]
      exact cY z0 (cY z3 (fun S7 e7 S8 e8 => cY z1 ⟨B2, by rw [e8, e7]; exact m2, vc_MD_openBlocks_113 _ _ _ ⟨B2, vc_MD_openSymbols (ms_told c2 g1 m3), y⟩⟩))
  obtain ⟨p2, ha, hn, hL⟩ := g4 c2
  have hl1 : ∀ s : Nat, s < a → 0 ≤ L s ∧ L s ≤ 20 := fun s hs => by have := hL s (by omega); omega
  have hl2 : ∀ s : Nat, s < n → 0 ≤ (fun k => L (a + k)) (s : Int) ∧ (fun k => L (a + k)) (s : Int) ≤ 20 := fun s hs => by
    have := hL (a + s) (by omega)
    rw [show ((a + s : Nat) : Int) = (a : Int) + s by omega] at this
    show 0 ≤ L (a + s) ∧ L (a + s) ≤ 20
    omega
  obtain ⟨st3, h3, ⟨i1, i2, i3⟩, i4, i5, i6⟩ := jsyms (q := q) (l := L) (n := a) (l' := fun k => L (a + k)) (n' := n) he ht (by omega) hl1 (by omega) hl2 hrc m 0 st2 h2 (by omega) (by omega) g1 g3
  refine ⟨st3, h3, ⟨i1, Fw_t g2 i2, i3⟩, fun y => by have := i4 y; omega, fun S A o hS hC hD hE hA => ?_, fun S B hS h60 hT hC hB => ?_⟩
  · obtain ⟨S1, A1, k1, k2, k3, k4⟩ := g5 S A o hS hC hA
    obtain ⟨m1, m2⟩ := k4 c2
    obtain ⟨A2, n1, n2⟩ := i5 S1 A1 o 53 64 (by rw [k1.2 9 7 (by unfold XCc; omega)]; exact hS) (RdC_ey hC k1.ey (fun k => by unfold XCc; omega)) m1 m2 k3
    refine ⟨S1, A2, k1, n2, fun x4 y0 T y => ?_⟩
    unfold SwC
    rw [wz]
    exact ⟨fun w => by omega, fun w => by omega, fun _ => ⟨A1, k2, A2, vc_Blocks_openSymbols _ _ is_53 _ is_64 n1, y⟩, fun _ _ w => absurd z2 w⟩
  · obtain ⟨S1, k1, k2, k3, k4, k5, k6, k7, k8⟩ := hset S B hS h60 hT hC hB
    obtain ⟨S2, B2, m1, m2, m3, m4⟩ := g6 S1 _ k3 k6 k2
    obtain ⟨o1, o2, o3, o4⟩ := m4 c2
    obtain ⟨B3, n1, n2⟩ := i6 S2 B2 330 330 40 40 (by rw [m1.2 367 18 (by unfold XCm; omega)]; exact k3) o3 o4 (by rw [m1.1]; exact k4) (TbM_ex k5 m1 (fun a k y => by unfold XCm at y; omega)) (RdM_ey k6 m1.ey (fun k => by unfold XCm; omega)) o1 o2 m3
    refine ⟨S2, B3, EX.trans k1 m1, n2, fun x1 y0 T y => ?_⟩
    unfold SwM
    rw [wz]
    exact cY z0 (cY z3 (fun S7 e7 S8 e8 => cY z1 ⟨B2, by rw [e8, e7]; exact m2, vc_MD_openBlocks_113 _ _ _ ⟨B3, vc_MD_openSymbols n1, y⟩⟩))
end Blk5
