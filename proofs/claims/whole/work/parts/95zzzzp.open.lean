/-! open: every kind, on both sides -/
section Open2
variable {q : Nat × (Nat → Int32)} {en : Int}
theorem EY.mono {X Y : Nat → Int → Prop} {S T : ms} (h : EY X S T) (hx : ∀ a k, X a k → Y a k) : EY Y S T := ⟨h.1, fun a k n => h.2 a k (fun z => n (hx a k z))⟩
def XKc (a : Nat) (_ : Int) : Prop := (26 ≤ a ∧ a ≤ 29) ∨ (53 ≤ a ∧ a ≤ 85) ∨ a = 89 ∨ (94 ≤ a ∧ a ≤ 172)
def XKm (a : Nat) (k : Int) : Prop := (383 ≤ a ∧ a ≤ 394) ∨ a = 401 ∨ (405 ≤ a ∧ a ≤ 415) ∨ (a = 367 ∧ (k = 18 ∨ k = 45 ∨ k = 58 ∨ k = 59 ∨ k = 66))
theorem TbK_ey {X : Nat → Int → Prop} {S S1 : ms} (h : TbK S) (e : EY X S S1) (hx : ∀ a k, X a k → ¬ ((391 ≤ a ∧ a ≤ 394) ∨ (a = 367 ∧ k = 45))) : TbK S1 := by
  have q1 : ∀ (a : Nat) (k : Int), (391 ≤ a ∧ a ≤ 394) ∨ (a = 367 ∧ k = 45) → S1.1 a k = S.1 a k := fun a k y => e.2 a k (fun z => hx a k z y)
  unfold TbK TbM at h ⊢
  rw [q1 392 28 (by omega), q1 367 45 (by omega)]
  refine ⟨h.1, h.2.imp id (fun y => ⟨y.1, fun s h1 h2 => ?_, fun s h1 h2 => ?_⟩)⟩
  · rw [q1 391 s (by omega), q1 392 s (by omega)]; exact y.2.1 s h1 h2
  · rw [q1 393 s (by omega), q1 394 s (by omega)]; exact y.2.2 s h1 h2
/-- what the reference does by its kind -/
def swM (q : Nat × (Nat → Int32)) (x1 : Int) (B : ms) (r : Option Value) (T : ms) : Prop := ((w32 x1 = 1) → ∃ (S12 : ms), EV q 332 0 [some (.ref 367), none, none, none] [] B none S12 ∧ EV q 329 160 [some (.ref 367), some (vI x1), none] [] S12 r T) ∧ ((w32 x1 = 2) → ∃ (S14 : ms), EV q 338 0 [some (.ref 367), none, none, none, none, none, none, none, none, none, none] [] B none S14 ∧ EV q 329 160 [some (.ref 367), some (vI x1), none] [] S14 r T) ∧ ((w32 x1 = 3) → ∃ (S16 : ms), EV q 343 0 [some (.ref 367), some (vL 32768), none, none, none] [] B none S16 ∧ ∃ (S18 : ms), EV q 341 0 [some (.ref 367)] [] S16 none S18 ∧ EV q 329 160 [some (.ref 367), some (vI x1), none] [] S18 r T) ∧ ((w32 x1 = 4) → ∃ (S20 : ms), EV q 351 0 [some (.ref 367), none, none, none, none] [] B none S20 ∧ EV q 329 160 [some (.ref 367), some (vI x1), none] [] S20 r T) ∧ ((w32 x1 = 5) → ∃ (S22 : ms), EV q 353 0 [some (.ref 367), none, none, none, none, none, none] [] B none S22 ∧ EV q 329 160 [some (.ref 367), some (vI x1), none] [] S22 r T) ∧ ((w32 x1 = 6) → ∃ (S24 : ms), EV q 356 0 [some (.ref 367), some (vI 0), some (vI 0), none, none, none, none, none, none, none, none] [] B none S24 ∧ EV q 329 160 [some (.ref 367), some (vI x1), none] [] S24 r T) ∧ ((w32 x1 = 7) → ∃ (S26 : ms), EV q 358 0 [some (.ref 367), none, none, none, none, none, none, none, none, none] [] B none S26 ∧ EV q 329 160 [some (.ref 367), some (vI x1), none] [] S26 r T) ∧ ((w32 x1 = 8) → ∃ (S28 : ms), EV q 360 0 [some (.ref 367), none, none, none, none, none, none, none, none, none] [] B none S28 ∧ EV q 329 160 [some (.ref 367), some (vI x1), none] [] S28 r T) ∧ ((w32 x1 = 9) → ∃ (S30 : ms), EV q 362 0 [some (.ref 367), none, none, none, none, none, none, none] [] B none S30 ∧ EV q 329 160 [some (.ref 367), some (vI x1), none] [] S30 r T) ∧ ((¬ w32 x1 = 1) → (¬ w32 x1 = 2) → (¬ w32 x1 = 3) → (¬ w32 x1 = 4) → (¬ w32 x1 = 5) → (¬ w32 x1 = 6) → (¬ w32 x1 = 7) → (¬ w32 x1 = 8) → (¬ w32 x1 = 9) → ∃ (S10 : ms), EV q 367 0 [some (.ref 367), none, none, none, none, none, none, none, none, none, none, none, none, none] [] B none S10 ∧ EV q 329 160 [some (.ref 367), some (vI x1), none] [] S10 r T)
def JK (q : Nat × (Nat → Int32)) (en : Int) (t : Int → Int) (ki hi : Int) (stf : Rd) : Prop := (∀ (S A : ms) (o : Nat), S.1 9 7 = hi → RdC S o en t → CodC S 31 288 flF → CodC S 42 32 (fun _ => 5) → CR S A o en st0 → ∃ S1 A1, EY XKc S S1 ∧ EV q 116 0 [some (.ref 0), some (vI ki)] [] A none A1 ∧ CF S1 A1 o en stf) ∧ ∀ S B : ms, S.1 367 18 = 0 → TbK S → RQ S → RdM S en t → MR S B en st0 → ∃ S1 B1, EY XKm S S1 ∧ MF S1 B1 en stf ∧ TbK S1 ∧ ∀ (r : Option Value) (T : ms), EV q 329 160 [some (.ref 367), some (vI ki), none] [] B1 r T → swM q ki B r T
theorem jk_runs {t : Int → Int} (he : 0 ≤ en ∧ en ≤ 6000) (ht : ∀ k : Int, 0 ≤ k → k < en → 0 ≤ t k ∧ t k < 256) : ∃ stf : Rd, rdR en stf ∧ JK q en t 1 0 stf := by
  obtain ⟨stf, h1, h2, h3⟩ := oj_runs (q := q) he ht
  refine ⟨stf, h1, fun S A o hS hC c1 c2 hA => ?_, fun S B hS hT hQ hC hB => ?_⟩
  · obtain ⟨S1, A1, k1, k2, k3⟩ := h2 S A o hC hA
    exact ⟨S1, A1, EY.mono k1 (fun a k y => absurd y (fun z => z)), vc_PH_openKind _ ⟨fun _ => ⟨A1, k2, rfl, rfl⟩, fun n => absurd n (by decide), fun n => absurd n (by decide), fun n => absurd n (by decide), fun n => absurd n (by decide), fun n => absurd n (by decide), fun n => absurd n (by decide), fun n => absurd n (by decide), fun n => absurd n (by decide), fun n1 n2 n3 n4 n5 n6 n7 n8 n9 => absurd (by decide) n1⟩, k3⟩
  · obtain ⟨S1, B1, k1, k2, k3⟩ := h3 S B hC hB
    exact ⟨S1, B1, EY.mono k1 (fun a k y => absurd y (fun z => z)), k3, TbK_ey hT k1 (fun a k y => absurd y (fun z => z)), fun r T y => ⟨fun _ => ⟨B1, k2, y⟩, fun n => absurd n (by decide), fun n => absurd n (by decide), fun n => absurd n (by decide), fun n => absurd n (by decide), fun n => absurd n (by decide), fun n => absurd n (by decide), fun n => absurd n (by decide), fun n => absurd n (by decide), fun n1 n2 n3 n4 n5 n6 n7 n8 n9 => absurd (by decide) n1⟩⟩
theorem jk_words {t : Int → Int} (he : 0 ≤ en ∧ en ≤ 6000) (ht : ∀ k : Int, 0 ≤ k → k < en → 0 ≤ t k ∧ t k < 256) : ∃ stf : Rd, rdR en stf ∧ JK q en t 2 0 stf := by
  obtain ⟨stf, h1, h2, h3⟩ := oj_words (q := q) he ht
  refine ⟨stf, h1, fun S A o hS hC c1 c2 hA => ?_, fun S B hS hT hQ hC hB => ?_⟩
  · obtain ⟨S1, A1, k1, k2, k3⟩ := h2 S A o hS hC hA
    exact ⟨S1, A1, EY.mono k1 (fun a k y => by unfold WX at y; unfold XKc; omega), vc_PH_openKind _ ⟨fun n => absurd n (by decide), fun _ => ⟨A1, k2, rfl, rfl⟩, fun n => absurd n (by decide), fun n => absurd n (by decide), fun n => absurd n (by decide), fun n => absurd n (by decide), fun n => absurd n (by decide), fun n => absurd n (by decide), fun n => absurd n (by decide), fun n1 n2 n3 n4 n5 n6 n7 n8 n9 => absurd (by decide) n2⟩, k3⟩
  · obtain ⟨S1, B1, k1, k2, k3⟩ := h3 S B hS hC hB
    exact ⟨S1, B1, EY.mono k1 (fun a k y => by unfold WY at y; unfold XKm; omega), k3, TbK_ey hT k1 (fun a k y => by unfold WY at y; omega), fun r T y => ⟨fun n => absurd n (by decide), fun _ => ⟨B1, k2, y⟩, fun n => absurd n (by decide), fun n => absurd n (by decide), fun n => absurd n (by decide), fun n => absurd n (by decide), fun n => absurd n (by decide), fun n => absurd n (by decide), fun n => absurd n (by decide), fun n1 n2 n3 n4 n5 n6 n7 n8 n9 => absurd (by decide) n2⟩⟩
theorem jk_blocks {t : Int → Int} (he : 0 ≤ en ∧ en ≤ 6000) (ht : ∀ k : Int, 0 ≤ k → k < en → 0 ≤ t k ∧ t k < 256) : ∃ stf : Rd, rdR en stf ∧ JK q en t 3 0 stf := by
  obtain ⟨stf, h1, h2, h3⟩ := oj_blocks (q := q) he ht
  refine ⟨stf, h1, fun S A o hS hC c1 c2 hA => ?_, fun S B hS hT hQ hC hB => ?_⟩
  · obtain ⟨S1, A1, A2, k1, k2, k3, k4⟩ := h2 S A o hS hC c1 c2 hA
    exact ⟨S1, A2, EY.mono k1 (fun a k y => by unfold XCc at y; unfold XKc; omega), vc_PH_openKind _ ⟨fun n => absurd n (by decide), fun n => absurd n (by decide), fun _ => ⟨A1, k2, A2, k3, rfl, rfl⟩, fun n => absurd n (by decide), fun n => absurd n (by decide), fun n => absurd n (by decide), fun n => absurd n (by decide), fun n => absurd n (by decide), fun n => absurd n (by decide), fun n1 n2 n3 n4 n5 n6 n7 n8 n9 => absurd (by decide) n3⟩, k4⟩
  · obtain ⟨S1, B1, B2, k1, k2, k3, k4, k5⟩ := h3 S B hT hC hB
    exact ⟨S1, B2, EY.mono k1 (fun a k y => by unfold XBm XCm XTb at y; unfold XKm; omega), k4, k5, fun r T y => ⟨fun n => absurd n (by decide), fun n => absurd n (by decide), fun _ => ⟨B1, k2, B2, k3, y⟩, fun n => absurd n (by decide), fun n => absurd n (by decide), fun n => absurd n (by decide), fun n => absurd n (by decide), fun n => absurd n (by decide), fun n => absurd n (by decide), fun n1 n2 n3 n4 n5 n6 n7 n8 n9 => absurd (by decide) n3⟩⟩
theorem jk_rim {t : Int → Int} (he : 0 ≤ en ∧ en ≤ 6000) (ht : ∀ k : Int, 0 ≤ k → k < en → 0 ≤ t k ∧ t k < 256) : ∃ stf : Rd, rdR en stf ∧ JK q en t 4 0 stf := by
  obtain ⟨stf, h1, h2, h3⟩ := oj_rim (q := q) he ht
  refine ⟨stf, h1, fun S A o hS hC c1 c2 hA => ?_, fun S B hS hT hQ hC hB => ?_⟩
  · obtain ⟨S1, A1, k1, k2, k3⟩ := h2 S A o hS hC c1 c2 hA
    exact ⟨S1, A1, EY.mono k1 (fun a k y => by unfold XCc at y; unfold XKc; omega), vc_PH_openKind _ ⟨fun n => absurd n (by decide), fun n => absurd n (by decide), fun n => absurd n (by decide), fun _ => ⟨A1, k2, rfl, rfl⟩, fun n => absurd n (by decide), fun n => absurd n (by decide), fun n => absurd n (by decide), fun n => absurd n (by decide), fun n => absurd n (by decide), fun n1 n2 n3 n4 n5 n6 n7 n8 n9 => absurd (by decide) n4⟩, k3⟩
  · obtain ⟨S1, B1, k1, k2, k3, k4⟩ := h3 S B hT hC hB
    exact ⟨S1, B1, EY.mono k1 (fun a k y => by unfold XBm XCm XTb at y; unfold XKm; omega), k3, k4, fun r T y => ⟨fun n => absurd n (by decide), fun n => absurd n (by decide), fun n => absurd n (by decide), fun _ => ⟨B1, k2, y⟩, fun n => absurd n (by decide), fun n => absurd n (by decide), fun n => absurd n (by decide), fun n => absurd n (by decide), fun n => absurd n (by decide), fun n1 n2 n3 n4 n5 n6 n7 n8 n9 => absurd (by decide) n4⟩⟩
theorem jk_member {t : Int → Int} (he : 0 ≤ en ∧ en ≤ 6000) (ht : ∀ k : Int, 0 ≤ k → k < en → 0 ≤ t k ∧ t k < 256) : ∃ stf : Rd, rdR en stf ∧ JK q en t 5 0 stf := by
  obtain ⟨stf, h1, h2, h3⟩ := oj_member (q := q) he ht
  refine ⟨stf, h1, fun S A o hS hC c1 c2 hA => ?_, fun S B hS hT hQ hC hB => ?_⟩
  · obtain ⟨S1, A1, k1, k2, k3⟩ := h2 S A o hS hC c1 c2 hA
    exact ⟨S1, A1, EY.mono k1 (fun a k y => by unfold XCc at y; unfold XKc; omega), vc_PH_openKind _ ⟨fun n => absurd n (by decide), fun n => absurd n (by decide), fun n => absurd n (by decide), fun n => absurd n (by decide), fun _ => ⟨A1, k2, rfl, rfl⟩, fun n => absurd n (by decide), fun n => absurd n (by decide), fun n => absurd n (by decide), fun n => absurd n (by decide), fun n1 n2 n3 n4 n5 n6 n7 n8 n9 => absurd (by decide) n5⟩, k3⟩
  · obtain ⟨S1, B1, k1, k2, k3, k4⟩ := h3 S B hT hQ.1 hC hB
    exact ⟨S1, B1, EY.mono k1 (fun a k y => by unfold XBm XCm XTb at y; unfold XKm; omega), k3, k4, fun r T y => ⟨fun n => absurd n (by decide), fun n => absurd n (by decide), fun n => absurd n (by decide), fun n => absurd n (by decide), fun _ => ⟨B1, k2, y⟩, fun n => absurd n (by decide), fun n => absurd n (by decide), fun n => absurd n (by decide), fun n => absurd n (by decide), fun n1 n2 n3 n4 n5 n6 n7 n8 n9 => absurd (by decide) n5⟩⟩
theorem jk_fast {t : Int → Int} (he : 0 ≤ en ∧ en ≤ 6000) (ht : ∀ k : Int, 0 ≤ k → k < en → 0 ≤ t k ∧ t k < 256) : ∃ stf : Rd, rdR en stf ∧ JK q en t 6 0 stf := by
  obtain ⟨stf, h1, h2, h3⟩ := oj_fast (q := q) he ht
  refine ⟨stf, h1, fun S A o hS hC c1 c2 hA => ?_, fun S B hS hT hQ hC hB => ?_⟩
  · obtain ⟨S1, A1, k1, k2, k3⟩ := h2 S A o hC hA
    exact ⟨S1, A1, EY.mono k1 (fun a k y => absurd y (fun z => z)), vc_PH_openKind _ ⟨fun n => absurd n (by decide), fun n => absurd n (by decide), fun n => absurd n (by decide), fun n => absurd n (by decide), fun n => absurd n (by decide), fun _ => ⟨A1, k2, rfl, rfl⟩, fun n => absurd n (by decide), fun n => absurd n (by decide), fun n => absurd n (by decide), fun n1 n2 n3 n4 n5 n6 n7 n8 n9 => absurd (by decide) n6⟩, k3⟩
  · obtain ⟨S1, B1, k1, k2, k3⟩ := h3 S B hC hB
    exact ⟨S1, B1, EY.mono k1 (fun a k y => absurd y (fun z => z)), k3, TbK_ey hT k1 (fun a k y => absurd y (fun z => z)), fun r T y => ⟨fun n => absurd n (by decide), fun n => absurd n (by decide), fun n => absurd n (by decide), fun n => absurd n (by decide), fun n => absurd n (by decide), fun _ => ⟨B1, k2, y⟩, fun n => absurd n (by decide), fun n => absurd n (by decide), fun n => absurd n (by decide), fun n1 n2 n3 n4 n5 n6 n7 n8 n9 => absurd (by decide) n6⟩⟩
theorem jk_frame {t : Int → Int} (he : 0 ≤ en ∧ en ≤ 6000) (ht : ∀ k : Int, 0 ≤ k → k < en → 0 ≤ t k ∧ t k < 256) : ∃ stf : Rd, rdR en stf ∧ JK q en t 7 0 stf := by
  obtain ⟨stf, h1, h2, h3⟩ := oj_frame (q := q) he ht
  refine ⟨stf, h1, fun S A o hS hC c1 c2 hA => ?_, fun S B hS hT hQ hC hB => ?_⟩
  · obtain ⟨S1, A1, k1, k2, k3⟩ := h2 S A o hC hA
    exact ⟨S1, A1, EY.mono k1 (fun a k y => by unfold XKc; omega), vc_PH_openKind _ ⟨fun n => absurd n (by decide), fun n => absurd n (by decide), fun n => absurd n (by decide), fun n => absurd n (by decide), fun n => absurd n (by decide), fun n => absurd n (by decide), fun _ => ⟨A1, k2, rfl, rfl⟩, fun n => absurd n (by decide), fun n => absurd n (by decide), fun n1 n2 n3 n4 n5 n6 n7 n8 n9 => absurd (by decide) n7⟩, k3⟩
  · obtain ⟨S1, B1, k1, k2, k3⟩ := h3 S B hC hB
    exact ⟨S1, B1, EY.mono k1 (fun a k y => absurd y (fun z => z)), k3, TbK_ey hT k1 (fun a k y => absurd y (fun z => z)), fun r T y => ⟨fun n => absurd n (by decide), fun n => absurd n (by decide), fun n => absurd n (by decide), fun n => absurd n (by decide), fun n => absurd n (by decide), fun n => absurd n (by decide), fun _ => ⟨B1, k2, y⟩, fun n => absurd n (by decide), fun n => absurd n (by decide), fun n1 n2 n3 n4 n5 n6 n7 n8 n9 => absurd (by decide) n7⟩⟩
theorem jk_copies {t : Int → Int} (he : 0 ≤ en ∧ en ≤ 6000) (ht : ∀ k : Int, 0 ≤ k → k < en → 0 ≤ t k ∧ t k < 256) : ∃ stf : Rd, rdR en stf ∧ JK q en t 8 0 stf := by
  obtain ⟨stf, h1, h2, h3⟩ := oj_copies (q := q) he ht
  refine ⟨stf, h1, fun S A o hS hC c1 c2 hA => ?_, fun S B hS hT hQ hC hB => ?_⟩
  · obtain ⟨S1, A1, k1, k2, k3⟩ := h2 S A o hC hA
    exact ⟨S1, A1, EY.mono k1 (fun a k y => absurd y (fun z => z)), vc_PH_openKind _ ⟨fun n => absurd n (by decide), fun n => absurd n (by decide), fun n => absurd n (by decide), fun n => absurd n (by decide), fun n => absurd n (by decide), fun n => absurd n (by decide), fun n => absurd n (by decide), fun _ => ⟨A1, k2, rfl, rfl⟩, fun n => absurd n (by decide), fun n1 n2 n3 n4 n5 n6 n7 n8 n9 => absurd (by decide) n8⟩, k3⟩
  · obtain ⟨S1, B1, k1, k2, k3⟩ := h3 S B hC hB
    exact ⟨S1, B1, EY.mono k1 (fun a k y => absurd y (fun z => z)), k3, TbK_ey hT k1 (fun a k y => absurd y (fun z => z)), fun r T y => ⟨fun n => absurd n (by decide), fun n => absurd n (by decide), fun n => absurd n (by decide), fun n => absurd n (by decide), fun n => absurd n (by decide), fun n => absurd n (by decide), fun n => absurd n (by decide), fun _ => ⟨B1, k2, y⟩, fun n => absurd n (by decide), fun n1 n2 n3 n4 n5 n6 n7 n8 n9 => absurd (by decide) n8⟩⟩
theorem jk_sorted {t : Int → Int} (he : 0 ≤ en ∧ en ≤ 6000) (ht : ∀ k : Int, 0 ≤ k → k < en → 0 ≤ t k ∧ t k < 256) : ∃ stf : Rd, rdR en stf ∧ JK q en t 9 1 stf := by
  obtain ⟨stf, h1, h2, h3⟩ := oj_sorted (q := q) he ht
  refine ⟨stf, h1, fun S A o hS hC c1 c2 hA => ?_, fun S B hS hT hQ hC hB => ?_⟩
  · obtain ⟨S1, A1, k1, k2, k3⟩ := h2 S A o hS hC hA
    exact ⟨S1, A1, EY.mono k1 (fun a k y => by unfold xSC at y; unfold XKc; omega), vc_PH_openKind _ ⟨fun n => absurd n (by decide), fun n => absurd n (by decide), fun n => absurd n (by decide), fun n => absurd n (by decide), fun n => absurd n (by decide), fun n => absurd n (by decide), fun n => absurd n (by decide), fun n => absurd n (by decide), fun _ => ⟨A1, k2, rfl, rfl⟩, fun n1 n2 n3 n4 n5 n6 n7 n8 n9 => absurd (by decide) n9⟩, k3⟩
  · obtain ⟨S1, B1, k1, k2, k3⟩ := h3 S B hQ.2 hC hB
    exact ⟨S1, B1, EY.mono k1 (fun a k y => by unfold xSN xSM at y; unfold XKm; omega), k3, TbK_ey hT k1 (fun a k y => by unfold xSN xSM at y; omega), fun r T y => ⟨fun n => absurd n (by decide), fun n => absurd n (by decide), fun n => absurd n (by decide), fun n => absurd n (by decide), fun n => absurd n (by decide), fun n => absurd n (by decide), fun n => absurd n (by decide), fun n => absurd n (by decide), fun _ => ⟨B1, k2, y⟩, fun n1 n2 n3 n4 n5 n6 n7 n8 n9 => absurd (by decide) n9⟩⟩
theorem jk_odds {t : Int → Int} (he : 0 ≤ en ∧ en ≤ 6000) (ht : ∀ k : Int, 0 ≤ k → k < en → 0 ≤ t k ∧ t k < 256) : ∃ stf : Rd, rdR en stf ∧ JK q en t 10 0 stf := by
  obtain ⟨stf, h1, h2, h3⟩ := oj_odds (q := q) he ht
  refine ⟨stf, h1, fun S A o hS hC c1 c2 hA => ?_, fun S B hS hT hQ hC hB => ?_⟩
  · obtain ⟨S1, A1, k1, k2, k3⟩ := h2 S A o hC hA
    exact ⟨S1, A1, EY.mono k1 (fun a k y => by unfold XKc; omega), vc_PH_openKind _ ⟨fun n => absurd n (by decide), fun n => absurd n (by decide), fun n => absurd n (by decide), fun n => absurd n (by decide), fun n => absurd n (by decide), fun n => absurd n (by decide), fun n => absurd n (by decide), fun n => absurd n (by decide), fun n => absurd n (by decide), fun _ _ _ _ _ _ _ _ _ => ⟨A1, k2, rfl, rfl⟩⟩, k3⟩
  · obtain ⟨S1, B1, k1, k2, k3⟩ := h3 S B hC hB
    exact ⟨S1, B1, EY.mono k1 (fun a k y => by unfold XKm; omega), k3, TbK_ey hT k1 (fun a k y => by omega), fun r T y => ⟨fun n => absurd n (by decide), fun n => absurd n (by decide), fun n => absurd n (by decide), fun n => absurd n (by decide), fun n => absurd n (by decide), fun n => absurd n (by decide), fun n => absurd n (by decide), fun n => absurd n (by decide), fun n => absurd n (by decide), fun _ _ _ _ _ _ _ _ _ => ⟨B1, k2, y⟩⟩⟩
theorem jk_all {t : Int → Int} {ki : Int} (hk : 1 ≤ ki ∧ ki ≤ 10) (he : 0 ≤ en ∧ en ≤ 6000) (ht : ∀ k : Int, 0 ≤ k → k < en → 0 ≤ t k ∧ t k < 256) : ∃ stf : Rd, rdR en stf ∧ JK q en t ki (if ki = 9 then 1 else 0) stf := by
  have h : ki = 1 ∨ ki = 2 ∨ ki = 3 ∨ ki = 4 ∨ ki = 5 ∨ ki = 6 ∨ ki = 7 ∨ ki = 8 ∨ ki = 9 ∨ ki = 10 := by omega
  rcases h with rfl | rfl | rfl | rfl | rfl | rfl | rfl | rfl | rfl | rfl
  · exact jk_runs he ht
  · exact jk_words he ht
  · exact jk_blocks he ht
  · exact jk_rim he ht
  · exact jk_member he ht
  · exact jk_fast he ht
  · exact jk_frame he ht
  · exact jk_copies he ht
  · exact jk_sorted he ht
  · exact jk_odds he ht
end Open2
