/-! BLOCKS: open, both sides at once -/
section Blk7
variable {q : Nat × (Nat → Int32)} {en : Int}
theorem MB_J {S B : ms} {a : Nat} {u : Int} {st : Rd} (k v : Int) (h : MB S B en st u) : MB (wJ S a k v) (wJ B a k v) en st u := by
  refine ⟨?_, h.2⟩
  show ((wJ B a k v).2.1, (wJ B a k v).2.2) = ((wJ S a k v).2.1, (wJ S a k v).2.2)
  unfold wJ
  rw [h.1]
def XBm (a : Nat) (k : Int) : Prop := XCm a k ∨ XTb a k ∨ (a = 367 ∧ k = 18)
theorem jall {t : Int → Int} {rc : Int} (he : 0 ≤ en ∧ en ≤ 6000) (ht : ∀ k : Int, 0 ≤ k → k < en → 0 ≤ t k ∧ t k < 256) (hrc : 0 ≤ rc ∧ rc ≤ 100000) {st : Rd} {h : Int} (hr : rdR en st) (hh : hR st h) : ∃ stf : Rd, (rdR en stf ∧ Fw st stf) ∧ (∀ (S A : ms) (o : Nat), S.1 9 7 = 0 → RdC S o en t → CodC S 31 288 flF → CodC S 42 32 (fun _ => 5) → CB S A o en t st h → ∃ S1 A1, EX XCc S S1 ∧ EV q 129 0 [some (.ref 30), some (.ref 9), some (vI rc), none, none] [] A none A1 ∧ CR S1 A1 o en stf) ∧ ∀ S B : ms, TbK S → RdM S en t → MB S B en st h → ∃ S1 B1, EY XBm S S1 ∧ EV q 343 0 [some (.ref 367), some (vL rc), none, none, none] [] B none B1 ∧ MR S1 B1 en stf ∧ TbK S1 := by
  obtain ⟨stf, g1, g2, g3⟩ := jblk (q := q) (rc := rc) he ht hrc 60000 0 st h (by
    have q1 := hr.2.1
    have q2 := hh.1
    unfold rdP
    omega) (by decide) hr hh
  refine ⟨stf, g1, fun S A o hS hC hD hE hA => ?_, fun S B hK hC hB => ?_⟩
  · obtain ⟨S1, A1, k1, k2, k3⟩ := g2 S A o hS hC hD hE hA
    exact ⟨S1, A1, k1, vc_Blocks_openAll _ k2, k3⟩
  · have hKB : TbK B := by
      refine ⟨by rw [hB.2.2.2 392 28 (by omega) (by omega)]; exact hK.1, ?_⟩
      rw [hB.2.2.2 367 45 (by omega) (by omega)]
      rcases hK.2 with y | ⟨y, hT⟩
      · exact Or.inl y
      · refine Or.inr ⟨y, fun s s0 s1 => ?_, fun s s0 s1 => ?_⟩
        · rw [hB.2.2.2 391 s (by omega) (by omega), hB.2.2.2 392 s (by omega) (by omega)]
          exact hT.1 s s0 s1
        · rw [hB.2.2.2 393 s (by omega) (by omega), hB.2.2.2 394 s (by omega) (by omega)]
          exact hT.2 s s0 s1
    obtain ⟨B1, k1, k2, k3, k4⟩ := md_prep (q := q) hKB
    have ex : EX (fun a k => XTb a k ∨ (a = 367 ∧ k = 18)) B (wI B1 367 18 0) := EX.wr (EX.mono k1 (fun a k y => Or.inl y)) (Or.inr ⟨rfl, rfl⟩)
    obtain ⟨S1, s1, s2, s3⟩ := MB_X (X := fun a k => XTb a k ∨ (a = 367 ∧ k = 18)) (fun a k y => by unfold XTb at y; omega) hB ex
    have hT1 : TbM S1 := by
      refine ⟨fun s s0 s1' => ?_, fun s s0 s1' => ?_⟩
      · rw [s2 391 s (by unfold XTb; omega), s2 392 s (by unfold XTb; omega), wI_no _ (by omega), wI_no _ (by omega)]
        exact k3.1 s s0 s1'
      · rw [s2 393 s (by unfold XTb; omega), s2 394 s (by unfold XTb; omega), wI_no _ (by omega), wI_no _ (by omega)]
        exact k3.2 s s0 s1'
    have h18 : S1.1 367 18 = 0 := by
      rw [s2 367 18 (Or.inr ⟨rfl, rfl⟩)]
      exact wI_at _ _ _ _
    have e45 : S1.1 367 45 = 0 ∨ S1.1 367 45 = 1 := by
      rw [s2 367 45 (by unfold XTb; omega), wI_no _ (by omega)]
      rcases k4.2 with y | ⟨y, _⟩
      · exact Or.inl y
      · exact Or.inr y
    have e28 : S1.1 392 28 = 0 := by
      rw [s2 392 28 (by unfold XTb; omega), wI_no _ (by omega)]
      exact k4.1
    obtain ⟨S2, B2, m1, m2, m3⟩ := g3 (wJ S1 367 60 rc) (wJ (wI B1 367 18 0) 367 60 rc) rc h18 (by show (if (367 : Nat) = 367 ∧ (60 : Int) = 60 then rc else S1.2.1 367 60) = rc; exact if_pos ⟨rfl, rfl⟩) hT1 (RdM_ey hC (show EY (fun a k => XTb a k ∨ (a = 367 ∧ k = 18)) S (wJ S1 367 60 rc) from ⟨by show S1.2.2 = S.2.2; rw [s1.1], s1.2⟩) (fun k => by unfold XTb; omega)) (MB_J 60 rc s3)
    have hT2 : TbM S2 := TbM_ex (S := wJ S1 367 60 rc) hT1 m1 (fun a k y => by unfold XCm at y; omega)
    refine ⟨S2, B2, ⟨?_, fun a k y => ?_⟩, vc_MD_openBlocks _ ⟨B1, k2, fun S3 e3 S4 e4 => by rw [e4, e3]; exact m2⟩, m3, ?_, ?_⟩
    · rw [m1.1]
      show S1.2.2 = S.2.2
      rw [s1.1]
    · rw [m1.2 a k (fun z => y (Or.inl z))]
      show S1.1 a k = S.1 a k
      exact s1.2 a k (fun z => y (Or.inr z))
    · rw [m1.2 392 28 (by unfold XCm; omega)]
      exact e28
    · rw [m1.2 367 45 (by unfold XCm; omega)]
      rcases e45 with y | y
      · exact Or.inl y
      · exact Or.inr ⟨y, hT2⟩
/-- open, kind 3 -/
theorem oj_blocks {t : Int → Int} (he : 0 ≤ en ∧ en ≤ 6000) (ht : ∀ k : Int, 0 ≤ k → k < en → 0 ≤ t k ∧ t k < 256) : ∃ stf : Rd, rdR en stf ∧ (∀ (S A : ms) (o : Nat), S.1 9 7 = 0 → RdC S o en t → CodC S 31 288 flF → CodC S 42 32 (fun _ => 5) → CR S A o en st0 → ∃ S1 A1 A2, EY XCc S S1 ∧ EV q 129 0 [some (.ref 30), some (.ref 9), some (vI 32768), none, none] [] A none A1 ∧ EV q 125 0 [some (.ref 9)] [] A1 none A2 ∧ CF S1 A2 o en stf) ∧ ∀ S B : ms, TbK S → RdM S en t → MR S B en st0 → ∃ S1 B1 B2, EY XBm S S1 ∧ EV q 343 0 [some (.ref 367), some (vL 32768), none, none, none] [] B none B1 ∧ EV q 341 0 [some (.ref 367)] [] B1 none B2 ∧ MF S1 B2 en stf ∧ TbK S1 := by
  have hr0 : rdR en st0 := rdR_0 he.1
  obtain ⟨st1, ⟨g1, g2⟩, g3, g4⟩ := jall (q := q) (rc := 32768) he ht (by decide) hr0 (hR_0 st0)
  refine ⟨rdEnd en st1, rdR_end g1, fun S A o hS hC hD hE hA => ?_, fun S B hK hC hB => ?_⟩
  · obtain ⟨S1, A1, k1, k2, k3⟩ := g3 S A o hS hC hD hE (CB_0 t hA)
    obtain ⟨A2, k4, k5⟩ := sb_end (q := q) (RdC_ey hC k1.ey (fun k => by unfold XCc; omega)) g1 k3
    exact ⟨S1, A1, A2, k1.ey, k2, k4, ⟨_, _, k5⟩⟩
  · obtain ⟨S1, B1, k1, k2, k3, k4⟩ := g4 S B hK hC hB
    obtain ⟨B2, k5, k6⟩ := mb_end (q := q) he.2 g1 (hR_0 st1) k3
    exact ⟨S1, B1, B2, k1, k2, k5, ⟨_, k6⟩, k4⟩
end Blk7
