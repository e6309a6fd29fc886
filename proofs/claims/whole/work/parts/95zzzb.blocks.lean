/-! BLOCKS: a stored block, both sides at once -/
section Blk3
variable {q : Nat × (Nat → Int32)} {en : Int}
theorem cb_whole {S A : ms} {o : Nat} {t : Int → Int} {u : Int} {st : Rd} (ho : (300 < o ∨ o = 7)) (h : CB S A o en t st u) : EV q 131 0 [some (.ref 9)] [] A none (wI A 9 8 0) ∧ CR S (wI A 9 8 0) o en st := by
  refine ⟨vc_Source_closeOctet (fun S1 e => ⟨rfl, e.symm⟩), ?_⟩
  obtain ⟨a1, ⟨a2, a3, a4, a5, a6⟩, ⟨a7, a8⟩, a9⟩ := h
  have w : ∀ (a : Nat) (k : Int), ¬ (a = 9 ∧ k = 8) → (wI A 9 8 0).1 a k = A.1 a k := fun a k n => by
    show (if a = 9 ∧ k = 8 then (0 : Int) else A.1 a k) = A.1 a k
    rw [if_neg n]
  refine ⟨a1, ⟨fun y => ?_, ?_, ?_, fun y => ?_, fun y => ⟨?_, rfl, fun z => absurd z (by decide)⟩⟩, ⟨?_, fun k k1 k2 => ?_⟩, fun a k n1 n2 n3 => ?_⟩
  · rw [w 9 2 (by omega)]; exact a2 y
  · rw [w 9 5 (by omega)]; exact a3
  · rw [w 9 6 (by omega)]; exact a4
  · rw [w 9 3 (by omega)]; exact a5 y
  · rw [w 9 4 (by omega)]; exact (a6 y).1
  · rw [w o 1 (by omega)]; exact a7
  · rw [w (o + 1) k (by omega)]; exact a8 k k1 k2
  · rw [w a k (by omega)]; exact a9 a k n1 n2 n3
theorem jlw0 {t : Int → Int} (ht : ∀ k : Int, 0 ≤ k → k < en → 0 ≤ t k ∧ t k < 256) {n : Nat} (hn : n ≤ 8) {st : Rd} (hr : rdR en st) : ∃ (z : Int) (st' : Rd), (rdR en st' ∧ Fw st st' ∧ st'.2.2.2 = st.2.2.2) ∧ (0 ≤ z ∧ z < (256 : Int) ^ n) ∧ (∀ (S A : ms) (o : Nat), RdC S o en t → CR S A o en st → ∃ A', EV q 132 0 [some (.ref 9), some (vI n), none, none, none] [] A (some (vL z)) A' ∧ CR S A' o en st') ∧ ∀ S B : ms, RdM S en t → MR S B en st → ∃ B', EV q 345 0 [some (.ref 367), some (vI n), none, none, none] [] B (some (vL z)) B' ∧ MR S B' en st' := by
  obtain ⟨z, st', g1, g2, g3, g4⟩ := jlw (q := q) ht hn n 0 0 st (by omega) hr (by show (0 : Int) ≤ 0 ∧ (0 : Int) < 1; decide)
  refine ⟨z, st', g1, g2, fun S A o hC h => ?_, fun S B hC h => ?_⟩
  · obtain ⟨A', k1, k2⟩ := g3 S A o hC h
    exact ⟨A', vc_Source_takeLow _ k1, k2⟩
  · obtain ⟨B', k1, k2⟩ := g4 S B hC h
    exact ⟨B', vc_MD_lowNumber _ k1, k2⟩
theorem lX_iff {a b : Int} (ha : 0 ≤ a ∧ a < 65536) (hb : 0 ≤ b ∧ b < 65536) : (w64 (lX a b) = w64 65535) = (w64 b = w64 (lX a 65535)) := by
  obtain ⟨x, ex⟩ : ∃ x : Nat, a = x := ⟨a.toNat, by omega⟩
  obtain ⟨y, ey⟩ : ∃ y : Nat, b = y := ⟨b.toNat, by omega⟩
  subst ex ey
  have e1 : lX (x : Int) (y : Int) = ((x ^^^ y : Nat) : Int) := by
    unfold lX
    rw [show ((x : Int) % 18446744073709551616).toNat = x by omega, show ((y : Int) % 18446744073709551616).toNat = y by omega]
  have e2 : lX (x : Int) 65535 = ((x ^^^ 65535 : Nat) : Int) := by
    unfold lX
    rw [show ((x : Int) % 18446744073709551616).toNat = x by omega]
    rfl
  have b1 : x ^^^ y < 2 ^ 16 := Nat.xor_lt_two_pow (by omega) (by omega)
  have b2 : x ^^^ 65535 < 2 ^ 16 := Nat.xor_lt_two_pow (by omega) (by decide)
  have b3 : (2 : Nat) ^ 16 = 65536 := by decide
  rw [e1, e2]
  have w1 : Unit → w64 ((x ^^^ y : Nat) : Int) = ((x ^^^ y : Nat) : Int) := fun _ => w64_of (by omega)
  have w2 : Unit → w64 ((x ^^^ 65535 : Nat) : Int) = ((x ^^^ 65535 : Nat) : Int) := fun _ => w64_of (by omega)
  have w3 : Unit → w64 ((y : Nat) : Int) = y := fun _ => w64_of (by omega)
  have w4 : w64 65535 = 65535 := by decide
  rw [w1 (), w2 (), w3 (), w4]
  refine propext ⟨fun h => ?_, fun h => ?_⟩
  · have h' : x ^^^ y = 65535 := by omega
    rw [← h', ← Nat.xor_assoc, Nat.xor_self, Nat.zero_xor]
  · have h' : y = x ^^^ 65535 := by omega
    rw [h', ← Nat.xor_assoc, Nat.xor_self, Nat.zero_xor]
    rfl
theorem ms_copy {S : ms} {t : Int → Int} (he : en ≤ 6000) (hC : RdM S en t) {n : Nat} (hn : n < 1000000000) {x3 : Int} : ∀ (m i : Nat) (B : ms) (st : Rd), i + m = n → rdR en st → MR S B en st → ∃ B', EV q 344 41 [some (.ref 367), some (vL n), none, some (vL x3), none, some (vL i), none, none] [] B none B' ∧ MR S B' en (rdCopy t en m st) := by
  intro m
  induction m with
  | zero =>
    intro i B st hi hr h
    have e : i = n := by omega
    subst e
    exact ⟨B, vc_MD_openStored_41 _ _ _ (cY (Int.le_refl _) ⟨rfl, rfl⟩), h⟩
  | succ m ih =>
    intro i B st hi hr h
    have wn : Unit → w64 ((n : Nat) : Int) = n := fun _ => w64_of (by omega)
    have wi : Unit → w64 ((i : Nat) : Int) = i := fun _ => w64_of (by omega)
    have z0 : ¬ (n : Int) ≤ i := by omega
    have kf := md_fine (q := q) hr h
    rw [rdCopy_s]
    by_cases c : st.1 ≠ 0
    · rw [if_neg c] at kf
      refine ⟨B, vc_MD_openStored_41 _ _ _ ?_, by rw [if_pos c]; exact h⟩
      rw [wn (), wi ()]
      exact cNo z0 ⟨0, B, kf, cY (by decide) ⟨rfl, rfl⟩⟩
    · have c0 : st.1 = 0 := by omega
      rw [if_pos c0] at kf
      obtain ⟨B1, k1, k2⟩ := md_take (q := q) hC hr h
      obtain ⟨B2, k3, k4⟩ := md_emit (q := q) (v := (rdTake t en st).1) (rdR_take hr) he k2
      obtain ⟨B3, k5, k6⟩ := ih (i + 1) B2 _ (by omega) (rdR_emit (rdR_take hr)) k4
      rw [show ((i + 1 : Nat) : Int) = (i : Int) + 1 by omega] at k5
      refine ⟨B3, vc_MD_openStored_41 _ _ _ ?_, by rw [if_neg c]; exact k6⟩
      rw [wn (), wi ()]
      exact cNo z0 ⟨1, B, kf, cNo (by decide) ⟨_, B1, k1, B2, k3, k5⟩⟩
theorem jsto {t : Int → Int} (he : 0 ≤ en ∧ en ≤ 6000) (ht : ∀ k : Int, 0 ≤ k → k < en → 0 ≤ t k ∧ t k < 256) {st : Rd} {h : Int} (hr : rdR en st) (hh : hR st h) : ∃ stf : Rd, (rdR en stf ∧ Fw st stf) ∧ (∀ (S A : ms) (o : Nat), RdC S o en t → CB S A o en t st h → ∃ A', EV q 130 0 [some (.ref 9), none, none, none, none] [] A none A' ∧ CR S A' o en stf) ∧ ∀ S B : ms, RdM S en t → MB S B en st h → ∃ B', EV q 344 0 [some (.ref 367), none, none, none, none, none, none, none] [] B none B' ∧ MR S B' en stf := by
  obtain ⟨z, st1, ⟨f1, f2, f3⟩, f4, f5, f6⟩ := jlw0 (q := q) ht (n := 2) (by decide) hr
  obtain ⟨y, st2, ⟨g1, g2, g3⟩, g4, g5, g6⟩ := jlw0 (q := q) ht (n := 2) (by decide) f1
  have p2 : (256 : Int) ^ 2 = 65536 := by decide
  rw [p2] at f4 g4
  obtain ⟨n, en'⟩ : ∃ n : Nat, z = n := ⟨z.toNat, by omega⟩
  have gt := rd_gt (c := w64 y = w64 (lX z 65535)) (k := 3) (by decide) g1
  refine ⟨rdCopy t en n (if w64 y = w64 (lX z 65535) then st2 else rdTell 3 st2), ⟨rdR_copy n gt.1, Fw_t f2 (Fw_t g2 (Fw_t gt.2 (Fw_copy n)))⟩, fun S A o hC hA => ?_, fun S B hC hB => ?_⟩
  · obtain ⟨k1, k2⟩ := cb_whole (q := q) hC.2.2.1 hA
    obtain ⟨A2, k3, k4⟩ := f5 S _ o hC k2
    obtain ⟨A3, k5, k6⟩ := g5 S _ o hC k4
    obtain ⟨T, m1, m2⟩ := gTellC (q := q) (k := 3) (c := w64 y = w64 (lX z 65535)) (X := fun A' T => EV q 130 31 [some (.ref 9), some (vL z), none, some (vL y), none] [] A' none T) (P := fun T => CR S T o en (rdCopy t en n (if w64 y = w64 (lX z 65535) then st2 else rdTell 3 st2))) g1 hC.2.2.1 k6 (fun A' hA' => by
      obtain ⟨A4, k7, k8⟩ := sp_copy (q := q) hC (n := n) (by omega) gt.1 hA'
      rw [← en'] at k7
      exact ⟨A4, vc_Blocks_openStored_31 _ _ ⟨A4, k7, rfl, rfl⟩, k8⟩)
    exact ⟨T, vc_Blocks_openStored ⟨_, k1, z, A2, k3, y, A3, k5, m1⟩, m2⟩
  · obtain ⟨B1, k1, k2⟩ := mb_whole (q := q) hh hB
    obtain ⟨B2, k3, k4⟩ := f6 S _ hC k2
    obtain ⟨B3, k5, k6⟩ := g6 S _ hC k4
    have kf := md_fine (q := q) g1 k6
    obtain ⟨T, m1, m2⟩ := gTellB (q := q) (k := 3) (c := w64 y = w64 (lX z 65535)) (X := fun B' T => EV q 344 38 [some (.ref 367), some (vL z), none, some (vL y), none, none, none, none] [] B' none T) (P := fun T => MR S T en (rdCopy t en n (if w64 y = w64 (lX z 65535) then st2 else rdTell 3 st2))) g1 he.2 k6 (fun B' hB' => by
      obtain ⟨B4, k7, k8⟩ := ms_copy (q := q) (x3 := y) he.2 hC (n := n) (by omega) n 0 B' _ (by omega) gt.1 hB'
      rw [← en'] at k7
      exact ⟨B4, vc_MD_openStored_38 _ _ k7, k8⟩)
    refine ⟨T, vc_MD_openStored ⟨B1, k1, z, B2, k3, y, B3, k5, _, B3, kf, ?_⟩, m2⟩
    rw [lX_iff f4 g4]
    exact m1
end Blk3
