/-! THE READER: what came before comes again -/
section Back
variable {q : Nat × (Nat → Int32)} {en : Int}
def rdBack (d : Int) : Nat → Rd → Rd
  | 0, st => st
  | n + 1, st => if st.1 ≠ 0 then st else rdBack d n (rdEmit (st.2.2.2.2 (st.2.2.2.1 - d)) st)
theorem rdBack_s (d : Int) (n : Nat) (st : Rd) : rdBack d (n + 1) st = if st.1 ≠ 0 then st else rdBack d n (rdEmit (st.2.2.2.2 (st.2.2.2.1 - d)) st) := rfl
theorem rdBack_r {d : Int} {st : Rd} (h : st.1 ≠ 0) : ∀ n : Nat, rdBack d n st = st
  | 0 => rfl
  | n + 1 => by
    rw [rdBack_s, if_pos h]
theorem rdR_back {d : Int} : ∀ (n : Nat) {st : Rd}, rdR en st → rdR en (rdBack d n st)
  | 0, _, h => h
  | n + 1, st, h => by
    rw [rdBack_s]
    split
    · exact h
    · exact rdR_back n (rdR_emit h)
theorem Fw_back {d : Int} : ∀ (n : Nat) {st : Rd}, Fw st (rdBack d n st)
  | 0, st => Fw_r st
  | n + 1, st => by
    rw [rdBack_s]
    split
    · exact Fw_r st
    · exact Fw_t Fw_emit (Fw_back n)
theorem rdEmit_c {v : Int} {st : Rd} (h : (rdEmit v st).1 = 0) : st.2.2.2.1 ≤ (rdEmit v st).2.2.2.1 := by
  unfold rdEmit at h ⊢
  by_cases c : st.1 ≠ 0
  · rw [if_pos c]
    exact Int.le_refl _
  · rw [if_neg c]
    by_cases e : st.2.2.2.1 = 12000
    · rw [if_pos e]
      exact Int.le_refl _
    · rw [if_neg e]
      show st.2.2.2.1 ≤ st.2.2.2.1 + 1
      omega
/-- emitCopy(d, n) -/
theorem sb_back {S : ms} {o : Nat} {t t' : Int → Int} {d u : Int} (hd : -40000000000 ≤ d ∧ d < 40000000000) (hC : RdC S o en t) {n : Nat} (hn : n < 1000000000) : ∀ (m i : Nat) (A : ms) (st : Rd), i + m = n → (st.1 = 0 → 1 ≤ d ∧ d ≤ st.2.2.2.1) → rdR en st → CB S A o en t' st u → ∃ A', EV q 128 3 [some (.ref 9), some (vL d), none, some (vL n), none, some (vL i), none] [] A none A' ∧ CB S A' o en t' (rdBack d m st) u := by
  have wd : w64 d = d := w64_of (by omega)
  have w0 : w64 0 = 0 := by decide
  intro m
  induction m with
  | zero =>
    intro i A st hi _ hr h
    have e : i = n := by omega
    subst e
    exact ⟨A, vc_Source_emitCopy_3 _ _ _ (cY (Int.le_refl _) ⟨rfl, rfl⟩), h⟩
  | succ m ih =>
    intro i A st hi hdd hr h
    have wn : Unit → w64 ((n : Nat) : Int) = n := fun _ => w64_of (by omega)
    have wi : Unit → w64 ((i : Nat) : Int) = i := fun _ => w64_of (by omega)
    have z0 : ¬ (n : Int) ≤ i := by omega
    have wr : w32 st.1 = st.1 := w32_of (by have := hr.1; omega)
    rw [rdBack_s]
    by_cases c : st.1 ≠ 0
    · refine ⟨A, vc_Source_emitCopy_3 _ _ _ ?_, by rw [if_pos c]; exact h⟩
      rw [wn (), wi (), h.2.1.2.1, wr]
      exact cNo z0 (cY c ⟨rfl, rfl⟩)
    · have c0 : st.1 = 0 := by omega
      obtain ⟨d1, d2⟩ := hdd c0
      have hc3 := hr.2.2.1
      have wc : w32 st.2.2.2.1 = st.2.2.2.1 := w32_of (by omega)
      have wc2 : w64 st.2.2.2.1 = st.2.2.2.1 := w64_of (by omega)
      have wx : w32 (st.2.2.2.1 - d) = st.2.2.2.1 - d := w32_of (by omega)
      have ro : A.2.2 9 1 = o := by rw [h.1]; exact hC.1
      have ec : A.1 o 1 = st.2.2.2.1 := h.2.2.1.1
      have ev : A.1 (o + 1) (st.2.2.2.1 - d) = st.2.2.2.2 (st.2.2.2.1 - d) := h.2.2.1.2 _ (by omega) (by omega)
      obtain ⟨A1, k1, k2⟩ := sb_emit (q := q) (v := st.2.2.2.2 (st.2.2.2.1 - d)) hC hr h
      obtain ⟨A2, k3, k4⟩ := ih (i + 1) A1 _ (by omega) (fun y => ⟨d1, by have := rdEmit_c y; omega⟩) (rdR_emit hr) k2
      rw [show ((i + 1 : Nat) : Int) = (i : Int) + 1 by omega] at k3
      refine ⟨A2, vc_Source_emitCopy_3 _ _ _ ?_, by rw [if_neg c]; exact k4⟩
      rw [wn (), wi (), h.2.1.2.1, wr, wd, w0]
      refine cNo z0 (cNo c (cNo (by omega) ⟨o, 12000, ro, hC.2.1, ?_⟩))
      rw [ec, wc, wc2]
      refine cNo (by omega) ⟨o, 12000, ro, hC.2.1, o, 12000, ro, hC.2.1, ?_⟩
      rw [ec, wx, ev]
      exact ⟨by omega, vc_Source_emitCopy_59 _ _ _ _ ⟨A1, k1, k3⟩⟩
/-- copy(d, n) -/
theorem mb_back {S : ms} {d u : Int} (hd : -40000000000 ≤ d ∧ d < 40000000000) (he : en ≤ 6000) {n : Nat} (hn : n < 1000000000) : ∀ (m i : Nat) (B : ms) (st : Rd), i + m = n → (st.1 = 0 → 1 ≤ d ∧ d ≤ st.2.2.2.1) → rdR en st → hR st u → MB S B en st u → ∃ B', EV q 350 3 [some (.ref 367), some (vL d), none, some (vL n), none, some (vL i), none] [] B none B' ∧ MB S B' en (rdBack d m st) u := by
  intro m
  induction m with
  | zero =>
    intro i B st hi _ hr hh h
    have e : i = n := by omega
    subst e
    exact ⟨B, vc_MD_copy_3 _ _ _ (cY (Int.le_refl _) ⟨rfl, rfl⟩), h⟩
  | succ m ih =>
    intro i B st hi hdd hr hh h
    have wn : Unit → w64 ((n : Nat) : Int) = n := fun _ => w64_of (by omega)
    have wi : Unit → w64 ((i : Nat) : Int) = i := fun _ => w64_of (by omega)
    have z0 : ¬ (n : Int) ≤ i := by omega
    have wr : w32 st.1 = st.1 := w32_of (by have := hr.1; omega)
    rw [rdBack_s]
    by_cases c : st.1 ≠ 0
    · refine ⟨B, vc_MD_copy_3 _ _ _ ?_, by rw [if_pos c]; exact h⟩
      rw [wn (), wi (), h.2.1.2.2.1, wr]
      exact cNo z0 (cY c ⟨rfl, rfl⟩)
    · have c0 : st.1 = 0 := by omega
      obtain ⟨d1, d2⟩ := hdd c0
      have hc3 := hr.2.2.1
      have wx : w32 (st.2.2.2.1 - d) = st.2.2.2.1 - d := w32_of (by omega)
      have ec : B.1 367 22 = st.2.2.2.1 := h.2.2.1.1
      have ev : B.1 375 (st.2.2.2.1 - d) = b8 (st.2.2.2.2 (st.2.2.2.1 - d)) := h.2.2.1.2 _ (by omega) (by omega)
      obtain ⟨B1, k1, k2⟩ := mb_emit (q := q) (v := b8 (st.2.2.2.2 (st.2.2.2.1 - d))) hr he hh h
      rw [rdEmit_m (show b8 (st.2.2.2.2 (st.2.2.2.1 - d)) % 256 = st.2.2.2.2 (st.2.2.2.1 - d) % 256 by unfold b8; omega)] at k2
      have hh1 : hR (rdEmit (st.2.2.2.2 (st.2.2.2.1 - d)) st) u := ⟨hh.1, fun y => by have a := hh.2 y; have b := (Fw_emit (v := st.2.2.2.2 (st.2.2.2.1 - d)) (st := st)).2; omega⟩
      obtain ⟨B2, k3, k4⟩ := ih (i + 1) B1 _ (by omega) (fun y => ⟨d1, by have := rdEmit_c y; omega⟩) (rdR_emit hr) hh1 k2
      rw [show ((i + 1 : Nat) : Int) = (i : Int) + 1 by omega] at k3
      refine ⟨B2, vc_MD_copy_3 _ _ _ ?_, by rw [if_neg c]; exact k4⟩
      rw [wn (), wi (), h.2.1.2.2.1, wr, ec, wx, ev]
      exact cNo z0 (cNo c ⟨by omega, B1, k1, k3⟩)
theorem sp_back {S A : ms} {o : Nat} {t : Int → Int} {d : Int} (hd : -40000000000 ≤ d ∧ d < 40000000000) (hC : RdC S o en t) {n : Nat} (hn : n < 1000000000) {st : Rd} (hdd : st.1 = 0 → 1 ≤ d ∧ d ≤ st.2.2.2.1) (hr : rdR en st) (h : CR S A o en st) : ∃ A', EV q 128 0 [some (.ref 9), some (vL d), none, some (vL n), none, none, none] [] A none A' ∧ CR S A' o en (rdBack d n st) := by
  obtain ⟨A', k1, k2⟩ := sb_back (q := q) hd hC hn n 0 A st (by omega) hdd hr h
  exact ⟨A', vc_Source_emitCopy _ _ k1, k2⟩
theorem md_back {S B : ms} {d : Int} (hd : -40000000000 ≤ d ∧ d < 40000000000) (he : en ≤ 6000) {n : Nat} (hn : n < 1000000000) {st : Rd} (hdd : st.1 = 0 → 1 ≤ d ∧ d ≤ st.2.2.2.1) (hr : rdR en st) (h : MR S B en st) : ∃ B', EV q 350 0 [some (.ref 367), some (vL d), none, some (vL n), none, none, none] [] B none B' ∧ MR S B' en (rdBack d n st) := by
  obtain ⟨B', k1, k2⟩ := mb_back (q := q) (S := S) hd he hn n 0 B st (by omega) hdd hr (hR_0 st) h
  exact ⟨B', vc_MD_copy _ _ k1, k2⟩
/-- with a rule told nothing more is given out -/
theorem sp_copy0 {S A : ms} {o : Nat} {n : Int} {st : Rd} (c : st.1 ≠ 0) (hr : rdR en st) (h : CR S A o en st) : EV q 119 0 [some (.ref 9), some (vL n), none, none, none] [] A none A := by
  have wr : w32 st.1 = st.1 := w32_of (by have := hr.1; omega)
  refine vc_Source_emitTaken _ (vc_Source_emitTaken_2 _ _ ⟨fun _ => ⟨rfl, rfl⟩, fun _ => ?_⟩)
  rw [h.2.1.2.1, wr]
  exact cY c ⟨rfl, rfl⟩
theorem sp_back0 {S A : ms} {o : Nat} {d n : Int} {st : Rd} (c : st.1 ≠ 0) (hr : rdR en st) (h : CR S A o en st) : EV q 128 0 [some (.ref 9), some (vL d), none, some (vL n), none, none, none] [] A none A := by
  have wr : w32 st.1 = st.1 := w32_of (by have := hr.1; omega)
  refine vc_Source_emitCopy _ _ (vc_Source_emitCopy_3 _ _ _ ⟨fun _ => ⟨rfl, rfl⟩, fun _ => ?_⟩)
  rw [h.2.1.2.1, wr]
  exact cY c ⟨rfl, rfl⟩
theorem md_back0 {S B : ms} {d n : Int} {st : Rd} (c : st.1 ≠ 0) (hr : rdR en st) (h : MR S B en st) : EV q 350 0 [some (.ref 367), some (vL d), none, some (vL n), none, none, none] [] B none B := by
  have wr : w32 st.1 = st.1 := w32_of (by have := hr.1; omega)
  refine vc_MD_copy _ _ (vc_MD_copy_3 _ _ _ ⟨fun _ => ⟨rfl, rfl⟩, fun _ => ?_⟩)
  rw [h.2.1.2.2.1, wr]
  exact cY c ⟨rfl, rfl⟩
/-- not c tells rule k, when the bits stand at u -/
theorem lO_256 {k b : Int} (hk : 0 ≤ k ∧ k < 8) (hb : 0 ≤ b ∧ b < 256) : lO (k * 256) b = k * 256 + b := by
  obtain ⟨k', ek⟩ : ∃ k' : Nat, k = k' := ⟨k.toNat, by omega⟩
  obtain ⟨b', eb⟩ : ∃ b' : Nat, b = b' := ⟨b.toNat, by omega⟩
  subst ek eb
  unfold lO
  have h := Nat.two_pow_add_eq_or_of_lt (i := 8) (b := b') (by show b' < 256; omega) k'
  rw [show (((k' : Int) * 256) % 18446744073709551616).toNat = 2 ^ 8 * k' by omega, show ((b' : Int) % 18446744073709551616).toNat = b' by omega, ← h]
  omega
end Back
