/-! THE READER: so many octets are taken and given out (the class's emitTaken; the reference's loop in apply) -/
section Reader4
variable {q : Nat × (Nat → Int32)} {en : Int}
/-- n octets taken and given out, as long as no rule is told -/
def rdCopy (t : Int → Int) (en : Int) : Nat → Rd → Rd
  | 0, st => st
  | n + 1, st => if st.1 ≠ 0 then st else rdCopy t en n (rdEmit (rdTake t en st).1 (rdTake t en st).2)
theorem rdCopy_s (t : Int → Int) (n : Nat) (st : Rd) : rdCopy t en (n + 1) st = if st.1 ≠ 0 then st else rdCopy t en n (rdEmit (rdTake t en st).1 (rdTake t en st).2) := rfl
theorem rdCopy_r (t : Int → Int) {st : Rd} (h : st.1 ≠ 0) : ∀ n : Nat, rdCopy t en n st = st
  | 0 => rfl
  | n + 1 => by
    rw [rdCopy_s, if_pos h]
theorem rdR_copy {t : Int → Int} : ∀ (n : Nat) {st : Rd}, rdR en st → rdR en (rdCopy t en n st)
  | 0, _, h => h
  | n + 1, st, h => by
    rw [rdCopy_s]
    split
    · exact h
    · exact rdR_copy n (rdR_emit (rdR_take h))
theorem lp_copyC {S : ms} {o : Nat} {t : Int → Int} (hC : RdC S o en t) {n : Nat} (hn : n < 1000000000) : ∀ (m i : Nat) (A : ms) (st : Rd), i + m = n → rdR en st → CR S A o en st → ∃ A', EV q 119 2 [some (.ref 9), some (vL n), none, some (vL i), none] [] A none A' ∧ CR S A' o en (rdCopy t en m st) := by
  intro m
  induction m with
  | zero =>
    intro i A st hi hr h
    have e : i = n := by omega
    subst e
    exact ⟨A, vc_Source_emitTaken_2 _ _ ⟨fun _ => ⟨rfl, rfl⟩, fun n => absurd (Int.le_refl _) n⟩, h⟩
  | succ m ih =>
    intro i A st hi hr h
    have z0 : ¬ (n : Int) ≤ i := by omega
    have wr : w32 st.1 = st.1 := w32_of (by have := hr.1; omega)
    have wn : Unit → w64 (n : Int) = n := fun _ => w64_of (by omega)
    have wi : Unit → w64 (i : Int) = i := fun _ => w64_of (by omega)
    rw [rdCopy_s]
    by_cases c : st.1 ≠ 0
    · refine ⟨A, vc_Source_emitTaken_2 _ _ ?_, by rw [if_pos c]; exact h⟩
      rw [wn (), wi (), h.2.1.2.1, wr]
      exact ⟨fun n => absurd n z0, fun _ => ⟨fun _ => ⟨rfl, rfl⟩, fun n => absurd c n⟩⟩
    · obtain ⟨A1, k1, k2⟩ := sp_take (q := q) hC hr h
      obtain ⟨A2, k3, k4⟩ := sp_emit (q := q) (v := (rdTake t en st).1) hC (rdR_take hr) k2
      obtain ⟨A3, k5, k6⟩ := ih (i + 1) A2 _ (by omega) (rdR_emit (rdR_take hr)) k4
      rw [show ((i + 1 : Nat) : Int) = (i : Int) + 1 by omega] at k5
      refine ⟨A3, vc_Source_emitTaken_2 _ _ ?_, by rw [if_neg c]; exact k6⟩
      rw [wn (), wi (), h.2.1.2.1, wr]
      exact ⟨fun n => absurd n z0, fun _ => ⟨fun n => absurd n c, fun _ => ⟨_, A1, k1, A2, k3, k5⟩⟩⟩
/-- emitTaken(n) -/
theorem sp_copy {S A : ms} {o : Nat} {t : Int → Int} (hC : RdC S o en t) {n : Nat} (hn : n < 1000000000) {st : Rd} (hr : rdR en st) (h : CR S A o en st) : ∃ A', EV q 119 0 [some (.ref 9), some (vL n), none, none, none] [] A none A' ∧ CR S A' o en (rdCopy t en n st) := by
  obtain ⟨A', k1, k2⟩ := lp_copyC (q := q) hC hn n 0 A st (by omega) hr h
  exact ⟨A', vc_Source_emitTaken _ k1, k2⟩
/-- the reference's loop in apply -/
theorem lp_copyM {S : ms} {t : Int → Int} (hC : RdM S en t) {n : Nat} (hn : n < 1000000000) {x1 x2 x4 x6 : Int} {stf : Rd} {rr : Option Value} {P : ms → Prop} (nx : ∀ (B : ms) (x9 : Int), MR S B en stf → ∃ B', EV q 406 258 [some (.ref 367), some (vI x1), some (vL x2), none, some (vL x4), none, some (vI x6), some (vL n), none, some (vL x9), none, none, none] [] B rr B' ∧ P B') : ∀ (m i : Nat) (B : ms) (st : Rd), i + m = n → rdCopy t en m st = stf → rdR en st → MR S B en st → ∃ B', EV q 406 222 [some (.ref 367), some (vI x1), some (vL x2), none, some (vL x4), none, some (vI x6), some (vL n), none, some (vL i), none, none, none] [] B rr B' ∧ P B' := by
  intro m
  induction m with
  | zero =>
    intro i B st hi hst hr h
    have e : i = n := by omega
    subst e
    have hst' : st = stf := hst
    obtain ⟨B', k1, k2⟩ := nx B i (by rw [← hst']; exact h)
    exact ⟨B', vc_MD_apply_222 _ _ _ _ _ _ ⟨fun _ => k1, fun n => absurd (Int.le_refl _) n⟩, k2⟩
  | succ m ih =>
    intro i B st hi hst hr h
    rw [rdCopy_s] at hst
    have z0 : ¬ (n : Int) ≤ i := by omega
    have wn : Unit → w64 (n : Int) = n := fun _ => w64_of (by omega)
    have wi : Unit → w64 (i : Int) = i := fun _ => w64_of (by omega)
    have kf := md_fine (q := q) hr h
    by_cases c : st.1 ≠ 0
    · rw [if_pos c] at hst
      obtain ⟨B', k1, k2⟩ := nx B i (by rw [← hst]; exact h)
      rw [if_neg c] at kf
      refine ⟨B', vc_MD_apply_222 _ _ _ _ _ _ ?_, k2⟩
      rw [wn (), wi ()]
      exact ⟨fun n => absurd n z0, fun _ => ⟨0, B, kf, fun _ => k1, fun n => absurd rfl n⟩⟩
    · have c0 : st.1 = 0 := by omega
      rw [if_pos c0] at kf
      rw [if_neg c] at hst
      obtain ⟨B1, k1, k2⟩ := md_take (q := q) hC hr h
      obtain ⟨B2, k3, k4⟩ := md_emit (q := q) (v := (rdTake t en st).1) (rdR_take hr) hC.2.1.2 k2
      obtain ⟨B3, k5, k6⟩ := ih (i + 1) B2 _ (by omega) hst (rdR_emit (rdR_take hr)) k4
      rw [show ((i + 1 : Nat) : Int) = (i : Int) + 1 by omega] at k5
      refine ⟨B3, vc_MD_apply_222 _ _ _ _ _ _ ?_, k6⟩
      rw [wn (), wi ()]
      exact ⟨fun n => absurd n z0, fun _ => ⟨1, B, kf, fun n => absurd n (by decide), fun _ => ⟨_, B1, k1, B2, k3, k5⟩⟩⟩
end Reader4
