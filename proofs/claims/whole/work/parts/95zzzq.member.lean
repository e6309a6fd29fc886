/-! MEMBER: what is passed over, both sides at once -/
section Mem1
variable {q : Nat × (Nat → Int32)} {en : Int}
def rdSkip (t : Int → Int) (en : Int) : Nat → Rd → Rd
  | 0, st => st
  | n + 1, st => if st.1 ≠ 0 then st else rdSkip t en n (rdTake t en st).2
theorem rdSkip_s (t : Int → Int) (n : Nat) (st : Rd) : rdSkip t en (n + 1) st = if st.1 ≠ 0 then st else rdSkip t en n (rdTake t en st).2 := rfl
theorem rdSkip_r (t : Int → Int) {st : Rd} (h : st.1 ≠ 0) : ∀ n : Nat, rdSkip t en n st = st
  | 0 => rfl
  | n + 1 => by
    rw [rdSkip_s, if_pos h]
theorem rdR_skip {t : Int → Int} : ∀ (n : Nat) {st : Rd}, rdR en st → rdR en (rdSkip t en n st)
  | 0, _, h => h
  | n + 1, st, h => by
    rw [rdSkip_s]
    split
    · exact h
    · exact rdR_skip n (rdR_take h)
theorem Fw_skip {t : Int → Int} : ∀ (n : Nat) {st : Rd}, Fw st (rdSkip t en n st)
  | 0, st => Fw_r st
  | n + 1, st => by
    rw [rdSkip_s]
    split
    · exact Fw_r st
    · exact Fw_t Fw_take (Fw_skip n)
theorem rdTake_t {t : Int → Int} {st : Rd} (h : st.1 ≠ 0) : rdTake t en st = (0, st) := by
  unfold rdTake
  rw [if_pos h]
theorem sp_pass {S : ms} {o : Nat} {t : Int → Int} (hC : RdC S o en t) {n : Nat} (hn : n < 1000000) : ∀ (m i : Nat) (A : ms) (st : Rd), i + m = n → rdR en st → CR S A o en st → ∃ A', EV q 147 2 [some (.ref 9), some (vI n), some (vI i)] [] A none A' ∧ CR S A' o en (rdSkip t en m st) := by
  intro m
  induction m with
  | zero =>
    intro i A st hi hr h
    have e : i = n := by omega
    subst e
    exact ⟨A, vc_Source_pass_2 _ _ (cY (Int.le_refl _) ⟨rfl, rfl⟩), h⟩
  | succ m ih =>
    intro i A st hi hr h
    have wn : Unit → w32 ((n : Nat) : Int) = n := fun _ => w32_of (by omega)
    have wi : Unit → w32 ((i : Nat) : Int) = i := fun _ => w32_of (by omega)
    have wr : w32 st.1 = st.1 := w32_of (by have := hr.1; omega)
    rw [rdSkip_s]
    by_cases c : st.1 ≠ 0
    · refine ⟨A, vc_Source_pass_2 _ _ ?_, by rw [if_pos c]; exact h⟩
      rw [wn (), wi (), h.2.1.2.1, wr]
      exact cNo (by omega) (cY c ⟨rfl, rfl⟩)
    · obtain ⟨A1, k1, k2⟩ := sp_take (q := q) hC hr h
      obtain ⟨A2, k3, k4⟩ := ih (i + 1) A1 _ (by omega) (rdR_take hr) k2
      rw [show ((i + 1 : Nat) : Int) = (i : Int) + 1 by omega] at k3
      refine ⟨A2, vc_Source_pass_2 _ _ ?_, by rw [if_neg c]; exact k4⟩
      rw [wn (), wi (), h.2.1.2.1, wr]
      exact cNo (by omega) (cNo c ⟨_, A1, k1, k3⟩)
theorem md_six {S : ms} {t : Int → Int} {f : Int} (hC : RdM S en t) : ∀ (m i : Nat) (B : ms) (st : Rd), i + m = 6 → rdR en st → MR S B en st → ∃ B', MR S B' en (rdSkip t en m st) ∧ ∀ (r : Option Value) (T : ms), EV q 353 51 [some (.ref 367), some (vI f), some (vI 6), none, none, none, none] [] B' r T → EV q 353 51 [some (.ref 367), some (vI f), some (vI i), none, none, none, none] [] B r T := by
  intro m
  induction m with
  | zero =>
    intro i B st hi hr h
    have e : i = 6 := by omega
    subst e
    exact ⟨B, h, fun r T y => y⟩
  | succ m ih =>
    intro i B st hi hr h
    have wi : Unit → w32 ((i : Nat) : Int) = i := fun _ => w32_of (by omega)
    obtain ⟨B1, k1, k2⟩ := md_take (q := q) hC hr h
    obtain ⟨B2, k3, k4⟩ := ih (i + 1) B1 _ (by omega) (rdR_take hr) k2
    refine ⟨B2, ?_, fun r T y => vc_MD_openMember_51 _ _ ?_⟩
    · rw [rdSkip_s]
      by_cases c : st.1 ≠ 0
      · rw [if_pos c]
        rw [rdTake_t c, rdSkip_r t c] at k3
        exact k3
      · rw [if_neg c]
        exact k3
    · have zz := k4 r T y
      rw [show ((i + 1 : Nat) : Int) = (i : Int) + 1 by omega] at zz
      rw [wi ()]
      exact cNo (by omega) ⟨_, B1, k1, zz⟩
theorem md_skip {S : ms} {t : Int → Int} {f : Int} (hC : RdM S en t) {n : Nat} (hn : n < 1000000) : ∀ (m i : Nat) (B : ms) (st : Rd), i + m = n → rdR en st → MR S B en st → ∃ B', MR S B' en (rdSkip t en m st) ∧ ∀ (r : Option Value) (T : ms), EV q 353 112 [some (.ref 367), some (vI f), none, none, none, none, none] [] B' r T → EV q 353 83 [some (.ref 367), some (vI f), some (vL n), none, some (vL i), none, none] [] B r T := by
  intro m
  induction m with
  | zero =>
    intro i B st hi hr h
    have e : i = n := by omega
    subst e
    exact ⟨B, h, fun r T y => vc_MD_openMember_83 _ _ _ (cY (Int.le_refl _) y)⟩
  | succ m ih =>
    intro i B st hi hr h
    have wn : Unit → w64 ((n : Nat) : Int) = n := fun _ => w64_of (by omega)
    have wi : Unit → w64 ((i : Nat) : Int) = i := fun _ => w64_of (by omega)
    have kf := md_fine (q := q) hr h
    rw [rdSkip_s]
    by_cases c : st.1 ≠ 0
    · rw [if_neg c] at kf
      refine ⟨B, by rw [if_pos c]; exact h, fun r T y => vc_MD_openMember_83 _ _ _ ?_⟩
      rw [wn (), wi ()]
      exact cNo (by omega) ⟨0, B, kf, cY (by decide) y⟩
    · have c0 : st.1 = 0 := by omega
      rw [if_pos c0] at kf
      obtain ⟨B1, k1, k2⟩ := md_take (q := q) hC hr h
      obtain ⟨B2, k3, k4⟩ := ih (i + 1) B1 _ (by omega) (rdR_take hr) k2
      refine ⟨B2, by rw [if_neg c]; exact k3, fun r T y => vc_MD_openMember_83 _ _ _ ?_⟩
      have zz := k4 r T y
      rw [show ((i + 1 : Nat) : Int) = (i : Int) + 1 by omega] at zz
      rw [wn (), wi ()]
      exact cNo (by omega) ⟨1, B, kf, cNo (by decide) ⟨_, B1, k1, zz⟩⟩
theorem jtext {t : Int → Int} (he : 0 ≤ en ∧ en ≤ 6000) (ht : ∀ k : Int, 0 ≤ k → k < en → 0 ≤ t k ∧ t k < 256) : ∀ (m i : Nat) (v : Int) (st : Rd), en - st.2.2.1 < m → i + m ≤ 6001 → (0 ≤ v ∧ v < 256) → rdR en st → ∃ st' : Rd, (rdR en st' ∧ Fw st st') ∧ (∀ (S A : ms) (o : Nat), RdC S o en t → CR S A o en st → ∃ A', EV q 148 4 [some (.ref 9), some (vI v), some (vI i)] [] A none A' ∧ CR S A' o en st') ∧ ∀ S B : ms, RdM S en t → MR S B en st → ∃ B', EV q 355 2 [some (.ref 367), some (vI v)] [] B none B' ∧ MR S B' en st' := by
  have c0 : ∀ (A : ms) (x : Int), EV q 148 4 [some (.ref 9), some (vI 0), some (vI x)] [] A none A := fun A x => vc_Blocks_passText_4 _ _ ⟨fun _ => ⟨rfl, rfl⟩, fun _ => cY (by decide) ⟨rfl, rfl⟩⟩
  have m0 : ∀ (S B : ms) (st : Rd), rdR en st → MR S B en st → EV q 355 2 [some (.ref 367), some (vI 0)] [] B none B := by
    intro S B st hr h
    have kf := md_fine (q := q) hr h
    exact vc_MD_passText_2 _ ⟨_, B, kf, fun _ => ⟨rfl, rfl⟩, fun _ => cY (by decide) ⟨rfl, rfl⟩⟩
  intro m
  induction m with
  | zero =>
    intro i v st hm _ _ hr
    have := hr.2.1
    omega
  | succ m ih =>
    intro i v st hm hi hv hr
    have wi : Unit → w32 ((i : Nat) : Int) = i := fun _ => w32_of (by omega)
    have wv : w32 v = v := w32_of (by omega)
    by_cases v0 : v = 0
    · subst v0
      exact ⟨st, ⟨hr, Fw_r st⟩, fun S A o hC hA => ⟨A, c0 A _, hA⟩, fun S B hC hB => ⟨B, m0 S B st hr hB, hB⟩⟩
    by_cases c : st.1 = 0
    case neg =>
      refine ⟨st, ⟨hr, Fw_r st⟩, fun S A o hC hA => ?_, fun S B hC hB => ?_⟩
      · obtain ⟨A1, k1, k2⟩ := sp_take (q := q) hC hr hA
        rw [rdTake_t c] at k1 k2
        refine ⟨A1, vc_Blocks_passText_4 _ _ ?_, k2⟩
        rw [wi (), wv]
        exact cNo (by omega) (cNo v0 ⟨0, A1, k1, c0 A1 _⟩)
      · have kf := md_fine (q := q) hr hB
        rw [if_neg c] at kf
        exact ⟨B, vc_MD_passText_2 _ ⟨0, B, kf, cY (by decide) ⟨rfl, rfl⟩⟩, hB⟩
    obtain ⟨x, ex⟩ : ∃ x : Int, x = (rdTake t en st).1 := ⟨_, rfl⟩
    obtain ⟨s1, es1⟩ : ∃ s : Rd, s = (rdTake t en st).2 := ⟨_, rfl⟩
    have hx := rdTake_rg hr ht
    have r1 := rdR_take (t := t) hr
    have f1 := Fw_take (en := en) (t := t) (st := st)
    rw [← ex] at hx
    rw [← es1] at r1 f1
    obtain ⟨st', ⟨g1, g2⟩, g3, g4⟩ : ∃ st' : Rd, (rdR en st' ∧ Fw s1 st') ∧ (∀ (S A : ms) (o : Nat), RdC S o en t → CR S A o en s1 → ∃ A', EV q 148 4 [some (.ref 9), some (vI x), some (vI (i + 1 : Nat))] [] A none A' ∧ CR S A' o en st') ∧ ∀ S B : ms, RdM S en t → MR S B en s1 → ∃ B', EV q 355 2 [some (.ref 367), some (vI x)] [] B none B' ∧ MR S B' en st' := by
      by_cases x0 : x = 0
      · rw [x0]
        exact ⟨s1, ⟨r1, Fw_r s1⟩, fun S A o hC hA => ⟨A, c0 A _, hA⟩, fun S B hC hB => ⟨B, m0 S B s1 r1 hB, hB⟩⟩
      · have hn : s1.2.2.1 = st.2.2.1 + 1 := by
          have e := ex
          rw [es1]
          unfold rdTake at e ⊢
          rw [if_neg (by omega)] at e ⊢
          by_cases d : st.2.2.1 < en
          · rw [if_pos d]
          · rw [if_neg d] at e
            exact absurd e x0
        exact ih (i + 1) x s1 (by omega) (by omega) hx r1
    refine ⟨st', ⟨g1, Fw_t f1 g2⟩, fun S A o hC hA => ?_, fun S B hC hB => ?_⟩
    · obtain ⟨A1, k1, k2⟩ := sp_take (q := q) hC hr hA
      rw [← ex] at k1
      rw [← es1] at k2
      obtain ⟨A2, k3, k4⟩ := g3 S A1 o hC k2
      rw [show ((i + 1 : Nat) : Int) = (i : Int) + 1 by omega] at k3
      refine ⟨A2, vc_Blocks_passText_4 _ _ ?_, k4⟩
      rw [wi (), wv]
      exact cNo (by omega) (cNo v0 ⟨x, A1, k1, k3⟩)
    · have kf := md_fine (q := q) hr hB
      rw [if_pos c] at kf
      obtain ⟨B1, k1, k2⟩ := md_take (q := q) hC hr hB
      rw [← ex] at k1
      rw [← es1] at k2
      obtain ⟨B2, k3, k4⟩ := g4 S B1 hC k2
      refine ⟨B2, vc_MD_passText_2 _ ⟨1, B, kf, cNo (by decide) ?_⟩, k4⟩
      rw [wv]
      exact cNo v0 ⟨x, B1, k1, k3⟩
end Mem1
