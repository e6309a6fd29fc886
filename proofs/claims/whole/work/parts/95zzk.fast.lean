/-! open, kind 6: FAST -/
section FastO
variable {q : Nat × (Nat → Int32)} {en : Int}
theorem rdTake_2 {t : Int → Int} {st : Rd} : (rdTake t en st).2.2.2.2 = st.2.2.2 := by
  unfold rdTake
  by_cases c : st.1 ≠ 0
  · rw [if_pos c]
  · rw [if_neg c]
    by_cases d : st.2.2.1 < en
    · rw [if_pos d]
    · rw [if_neg d]
theorem rdTell_2 {k : Int} {st : Rd} : (rdTell k st).2.2 = st.2.2 := by
  unfold rdTell rdTellAt
  by_cases c : st.1 ≠ 0
  · rw [if_pos c]
  · rw [if_neg c]
/-- openMore and more() -/
theorem jmo {t : Int → Int} (he : 0 ≤ en ∧ en ≤ 6000) (ht : ∀ k : Int, 0 ≤ k → k < en → 0 ≤ t k ∧ t k < 256) : ∀ (m i : Nat) (acc b : Int) (st : Rd), en - st.2.2.1 ≤ m → i + m ≤ 6000 → (0 ≤ acc ∧ acc ≤ 256 * i) → (0 ≤ b ∧ b < 256) → rdR en st → ∃ (z : Int) (st' : Rd), (rdR en st' ∧ Fw st st' ∧ st'.2.2.2 = st.2.2.2) ∧ (acc ≤ z ∧ z ≤ 256 * 6000) ∧ (∀ (S A : ms) (o : Nat), RdC S o en t → CR S A o en st → ∃ A', EV q 150 19 [some (.ref 9), some (vI 15), some (vI (15 + acc)), some (vI b), some (vI i)] [] A (some (vI (15 + z))) A' ∧ CR S A' o en st') ∧ ∀ S B : ms, RdM S en t → MR S B en st → ∃ B', EV q 357 12 [some (.ref 367), some (vL acc), none, some (vI b)] [] B (some (vL z)) B' ∧ MR S B' en st' := by
  have stop : ∀ (i : Nat) (acc b : Int) (st : Rd), acc ≤ 256 * 6000 → (0 ≤ b ∧ b < 256) → rdR en st → (st.1 ≠ 0 ∨ b ≠ 255) → ∃ (z : Int) (st' : Rd), (rdR en st' ∧ Fw st st' ∧ st'.2.2.2 = st.2.2.2) ∧ (acc ≤ z ∧ z ≤ 256 * 6000) ∧ (∀ (S A : ms) (o : Nat), RdC S o en t → CR S A o en st → ∃ A', EV q 150 19 [some (.ref 9), some (vI 15), some (vI (15 + acc)), some (vI b), some (vI i)] [] A (some (vI (15 + z))) A' ∧ CR S A' o en st') ∧ ∀ S B : ms, RdM S en t → MR S B en st → ∃ B', EV q 357 12 [some (.ref 367), some (vL acc), none, some (vI b)] [] B (some (vL z)) B' ∧ MR S B' en st' := by
    intro i acc b st ha hb hr hs
    have wb : w32 b = b := w32_of (by omega)
    have wr : w32 st.1 = st.1 := w32_of (by have := hr.1; omega)
    refine ⟨acc, st, ⟨hr, Fw_r st, rfl⟩, ⟨Int.le_refl _, ha⟩, fun S A o hC h => ⟨A, vc_Copies_openMore_19 _ _ _ _ ⟨fun _ => ⟨rfl, rfl⟩, fun _ => ?_⟩, h⟩, fun S B hC h => ⟨B, vc_MD_more_12 _ _ ⟨_, B, md_fine hr h, fun _ => ⟨rfl, rfl⟩, fun n => ?_⟩, h⟩⟩
    · rw [wb, h.2.1.2.1, wr]
      exact ⟨fun _ => ⟨rfl, rfl⟩, fun y => cY (by rcases hs with z | z; exact z; exact absurd z y) ⟨rfl, rfl⟩⟩
    · have d : st.1 = 0 := by
        apply Classical.byContradiction
        intro d
        rw [if_neg d] at n
        exact n (by decide)
      rw [wb]
      exact cY (by rcases hs with z | z; exact absurd d z; exact z) ⟨rfl, rfl⟩
  intro m
  induction m with
  | zero =>
    intro i acc b st hm hi hacc hb hr
    by_cases cs : st.1 ≠ 0 ∨ b ≠ 255
    · exact stop i acc b st (by omega) hb hr cs
    have c0 : st.1 = 0 := Classical.byContradiction fun y => cs (Or.inl y)
    have cb : b = 255 := Classical.byContradiction fun y => cs (Or.inr y)
    have ev : (rdTake t en st).1 = 0 ∧ (rdTake t en st).2.1 ≠ 0 := by
      unfold rdTake
      rw [if_neg (by omega), if_neg (by omega)]
      exact ⟨rfl, by show (1 : Int) ≠ 0; decide⟩
    have wb : w32 b = b := w32_of (by omega)
    have wr : w32 st.1 = st.1 := w32_of (by omega)
    have wi : Unit → w32 ((i : Nat) : Int) = i := fun _ => w32_of (by omega)
    have i0 : ¬ 1000000 ≤ (i : Int) := by omega
    obtain ⟨z, st', ⟨g1, g2, g3⟩, g4, g5, g6⟩ := stop (i + 1) (acc + 0) 0 (rdTake t en st).2 (by omega) (by decide) (rdR_take hr) (Or.inl ev.2)
    rw [show ((i + 1 : Nat) : Int) = (i : Int) + 1 by omega] at g5
    refine ⟨z, st', ⟨g1, Fw_t Fw_take g2, by rw [g3, rdTake_2]⟩, by omega, fun S A o hC h => ?_, fun S B hC h => ?_⟩
    · obtain ⟨A1, k1, k2⟩ := sp_take (q := q) hC hr h
      obtain ⟨A', k3, k4⟩ := g5 S A1 o hC k2
      rw [ev.1] at k1
      refine ⟨A', vc_Copies_openMore_19 _ _ _ _ ?_, k4⟩
      rw [wi (), wb, h.2.1.2.1, wr]
      refine cNo i0 (cNN cb (cNN c0 ⟨0, A1, k1, ?_⟩))
      rw [show 15 + acc + 0 = 15 + (acc + 0) by omega]
      exact k3
    · obtain ⟨B1, k1, k2⟩ := md_take (q := q) hC hr h
      obtain ⟨B', k3, k4⟩ := g6 S B1 hC k2
      rw [ev.1] at k1
      have kf := md_fine (q := q) hr h
      rw [if_pos c0] at kf
      refine ⟨B', vc_MD_more_12 _ _ ⟨1, B, kf, cNo (by decide) ?_⟩, k4⟩
      rw [wb]
      exact cNN cb ⟨0, B1, k1, k3⟩
  | succ m ih =>
    intro i acc b st hm hi hacc hb hr
    by_cases cs : st.1 ≠ 0 ∨ b ≠ 255
    · exact stop i acc b st (by omega) hb hr cs
    have c0 : st.1 = 0 := Classical.byContradiction fun y => cs (Or.inl y)
    have cb : b = 255 := Classical.byContradiction fun y => cs (Or.inr y)
    have wb : w32 b = b := w32_of (by omega)
    have wr : w32 st.1 = st.1 := w32_of (by omega)
    have wi : Unit → w32 ((i : Nat) : Int) = i := fun _ => w32_of (by omega)
    have i0 : ¬ 1000000 ≤ (i : Int) := by omega
    obtain ⟨x, ex⟩ : ∃ x : Int, x = (rdTake t en st).1 := ⟨_, rfl⟩
    have tr := rdTake_rg hr ht
    rw [← ex] at tr
    have wx : w32 x = x := w32_of (by omega)
    have nx : ∃ (z : Int) (st' : Rd), (rdR en st' ∧ Fw (rdTake t en st).2 st' ∧ st'.2.2.2 = (rdTake t en st).2.2.2.2) ∧ (acc + x ≤ z ∧ z ≤ 256 * 6000) ∧ (∀ (S A : ms) (o : Nat), RdC S o en t → CR S A o en (rdTake t en st).2 → ∃ A', EV q 150 19 [some (.ref 9), some (vI 15), some (vI (15 + (acc + x))), some (vI x), some (vI ((i + 1 : Nat) : Int))] [] A (some (vI (15 + z))) A' ∧ CR S A' o en st') ∧ ∀ S B : ms, RdM S en t → MR S B en (rdTake t en st).2 → ∃ B', EV q 357 12 [some (.ref 367), some (vL (acc + x)), none, some (vI x)] [] B (some (vL z)) B' ∧ MR S B' en st' := by
      by_cases cn : st.2.2.1 < en
      · refine ih (i + 1) (acc + x) x (rdTake t en st).2 ?_ (by omega) (by omega) tr (rdR_take hr)
        unfold rdTake
        rw [if_neg (by omega), if_pos cn]
        show en - (st.2.2.1 + 1) ≤ m
        omega
      · refine stop (i + 1) (acc + x) x (rdTake t en st).2 (by omega) tr (rdR_take hr) (Or.inl ?_)
        unfold rdTake
        rw [if_neg (by omega), if_neg cn]
        show (1 : Int) ≠ 0
        decide
    obtain ⟨z, st', ⟨g1, g2, g3⟩, g4, g5, g6⟩ := nx
    rw [show ((i + 1 : Nat) : Int) = (i : Int) + 1 by omega] at g5
    refine ⟨z, st', ⟨g1, Fw_t Fw_take g2, by rw [g3, rdTake_2]⟩, by omega, fun S A o hC h => ?_, fun S B hC h => ?_⟩
    · obtain ⟨A1, k1, k2⟩ := sp_take (q := q) hC hr h
      obtain ⟨A', k3, k4⟩ := g5 S A1 o hC k2
      rw [← ex] at k1
      refine ⟨A', vc_Copies_openMore_19 _ _ _ _ ?_, k4⟩
      rw [wi (), wb, h.2.1.2.1, wr]
      refine cNo i0 (cNN cb (cNN c0 ⟨x, A1, k1, ?_⟩))
      rw [show 15 + acc + x = 15 + (acc + x) by omega]
      exact k3
    · obtain ⟨B1, k1, k2⟩ := md_take (q := q) hC hr h
      obtain ⟨B', k3, k4⟩ := g6 S B1 hC k2
      rw [← ex] at k1
      have kf := md_fine (q := q) hr h
      rw [if_pos c0] at kf
      refine ⟨B', vc_MD_more_12 _ _ ⟨1, B, kf, cNo (by decide) ?_⟩, k4⟩
      rw [wb]
      refine cNN cb ⟨x, B1, k1, ?_⟩
      rw [wx]
      exact k3
/-- openMore(15) and more() -/
theorem jmore {t : Int → Int} (he : 0 ≤ en ∧ en ≤ 6000) (ht : ∀ k : Int, 0 ≤ k → k < en → 0 ≤ t k ∧ t k < 256) {st : Rd} (hr : rdR en st) : ∃ (z : Int) (st' : Rd), (rdR en st' ∧ Fw st st' ∧ st'.2.2.2 = st.2.2.2) ∧ (0 ≤ z ∧ z ≤ 256 * 6000) ∧ (∀ (S A : ms) (o : Nat), RdC S o en t → CR S A o en st → ∃ A', EV q 150 0 [some (.ref 9), some (vI 15), none, none, none] [] A (some (vI (15 + z))) A' ∧ CR S A' o en st') ∧ ∀ S B : ms, RdM S en t → MR S B en st → ∃ B', EV q 357 0 [some (.ref 367), none, none, none] [] B (some (vL z)) B' ∧ MR S B' en st' := by
  by_cases c : st.1 ≠ 0
  · have wr : w32 st.1 = st.1 := w32_of (by have := hr.1; omega)
    have e1 : (rdTake t en st).1 = 0 ∧ (rdTake t en st).2 = st := by
      unfold rdTake
      rw [if_pos c]
      exact ⟨rfl, rfl⟩
    refine ⟨0, st, ⟨hr, Fw_r st, rfl⟩, by decide, fun S A o hC h => ⟨A, vc_Copies_openMore _ (cNN (by decide) (vc_Copies_openMore_15 _ _ _ (vc_Copies_openMore_19 _ _ _ _ ⟨fun _ => ⟨rfl, rfl⟩, fun _ => ⟨fun _ => ⟨rfl, rfl⟩, fun _ => ?_⟩⟩))), h⟩, fun S B hC h => ?_⟩
    · rw [h.2.1.2.1, wr]
      exact cY c ⟨rfl, rfl⟩
    · obtain ⟨B1, k1, k2⟩ := md_take (q := q) hC hr h
      rw [e1.1] at k1
      rw [e1.2] at k2
      have kf := md_fine (q := q) hr k2
      rw [if_neg c] at kf
      exact ⟨B1, vc_MD_more ⟨0, B1, k1, vc_MD_more_12 _ _ ⟨0, B1, kf, cY (by decide) ⟨rfl, rfl⟩⟩⟩, k2⟩
  · have c0 : st.1 = 0 := by omega
    obtain ⟨x, ex⟩ : ∃ x : Int, x = (rdTake t en st).1 := ⟨_, rfl⟩
    have tr := rdTake_rg hr ht
    rw [← ex] at tr
    have wx : w32 x = x := w32_of (by omega)
    have wr : w32 st.1 = st.1 := w32_of (by omega)
    -- both behind the first octet
    have hn := (rdR_take (t := t) hr).2.1
    obtain ⟨z, st', ⟨g1, g2, g3⟩, g4, g5, g6⟩ : ∃ (z : Int) (st' : Rd), (rdR en st' ∧ Fw (rdTake t en st).2 st' ∧ st'.2.2.2 = (rdTake t en st).2.2.2.2) ∧ (x ≤ z ∧ z ≤ 256 * 6000) ∧ (∀ (S A : ms) (o : Nat), RdC S o en t → CR S A o en (rdTake t en st).2 → ∃ A', EV q 150 19 [some (.ref 9), some (vI 15), some (vI (15 + x)), some (vI x), some (vI ((1 : Nat) : Int))] [] A (some (vI (15 + z))) A' ∧ CR S A' o en st') ∧ ∀ S B : ms, RdM S en t → MR S B en (rdTake t en st).2 → ∃ B', EV q 357 12 [some (.ref 367), some (vL x), none, some (vI x)] [] B (some (vL z)) B' ∧ MR S B' en st' := by
      by_cases cn : st.2.2.1 < en
      · refine jmo he ht 5999 1 x x (rdTake t en st).2 ?_ (by omega) (by omega) tr (rdR_take hr)
        unfold rdTake
        rw [if_neg (by omega), if_pos cn]
        show en - (st.2.2.1 + 1) ≤ (5999 : Nat)
        have := hr.2.1
        omega
      · -- a rule is told
        obtain ⟨z, st', g1, g2, g3, g4⟩ := jmo (q := q) he ht 0 1 x x (en := en) ((rdTake t en st).2.1, (rdTake t en st).2.2.1, en, (rdTake t en st).2.2.2.2) (by show en - en ≤ ((0 : Nat) : Int); omega) (by omega) (by omega) tr ⟨(rdR_take (t := t) hr).1, ⟨he.1, Int.le_refl _⟩, (rdR_take (t := t) hr).2.2⟩
        have e2 : ((rdTake t en st).2.1, (rdTake t en st).2.2.1, en, (rdTake t en st).2.2.2.2) = (rdTake t en st).2 := by
          have : st.2.2.1 = en := by have := hr.2.1; omega
          unfold rdTake
          rw [if_neg (by omega), if_neg cn]
          show ((1 : Int), en, en, st.2.2.2) = (1, en, st.2.2)
          rw [← this]
        rw [e2] at g1 g3 g4
        exact ⟨z, st', g1, g2, g3, g4⟩
    refine ⟨z, st', ⟨g1, Fw_t Fw_take g2, by rw [g3, rdTake_2]⟩, by omega, fun S A o hC h => ?_, fun S B hC h => ?_⟩
    · obtain ⟨A1, k1, k2⟩ := sp_take (q := q) hC hr h
      obtain ⟨A', k3, k4⟩ := g5 S A1 o hC k2
      rw [← ex] at k1
      refine ⟨A', vc_Copies_openMore _ (cNN (by decide) (vc_Copies_openMore_15 _ _ _ (vc_Copies_openMore_19 _ _ _ _ ?_))), k4⟩
      rw [h.2.1.2.1, wr]
      exact cNo (by decide) (cNN (by decide) (cNN c0 ⟨x, A1, k1, k3⟩))
    · obtain ⟨B1, k1, k2⟩ := md_take (q := q) hC hr h
      obtain ⟨B', k3, k4⟩ := g6 S B1 hC k2
      rw [← ex] at k1
      refine ⟨B', vc_MD_more ⟨x, B1, k1, ?_⟩, k4⟩
      rw [wx, Int.zero_add]
      exact k3
/-- openMore(four): on the reference's side four, and more() if it is 15 -/
theorem jfour {t : Int → Int} (he : 0 ≤ en ∧ en ≤ 6000) (ht : ∀ k : Int, 0 ≤ k → k < en → 0 ≤ t k ∧ t k < 256) {st : Rd} {f : Int} (hf : 0 ≤ f ∧ f < 16) (hr : rdR en st) : ∃ (z : Int) (st' : Rd), (rdR en st' ∧ Fw st st' ∧ st'.2.2.2 = st.2.2.2) ∧ (0 ≤ z ∧ z ≤ 256 * 6000) ∧ (∀ (S A : ms) (o : Nat), RdC S o en t → CR S A o en st → ∃ A', EV q 150 0 [some (.ref 9), some (vI f), none, none, none] [] A (some (vI (f + z))) A' ∧ CR S A' o en st') ∧ ∀ S B : ms, RdM S en t → MR S B en st → (f ≠ 15 → z = 0 ∧ MR S B en st') ∧ (f = 15 → ∃ B', EV q 357 0 [some (.ref 367), none, none, none] [] B (some (vL z)) B' ∧ MR S B' en st') := by
  by_cases c : f = 15
  · subst c
    obtain ⟨z, st', g1, g2, g3, g4⟩ := jmore (q := q) he ht hr
    exact ⟨z, st', g1, g2, g3, fun S B hC h => ⟨fun y => absurd rfl y, fun _ => g4 S B hC h⟩⟩
  · have wf : w32 f = f := w32_of (by omega)
    refine ⟨0, st, ⟨hr, Fw_r st, rfl⟩, by decide, fun S A o hC h => ⟨A, vc_Copies_openMore _ ?_, h⟩, fun S B hC h => ⟨fun _ => ⟨rfl, h⟩, fun y => absurd y c⟩⟩
    rw [wf]
    refine cY c (vc_Copies_openMore_15 _ _ _ (vc_Copies_openMore_19 _ _ _ _ ?_))
    rw [Int.add_zero]
    exact ⟨fun _ => ⟨rfl, rfl⟩, fun _ => cY (by decide) ⟨rfl, rfl⟩⟩
end FastO
