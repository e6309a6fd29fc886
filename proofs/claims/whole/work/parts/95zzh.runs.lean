/-! open, kind 1: RUNS -/
section Runs
variable {q : Nat × (Nat → Int32)} {en : Int}
/-- both sides come from state st to state stf; the class may write the cells XC besides, the reference XM -/
def EY (X : Nat → Int → Prop) (S T : ms) : Prop := T.2.2 = S.2.2 ∧ ∀ (a : Nat) (k : Int), ¬ X a k → T.1 a k = S.1 a k
theorem EY.refl (X : Nat → Int → Prop) (S : ms) : EY X S S := ⟨rfl, fun _ _ _ => rfl⟩
theorem EX.ey {X : Nat → Int → Prop} {S T : ms} (h : EX X S T) : EY X S T := ⟨by rw [h.1], h.2⟩
theorem EY.trans {X : Nat → Int → Prop} {S T U : ms} (h1 : EY X S T) (h2 : EY X T U) : EY X S U := ⟨h2.1.trans h1.1, fun a k n => (h2.2 a k n).trans (h1.2 a k n)⟩
/-- the readers, wherever their bits stand -/
def CF (S A : ms) (o : Nat) (en : Int) (st : Rd) : Prop := ∃ (t : Int → Int) (u : Int), CB S A o en t st u
def MF (S B : ms) (en : Int) (st : Rd) : Prop := ∃ u : Int, MB S B en st u
def OJ (q : Nat × (Nat → Int32)) (en : Int) (t : Int → Int) (jc pc jm pm : Nat) (lc lm : List (Option Value)) (XC XM : Nat → Int → Prop) (st stf : Rd) : Prop := (∀ (S A : ms) (o : Nat), RdC S o en t → CR S A o en st → ∃ S' A', EY XC S S' ∧ EV q jc pc lc [] A none A' ∧ CF S' A' o en stf) ∧ ∀ S B : ms, RdM S en t → MR S B en st → ∃ S' B', EY XM S S' ∧ EV q jm pm (some (.ref 367) :: lm) [] B none B' ∧ MF S' B' en stf
def X0 (_ : Nat) (_ : Int) : Prop := False
/-- v comes n times -/
def rdTimes (v : Int) : Nat → Rd → Rd
  | 0, st => st
  | n + 1, st => rdTimes v n (rdEmit v st)
theorem rdTimes_s (v : Int) (n : Nat) (st : Rd) : rdTimes v (n + 1) st = rdTimes v n (rdEmit v st) := rfl
theorem rdEmit_r {v : Int} {st : Rd} (h : st.1 ≠ 0) : rdEmit v st = st := by
  unfold rdEmit
  rw [if_pos h]
theorem rdTimes_r {v : Int} {st : Rd} (h : st.1 ≠ 0) : ∀ n : Nat, rdTimes v n st = st
  | 0 => rfl
  | n + 1 => by
    rw [rdTimes_s, rdEmit_r h, rdTimes_r h n]
theorem rdR_times {v : Int} : ∀ (n : Nat) {st : Rd}, rdR en st → rdR en (rdTimes v n st)
  | 0, _, h => h
  | n + 1, _, h => by
    rw [rdTimes_s]
    exact rdR_times n (rdR_emit h)
theorem Fw_times {v : Int} : ∀ (n : Nat) {st : Rd}, Fw st (rdTimes v n st)
  | 0, st => Fw_r st
  | n + 1, st => by
    rw [rdTimes_s]
    exact Fw_t Fw_emit (Fw_times n)
/-- emitTimes(v, n) -/
theorem sp_times {S : ms} {o : Nat} {t : Int → Int} {v : Int} (hC : RdC S o en t) {n : Nat} (hn : n < 1000000) : ∀ (m i : Nat) (A : ms) (st : Rd), i + m = n → rdR en st → CR S A o en st → ∃ A', EV q 121 2 [some (.ref 9), some (vI v), some (vI n), some (vI i)] [] A none A' ∧ CR S A' o en (rdTimes v m st) := by
  intro m
  induction m with
  | zero =>
    intro i A st hi hr h
    have e : i = n := by omega
    subst e
    exact ⟨A, vc_Source_emitTimes_2 _ _ _ (cY (Int.le_refl _) ⟨rfl, rfl⟩), h⟩
  | succ m ih =>
    intro i A st hi hr h
    have wn : Unit → w32 ((n : Nat) : Int) = n := fun _ => w32_of (by omega)
    have wi : Unit → w32 ((i : Nat) : Int) = i := fun _ => w32_of (by omega)
    have z0 : ¬ (n : Int) ≤ i := by omega
    have wr : w32 st.1 = st.1 := w32_of (by have := hr.1; omega)
    by_cases c : st.1 ≠ 0
    · refine ⟨A, vc_Source_emitTimes_2 _ _ _ ?_, by rw [rdTimes_r c]; exact h⟩
      rw [wn (), wi (), h.2.1.2.1, wr]
      exact cNo z0 (cY c ⟨rfl, rfl⟩)
    · obtain ⟨A1, k1, k2⟩ := sp_emit (q := q) (v := v) hC hr h
      obtain ⟨A2, k3, k4⟩ := ih (i + 1) A1 _ (by omega) (rdR_emit hr) k2
      rw [show ((i + 1 : Nat) : Int) = (i : Int) + 1 by omega] at k3
      refine ⟨A2, vc_Source_emitTimes_2 _ _ _ ?_, k4⟩
      rw [wn (), wi (), h.2.1.2.1, wr]
      exact cNo z0 (cNo c ⟨A1, k1, k3⟩)
/-- a loop of the reference: what stands behind it -/
theorem lp_timesM {S : ms} {t : Int → Int} (he : en ≤ 6000) {x1 v : Int} {n : Nat} (hx : 257 - x1 = n) (hn : n < 1000000) {stf : Rd} {P : ms → Prop} (nx : ∀ B : ms, MR S B en stf → ∃ B', EV q 332 97 [some (.ref 367), some (vI x1), none, none] [] B none B' ∧ P B') : ∀ (m i : Nat) (B : ms) (st : Rd), i + m = n → rdTimes v m st = stf → rdR en st → MR S B en st → ∃ B', EV q 332 77 [some (.ref 367), some (vI x1), some (vI v), some (vI i)] [] B none B' ∧ P B' := by
  intro m
  induction m with
  | zero =>
    intro i B st hi hst hr h
    have e : i = n := by omega
    subst e
    have hst' : st = stf := hst
    obtain ⟨B', k1, k2⟩ := nx B (by rw [← hst']; exact h)
    exact ⟨B', vc_MD_openRuns_77 _ _ _ (by rw [hx]; exact cY (Int.le_refl _) k1), k2⟩
  | succ m ih =>
    intro i B st hi hst hr h
    have wn : Unit → w32 ((n : Nat) : Int) = n := fun _ => w32_of (by omega)
    have wi : Unit → w32 ((i : Nat) : Int) = i := fun _ => w32_of (by omega)
    have z0 : ¬ (n : Int) ≤ i := by omega
    rw [rdTimes_s] at hst
    obtain ⟨B1, k1, k2⟩ := md_emit (q := q) (v := v) hr he h
    obtain ⟨B2, k3, k4⟩ := ih (i + 1) B1 _ (by omega) hst (rdR_emit hr) k2
    rw [show ((i + 1 : Nat) : Int) = (i : Int) + 1 by omega] at k3
    refine ⟨B2, vc_MD_openRuns_77 _ _ _ ?_, k4⟩
    rw [hx, wn (), wi ()]
    exact cNo z0 ⟨B1, k1, k3⟩
theorem lp_copyR {S : ms} {t : Int → Int} (he : en ≤ 6000) (hC : RdM S en t) {x1 : Int} {n : Nat} (hx : x1 + 1 = n) (hn : n < 1000000) {stf : Rd} {P : ms → Prop} (nx : ∀ B : ms, MR S B en stf → ∃ B', EV q 332 97 [some (.ref 367), some (vI x1), none, none] [] B none B' ∧ P B') : ∀ (m i : Nat) (B : ms) (st : Rd), i + m = n → rdCopy t en m st = stf → rdR en st → MR S B en st → ∃ B', EV q 332 32 [some (.ref 367), some (vI x1), some (vI i), none] [] B none B' ∧ P B' := by
  have wx : w32 x1 = x1 := w32_of (by omega)
  intro m
  induction m with
  | zero =>
    intro i B st hi hst hr h
    have wi : Unit → w32 ((i : Nat) : Int) = i := fun _ => w32_of (by omega)
    have hst' : st = stf := hst
    obtain ⟨B', k1, k2⟩ := nx B (by rw [← hst']; exact h)
    refine ⟨B', vc_MD_openRuns_32 _ _ ?_, k2⟩
    rw [wx, wi ()]
    exact cY (by omega) (vc_MD_openRuns_60 _ _ k1)
  | succ m ih =>
    intro i B st hi hst hr h
    have wi : Unit → w32 ((i : Nat) : Int) = i := fun _ => w32_of (by omega)
    have z0 : ¬ x1 < (i : Int) := by omega
    have kf := md_fine (q := q) hr h
    rw [rdCopy_s] at hst
    by_cases c : st.1 ≠ 0
    · rw [if_pos c] at hst
      rw [if_neg c] at kf
      obtain ⟨B', k1, k2⟩ := nx B (by rw [← hst]; exact h)
      refine ⟨B', vc_MD_openRuns_32 _ _ ?_, k2⟩
      rw [wx, wi ()]
      exact cNo z0 ⟨0, B, kf, cY (by decide) (vc_MD_openRuns_60 _ _ k1)⟩
    · rw [if_neg c] at hst
      rw [if_pos (by omega)] at kf
      obtain ⟨B1, k1, k2⟩ := md_take (q := q) hC hr h
      obtain ⟨B2, k3, k4⟩ := md_emit (q := q) (v := (rdTake t en st).1) (rdR_take hr) he k2
      obtain ⟨B3, k5, k6⟩ := ih (i + 1) B2 _ (by omega) hst (rdR_emit (rdR_take hr)) k4
      rw [show ((i + 1 : Nat) : Int) = (i : Int) + 1 by omega] at k5
      refine ⟨B3, vc_MD_openRuns_32 _ _ ?_, k6⟩
      rw [wx, wi ()]
      exact cNo z0 ⟨1, B, kf, cNo (by decide) ⟨_, B1, k1, B2, k3, k5⟩⟩
/-- openRuns -/
theorem jruns {t : Int → Int} (he : 0 ≤ en ∧ en ≤ 6000) (ht : ∀ k : Int, 0 ≤ k → k < en → 0 ≤ t k ∧ t k < 256) : ∀ (m i : Nat) (st : Rd), en - st.2.2.1 ≤ m → i + m ≤ 6000 → rdR en st → ∃ stf : Rd, rdR en stf ∧ (∀ (S A : ms) (o : Nat), RdC S o en t → CR S A o en st → ∃ A', EV q 117 2 [some (.ref 22), some (.ref 9), some (vI i), none] [] A none A' ∧ CR S A' o en stf) ∧ ∀ S B : ms, RdM S en t → MR S B en st → ∃ B', EV q 332 0 [some (.ref 367), none, none, none] [] B none B' ∧ MR S B' en stf := by
  -- the end
  have stop : ∀ (i : Nat) (st : Rd), rdR en st → (st.1 ≠ 0 ∨ en ≤ st.2.2.1) → ∃ stf : Rd, rdR en stf ∧ (∀ (S A : ms) (o : Nat), RdC S o en t → CR S A o en st → ∃ A', EV q 117 2 [some (.ref 22), some (.ref 9), some (vI i), none] [] A none A' ∧ CR S A' o en stf) ∧ ∀ S B : ms, RdM S en t → MR S B en st → ∃ B', EV q 332 0 [some (.ref 367), none, none, none] [] B none B' ∧ MR S B' en stf := by
    intro i st hr hs
    have wr : w32 st.1 = st.1 := w32_of (by have := hr.1; omega)
    have we : w32 en = en := w32_of (by omega)
    have wn : w32 st.2.2.1 = st.2.2.1 := w32_of (by have := hr.2.1; omega)
    refine ⟨st, hr, fun S A o hC h => ⟨A, vc_Plain_openRuns_2 _ ⟨fun _ => ⟨rfl, rfl⟩, fun _ => ?_⟩, h⟩, fun S B hC h => ⟨B, vc_MD_openRuns ⟨_, B, md_fine hr h, fun _ => ⟨rfl, rfl⟩, fun n => ?_⟩, h⟩⟩
    · rw [h.2.1.2.1, wr]
      refine ⟨fun _ => ⟨rfl, rfl⟩, fun n => ?_⟩
      have d : st.1 = 0 := by omega
      rw [h.2.1.1 d, we, h.2.1.2.2.2.1 d, wn]
      exact cY (by rcases hs with y | y; exact absurd y n; exact y) ⟨rfl, rfl⟩
    · have d : st.1 = 0 := by
        apply Classical.byContradiction
        intro d
        rw [if_neg d] at n
        exact n (by decide)
      rw [h.2.1.1 d, we, h.2.1.2.2.2.2 d, if_pos rfl, Int.sub_zero, wn]
      exact cY (by rcases hs with y | y; exact absurd d y; exact y) ⟨rfl, rfl⟩
  intro m
  induction m with
  | zero =>
    intro i st hm hi hr
    exact stop i st hr (Or.inr (by omega))
  | succ m ih =>
    intro i st hm hi hr
    by_cases cs : st.1 ≠ 0 ∨ en ≤ st.2.2.1
    · exact stop i st hr cs
    have c0 : st.1 = 0 := Classical.byContradiction fun y => cs (Or.inl y)
    have cn : st.2.2.1 < en := Classical.byContradiction fun y => cs (Or.inr (by omega))
    have wr : w32 st.1 = st.1 := w32_of (by omega)
    have we : w32 en = en := w32_of (by omega)
    have wn : w32 st.2.2.1 = st.2.2.1 := w32_of (by have := hr.2.1; omega)
    have wi : Unit → w32 (i : Int) = i := fun _ => w32_of (by omega)
    have i0 : ¬ 1000000 ≤ (i : Int) := by omega
    obtain ⟨x, ex⟩ : ∃ x : Int, x = (rdTake t en st).1 := ⟨_, rfl⟩
    obtain ⟨s1, es⟩ : ∃ s1 : Rd, s1 = (rdTake t en st).2 := ⟨_, rfl⟩
    have tr := rdTake_rg hr ht
    have hr1 : rdR en s1 := by rw [es]; exact rdR_take hr
    have n1 : s1.2.2.1 = st.2.2.1 + 1 := by
      rw [es]
      unfold rdTake
      rw [if_neg (by omega), if_pos cn]
    rw [← ex] at tr
    have wx : w32 x = x := w32_of (by omega)
    have ei : ((i + 1 : Nat) : Int) = (i : Int) + 1 := by omega
    -- the two heads
    have hc : ∀ (S A : ms) (o : Nat), RdC S o en t → CR S A o en st → ∃ A1, EV q 118 0 [some (.ref 9)] [] A (some (vI x)) A1 ∧ CR S A1 o en s1 := by
      intro S A o hC h
      obtain ⟨A1, k1, k2⟩ := sp_take (q := q) hC hr h
      rw [← ex] at k1
      rw [← es] at k2
      exact ⟨A1, k1, k2⟩
    have hm' : ∀ (S B : ms), RdM S en t → MR S B en st → ∃ B1, EV q 334 0 [some (.ref 367)] [] B (some (vI x)) B1 ∧ MR S B1 en s1 := by
      intro S B hC h
      obtain ⟨B1, k1, k2⟩ := md_take (q := q) hC hr h
      rw [← ex] at k1
      rw [← es] at k2
      exact ⟨B1, k1, k2⟩
    by_cases c1 : 128 ≤ x
    · by_cases c2 : x ≤ 128
      · -- nothing is done
        obtain ⟨stf, rf, l1, l2⟩ := ih (i + 1) s1 (by omega) (by omega) hr1
        refine ⟨stf, rf, fun S A o hC h => ?_, fun S B hC h => ?_⟩
        · obtain ⟨A1, k1, k2⟩ := hc S A o hC h
          obtain ⟨A', k3, k4⟩ := l1 S A1 o hC k2
          rw [ei] at k3
          refine ⟨A', vc_Plain_openRuns_2 _ ?_, k4⟩
          rw [h.2.1.2.1, wr, h.2.1.1 c0, we, h.2.1.2.2.2.1 c0, wn, wi ()]
          refine cNo i0 (cNN c0 (cNo (by omega) ⟨x, A1, k1, ?_⟩))
          rw [wx]
          exact cY c1 (cY c2 (vc_Plain_openRuns_69 _ _ k3))
        · obtain ⟨B1, k1, k2⟩ := hm' S B hC h
          obtain ⟨B', k3, k4⟩ := l2 S B1 hC k2
          have kf := md_fine (q := q) hr h
          rw [if_pos c0] at kf
          refine ⟨B', vc_MD_openRuns ⟨1, B, kf, cNo (by decide) ?_⟩, k4⟩
          rw [h.2.1.1 c0, we, h.2.1.2.2.2.2 c0, if_pos rfl, Int.sub_zero, wn]
          refine cNo (by omega) ⟨x, B1, k1, ?_⟩
          rw [wx]
          exact cY c1 (cY c2 (vc_MD_openRuns_97 _ k3))
      · -- one octet, so many times
        obtain ⟨v, ev⟩ : ∃ v : Int, v = (rdTake t en s1).1 := ⟨_, rfl⟩
        obtain ⟨s2, es2⟩ : ∃ s2 : Rd, s2 = (rdTake t en s1).2 := ⟨_, rfl⟩
        have hr2 : rdR en s2 := by rw [es2]; exact rdR_take hr1
        have fw2 : Fw s1 s2 := by rw [es2]; exact Fw_take
        obtain ⟨n, en'⟩ : ∃ n : Nat, 257 - x = n := ⟨(257 - x).toNat, by omega⟩
        obtain ⟨stf, rf, l1, l2⟩ := ih (i + 1) (rdTimes v n s2) (by have := (Fw_t fw2 (Fw_times (v := v) n)).2; omega) (by omega) (rdR_times n hr2)
        refine ⟨stf, rf, fun S A o hC h => ?_, fun S B hC h => ?_⟩
        · obtain ⟨A1, k1, k2⟩ := hc S A o hC h
          obtain ⟨A2, k3, k4⟩ := sp_take (q := q) hC hr1 k2
          rw [← ev] at k3
          rw [← es2] at k4
          obtain ⟨A3, k5, k6⟩ := sp_times (q := q) (v := v) hC (n := n) (by omega) n 0 A2 s2 (by omega) hr2 k4
          obtain ⟨A', k7, k8⟩ := l1 S A3 o hC k6
          rw [ei] at k7
          refine ⟨A', vc_Plain_openRuns_2 _ ?_, k8⟩
          rw [h.2.1.2.1, wr, h.2.1.1 c0, we, h.2.1.2.2.2.1 c0, wn, wi ()]
          refine cNo i0 (cNN c0 (cNo (by omega) ⟨x, A1, k1, ?_⟩))
          rw [wx, en']
          exact cY c1 (cNo c2 ⟨v, A2, k3, A3, vc_Source_emitTimes _ _ k5, vc_Plain_openRuns_69 _ _ k7⟩)
        · obtain ⟨B1, k1, k2⟩ := hm' S B hC h
          obtain ⟨B2, k3, k4⟩ := md_take (q := q) hC hr1 k2
          rw [← ev] at k3
          rw [← es2] at k4
          obtain ⟨B', k5, k6⟩ := lp_timesM (q := q) (t := t) he.2 en' (by omega) (P := fun U => MR S U en stf) (v := v) (fun B3 j1 => by
            obtain ⟨B', j2, j3⟩ := l2 S B3 hC j1
            exact ⟨B', vc_MD_openRuns_97 _ j2, j3⟩) n 0 B2 s2 (by omega) rfl hr2 k4
          have kf := md_fine (q := q) hr h
          rw [if_pos c0] at kf
          refine ⟨B', vc_MD_openRuns ⟨1, B, kf, cNo (by decide) ?_⟩, k6⟩
          rw [h.2.1.1 c0, we, h.2.1.2.2.2.2 c0, if_pos rfl, Int.sub_zero, wn]
          refine cNo (by omega) ⟨x, B1, k1, ?_⟩
          rw [wx]
          exact cY c1 (cNo c2 ⟨v, B2, k3, k5⟩)
    · -- so many octets as they stand
      obtain ⟨n, en'⟩ : ∃ n : Nat, x + 1 = n := ⟨(x + 1).toNat, by omega⟩
      obtain ⟨stf, rf, l1, l2⟩ := ih (i + 1) (rdCopy t en n s1) (by have := (Fw_copy (en := en) (t := t) n (st := s1)).2; omega) (by omega) (rdR_copy n hr1)
      have w1 : w32 (x + 1) = x + 1 := w32_of (by omega)
      refine ⟨stf, rf, fun S A o hC h => ?_, fun S B hC h => ?_⟩
      · obtain ⟨A1, k1, k2⟩ := hc S A o hC h
        obtain ⟨A3, k5, k6⟩ := sp_copy (q := q) hC (n := n) (by omega) hr1 k2
        obtain ⟨A', k7, k8⟩ := l1 S A3 o hC k6
        rw [ei] at k7
        refine ⟨A', vc_Plain_openRuns_2 _ ?_, k8⟩
        rw [h.2.1.2.1, wr, h.2.1.1 c0, we, h.2.1.2.2.2.1 c0, wn, wi ()]
        refine cNo i0 (cNN c0 (cNo (by omega) ⟨x, A1, k1, ?_⟩))
        rw [wx, w1, en']
        exact cNo c1 ⟨A3, k5, vc_Plain_openRuns_69 _ _ k7⟩
      · obtain ⟨B1, k1, k2⟩ := hm' S B hC h
        obtain ⟨B', k5, k6⟩ := lp_copyR (q := q) (t := t) he.2 hC en' (by omega) (P := fun U => MR S U en stf) (fun B3 j1 => by
          obtain ⟨B', j2, j3⟩ := l2 S B3 hC j1
          exact ⟨B', vc_MD_openRuns_97 _ j2, j3⟩) n 0 B1 s1 (by omega) rfl hr1 k2
        have kf := md_fine (q := q) hr h
        rw [if_pos c0] at kf
        refine ⟨B', vc_MD_openRuns ⟨1, B, kf, cNo (by decide) ?_⟩, k6⟩
        rw [h.2.1.1 c0, we, h.2.1.2.2.2.2 c0, if_pos rfl, Int.sub_zero, wn]
        refine cNo (by omega) ⟨x, B1, k1, ?_⟩
        rw [wx]
        exact cNo c1 k5
/-- open(1) -/
theorem oj_runs {t : Int → Int} (he : 0 ≤ en ∧ en ≤ 6000) (ht : ∀ k : Int, 0 ≤ k → k < en → 0 ≤ t k ∧ t k < 256) : ∃ stf : Rd, rdR en stf ∧ OJ q en t 117 0 332 0 [some (.ref 22), some (.ref 9), none, none] [none, none, none] X0 X0 st0 stf := by
  obtain ⟨stf, rf, l1, l2⟩ := jruns (q := q) he ht 6000 0 st0 (by show en - 0 ≤ _; omega) (by omega) (rdR_0 he.1)
  refine ⟨stf, rf, fun S A o hC h => ?_, fun S B hC h => ?_⟩
  · obtain ⟨A', k1, k2⟩ := l1 S A o hC h
    exact ⟨S, A', EY.refl _ _, vc_Plain_openRuns k1, _, _, k2⟩
  · obtain ⟨B', k1, k2⟩ := l2 S B hC h
    exact ⟨S, B', EY.refl _ _, k1, _, k2⟩
end Runs
