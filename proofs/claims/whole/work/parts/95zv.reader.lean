/-! THE READER: so many octets of a STREAM are given out (apply) -/
section Reader5
variable {q : Nat × (Nat → Int32)} {en : Int}
theorem rdEmit_m {v v' : Int} (h : v % 256 = v' % 256) (st : Rd) : rdEmit v st = rdEmit v' st := by
  unfold rdEmit
  rw [h]
/-- n octets g from p on are given out, as long as no rule is told -/
def rdPut (g : Int → Int) : Nat → Int → Rd → Rd
  | 0, _, st => st
  | n + 1, p, st => if st.1 ≠ 0 then st else rdPut g n (p + 1) (rdEmit (g p) st)
theorem rdPut_s (g : Int → Int) (n : Nat) (p : Int) (st : Rd) : rdPut g (n + 1) p st = if st.1 ≠ 0 then st else rdPut g n (p + 1) (rdEmit (g p) st) := rfl
theorem rdR_put {g : Int → Int} : ∀ (n : Nat) (p : Int) {st : Rd}, rdR en st → rdR en (rdPut g n p st)
  | 0, _, _, h => h
  | n + 1, p, st, h => by
    rw [rdPut_s]
    split
    · exact h
    · exact rdR_put n (p + 1) (rdR_emit h)
theorem lp_putC {S : ms} {o a1 : Nat} {t g : Int → Int} {sz pl : Int} (hC : RdC S o en t) (ha : isRow a1 12000) (hne : a1 ≠ o ∧ a1 + 1 ≠ o ∧ a1 ≠ o + 1 ∧ a1 + 1 ≠ 9) (hsz : sz ≤ 12000) (hg : ∀ k : Int, 0 ≤ k → k < sz → S.1 (a1 + 1) k = g k) (hp : 0 ≤ pl ∧ pl < 34359738368) {n : Nat} (hn : n < 1000000000) : ∀ (m i : Nat) (A : ms) (st : Rd), i + m = n → (st.1 = 0 → pl + n ≤ sz) → rdR en st → CR S A o en st → ∃ A', EV q 222 29 [some (.ref 9), some (.ref a1), some (vL n), none, some (vL pl), none, some (vI i)] [] A none A' ∧ CR S A' o en (rdPut g m (pl + i) st) := by
  intro m
  induction m with
  | zero =>
    intro i A st hi hb hr h
    have e : i = n := by omega
    subst e
    have wi : Unit → w32 (i : Int) = i := fun _ => w32_of (by omega)
    refine ⟨A, vc_Copies_openFromFirst_29 _ _ _ a1 12000 ha ?_, h⟩
    rw [wi ()]
    exact ⟨fun _ => ⟨rfl, rfl⟩, fun n => absurd (Int.le_refl _) n⟩
  | succ m ih =>
    intro i A st hi hb hr h
    have z0 : ¬ (n : Int) ≤ i := by omega
    have wr : w32 st.1 = st.1 := w32_of (by have := hr.1; omega)
    have wn : Unit → w64 (n : Int) = n := fun _ => w64_of (by omega)
    have wi : Unit → w32 (i : Int) = i := fun _ => w32_of (by omega)
    have wi2 : Unit → w64 (i : Int) = i := fun _ => w64_of (by omega)
    rw [rdPut_s]
    by_cases c : st.1 ≠ 0
    · refine ⟨A, vc_Copies_openFromFirst_29 _ _ _ a1 12000 ha ?_, by rw [if_pos c]; exact h⟩
      rw [wn (), wi (), wi2 (), h.2.1.2.1, wr]
      exact ⟨fun n => absurd n z0, fun _ => ⟨fun _ => ⟨rfl, rfl⟩, fun n => absurd c n⟩⟩
    · have c0 : st.1 = 0 := by omega
      have hb0 := hb c0
      have wx : w32 (pl + i) = pl + i := w32_of (by omega)
      have ev : A.1 (a1 + 1) (pl + i) = g (pl + i) := by rw [h.2.2.2 _ _ (by omega) (by omega) (by omega), hg _ (by omega) (by omega)]
      obtain ⟨A2, k3, k4⟩ := sp_emit (q := q) (v := g (pl + i)) hC hr h
      obtain ⟨A3, k5, k6⟩ := ih (i + 1) A2 _ (by omega) (fun _ => hb0) (rdR_emit hr) k4
      rw [show ((i + 1 : Nat) : Int) = (i : Int) + 1 by omega] at k5 k6
      refine ⟨A3, vc_Copies_openFromFirst_29 _ _ _ a1 12000 ha ?_, by rw [if_neg c, show pl + (i : Int) + 1 = pl + ((i : Int) + 1) by omega]; exact k6⟩
      rw [wn (), wi (), wi2 (), h.2.1.2.1, wr, wx, ev]
      exact ⟨fun n => absurd n z0, fun _ => ⟨fun n => absurd n c, fun _ => ⟨by omega, A2, k3, k5⟩⟩⟩
theorem lp_putM {S : ms} {t g : Int → Int} {sz pl x1 x2 x4 x6 : Int} (hC : RdM S en t) (hx1 : 1 ≤ x1 ∧ x1 ≤ 12) (hsz : sz ≤ 12000) (hg : ∀ k : Int, 0 ≤ k → k < sz → (0 ≤ g k ∧ g k < 256) ∧ S.1 369 (12000 * x1 + k) = b8 (g k)) (hp : 0 ≤ pl ∧ pl < 34359738368) {n : Nat} (hn : n < 1000000000) {stf : Rd} {rr : Option Value} {P : ms → Prop} (nx : ∀ (B : ms) (x11 : Int), MR S B en stf → ∃ B', EV q 406 356 [some (.ref 367), some (vI x1), some (vL x2), none, some (vL x4), none, some (vI x6), some (vL n), none, some (vL pl), none, some (vL x11), none] [] B rr B' ∧ P B') : ∀ (m i : Nat) (B : ms) (st : Rd), i + m = n → rdPut g m (pl + i) st = stf → (st.1 = 0 → pl + n ≤ sz) → rdR en st → MR S B en st → ∃ B', EV q 406 311 [some (.ref 367), some (vI x1), some (vL x2), none, some (vL x4), none, some (vI x6), some (vL n), none, some (vL pl), none, some (vL i), none] [] B rr B' ∧ P B' := by
  intro m
  induction m with
  | zero =>
    intro i B st hi hst hb hr h
    have e : i = n := by omega
    subst e
    have hst' : st = stf := hst
    obtain ⟨B', k1, k2⟩ := nx B i (by rw [← hst']; exact h)
    exact ⟨B', vc_MD_apply_311 _ _ _ _ _ _ _ ⟨fun _ => k1, fun n => absurd (Int.le_refl _) n⟩, k2⟩
  | succ m ih =>
    intro i B st hi hst hb hr h
    rw [rdPut_s] at hst
    have z0 : ¬ (n : Int) ≤ i := by omega
    have wn : Unit → w64 (n : Int) = n := fun _ => w64_of (by omega)
    have wi : Unit → w64 (i : Int) = i := fun _ => w64_of (by omega)
    have kf := md_fine (q := q) hr h
    by_cases c : st.1 ≠ 0
    · rw [if_pos c] at hst
      obtain ⟨B', k1, k2⟩ := nx B i (by rw [← hst]; exact h)
      rw [if_neg c] at kf
      refine ⟨B', vc_MD_apply_311 _ _ _ _ _ _ _ ?_, k2⟩
      rw [wn (), wi ()]
      exact ⟨fun n => absurd n z0, fun _ => ⟨0, B, kf, fun _ => k1, fun n => absurd rfl n⟩⟩
    · have c0 : st.1 = 0 := by omega
      have hb0 := hb c0
      rw [if_pos c0] at kf
      rw [if_neg c] at hst
      obtain ⟨g1, g2⟩ := hg (pl + i) (by omega) (by omega)
      have wx : w32 (12000 * x1 + (pl + i)) = 12000 * x1 + (pl + i) := w32_of (by omega)
      have ev : B.1 369 (12000 * x1 + (pl + i)) = b8 (g (pl + i)) := by rw [h.2.2.2 _ _ (by omega) (by decide), g2]
      have em : rdEmit (b8 (g (pl + i))) st = rdEmit (g (pl + i)) st := rdEmit_m (by unfold b8; omega) st
      obtain ⟨B2, k3, k4⟩ := md_emit (q := q) (v := b8 (g (pl + i))) hr hC.2.1.2 h
      rw [em] at k4
      obtain ⟨B3, k5, k6⟩ := ih (i + 1) B2 _ (by omega) (by rw [show pl + ((i + 1 : Nat) : Int) = pl + (i : Int) + 1 by omega]; exact hst) (fun _ => hb0) (rdR_emit hr) k4
      rw [show ((i + 1 : Nat) : Int) = (i : Int) + 1 by omega] at k5
      refine ⟨B3, vc_MD_apply_311 _ _ _ _ _ _ _ ?_, k6⟩
      rw [wn (), wi ()]
      refine ⟨fun n => absurd n z0, fun _ => ⟨1, B, kf, fun n => absurd n (by decide), fun _ => ?_⟩⟩
      rw [wx, ev]
      exact ⟨by omega, B2, k3, k5⟩
end Reader5
