/-! THE READER: numbers of several octets, on both sides at once -/
section Reader3
variable {q : Nat × (Nat → Int32)} {en : Int}
/-- both sides, in state st, run on to state st' and number z -/
def JL (q : Nat × (Nat → Int32)) (en : Int) (t : Int → Int) (st st' : Rd) (z : Int) (jc pc jm pm : Nat) (lc lm : List (Option Value)) : Prop := (∀ (S A : ms) (o : Nat), RdC S o en t → CR S A o en st → ∃ A', EV q jc pc (some (.ref 9) :: lc) [] A (some (vL z)) A' ∧ CR S A' o en st') ∧ ∀ S B : ms, RdM S en t → MR S B en st → ∃ B', EV q jm pm (some (.ref 367) :: lm) [] B (some (vL z)) B' ∧ MR S B' en st'
theorem lO_rg {x y : Int} (hx : 0 ≤ x ∧ x < 34359738368) (hy : 0 ≤ y ∧ y < 34359738368) : 0 ≤ lO x y ∧ lO x y < 34359738368 := by
  unfold lO
  have h := Nat.or_lt_two_pow (x := (x % 18446744073709551616).toNat) (y := (y % 18446744073709551616).toNat) (n := 35) (by omega) (by omega)
  omega
theorem rdTake_rg {t : Int → Int} {st : Rd} (hr : rdR en st) (ht : ∀ k : Int, 0 ≤ k → k < en → 0 ≤ t k ∧ t k < 256) : 0 ≤ (rdTake t en st).1 ∧ (rdTake t en st).1 < 256 := by
  unfold rdTake
  by_cases c : st.1 ≠ 0
  · rw [if_pos c]
    show 0 ≤ (0 : Int) ∧ (0 : Int) < 256
    decide
  · rw [if_neg c]
    by_cases d : st.2.2.1 < en
    · rw [if_pos d]
      exact ht _ hr.2.1.1 d
    · rw [if_neg d]
      show 0 ≤ (0 : Int) ∧ (0 : Int) < 256
      decide
/-- a told rule stands; places go on -/
def Fw (st st' : Rd) : Prop := (st.1 ≠ 0 → st' = st) ∧ st.2.2.1 ≤ st'.2.2.1
theorem Fw_r (st : Rd) : Fw st st := ⟨fun _ => rfl, Int.le_refl _⟩
theorem Fw_t {a b c : Rd} (h : Fw a b) (g : Fw b c) : Fw a c := ⟨fun n => (g.1 (by rw [h.1 n]; exact n)).trans (h.1 n), Int.le_trans h.2 g.2⟩
theorem Fw_take {t : Int → Int} {st : Rd} : Fw st (rdTake t en st).2 := by
  unfold rdTake
  by_cases c : st.1 ≠ 0
  · rw [if_pos c]
    exact Fw_r st
  · rw [if_neg c]
    by_cases d : st.2.2.1 < en
    · rw [if_pos d]
      exact ⟨fun n => absurd n c, by show st.2.2.1 ≤ st.2.2.1 + 1; omega⟩
    · rw [if_neg d]
      exact ⟨fun n => absurd n c, Int.le_refl _⟩
theorem Fw_tellAt {k p : Int} {st : Rd} : Fw st (rdTellAt k p st) := by
  unfold rdTellAt
  by_cases c : st.1 ≠ 0
  · rw [if_pos c]
    exact Fw_r st
  · rw [if_neg c]
    exact ⟨fun n => absurd n c, Int.le_refl _⟩
theorem Fw_emit {v : Int} {st : Rd} : Fw st (rdEmit v st) := by
  unfold rdEmit
  by_cases c : st.1 ≠ 0
  · rw [if_pos c]
    exact Fw_r st
  · rw [if_neg c]
    by_cases d : st.2.2.2.1 = 12000
    · rw [if_pos d]
      exact ⟨fun n => absurd n c, Int.le_refl _⟩
    · rw [if_neg d]
      exact ⟨fun n => absurd n c, Int.le_refl _⟩
/-- takeLow(n), lowNumber(n) -/
theorem jlow {t : Int → Int} (ht : ∀ k : Int, 0 ≤ k → k < en → 0 ≤ t k ∧ t k < 256) {n : Nat} (hn : n ≤ 4) : ∀ (m i : Nat) (v : Int) (st : Rd), i + m = n → rdR en st → (0 ≤ v ∧ v < 34359738368) → ∃ (z : Int) (st' : Rd), (rdR en st' ∧ Fw st st') ∧ (0 ≤ z ∧ z < 34359738368) ∧ JL q en t st st' z 132 5 345 5 [some (vI n), some (vL v), none, some (vI i)] [some (vI n), some (vL v), none, some (vI i)] := by
  intro m
  induction m with
  | zero =>
    intro i v st hi hr hv
    have e : i = n := by omega
    subst e
    exact ⟨v, st, ⟨hr, Fw_r st⟩, hv, fun S A o _ h => ⟨A, vc_Source_takeLow_5 _ _ _ ⟨fun _ => ⟨rfl, rfl⟩, fun n => absurd (Int.le_refl _) n⟩, h⟩, fun S B _ h => ⟨B, vc_MD_lowNumber_5 _ _ _ ⟨fun _ => ⟨rfl, rfl⟩, fun n => absurd (Int.le_refl _) n⟩, h⟩⟩
  | succ m ih =>
    intro i v st hi hr hv
    have tr := rdTake_rg hr ht
    have wt : w32 (rdTake t en st).1 = (rdTake t en st).1 := w32_of (by omega)
    have pw : (2 : Int) ^ ((8 * (i : Int)) % 64).toNat ≤ 16777216 ∧ 0 ≤ (2 : Int) ^ ((8 * (i : Int)) % 64).toNat := by
      have hi4 : i = 0 ∨ i = 1 ∨ i = 2 ∨ i = 3 := by omega
      rcases hi4 with e | e | e | e <;> subst e <;> decide
    have tv : 0 ≤ (rdTake t en st).1 * (2 : Int) ^ ((8 * (i : Int)) % 64).toNat ∧ (rdTake t en st).1 * (2 : Int) ^ ((8 * (i : Int)) % 64).toNat < 34359738368 := by
      refine ⟨Int.mul_nonneg tr.1 pw.2, ?_⟩
      have m1 : (rdTake t en st).1 * (2 : Int) ^ ((8 * (i : Int)) % 64).toNat ≤ (rdTake t en st).1 * 16777216 := Int.mul_le_mul_of_nonneg_left pw.1 tr.1
      omega
    obtain ⟨z, st', g1, g2, g3, g4⟩ := ih (i + 1) (lO v ((rdTake t en st).1 * (2 : Int) ^ ((8 * (i : Int)) % 64).toNat)) (rdTake t en st).2 (by omega) (rdR_take hr) (lO_rg hv tv)
    have ek : ((i + 1 : Nat) : Int) = (i : Int) + 1 := by omega
    rw [ek] at g3 g4
    have z0 : ¬ (n : Int) ≤ i := by omega
    have wn : Unit → w32 (n : Int) = n := fun _ => w32_of (by omega)
    have wi : Unit → w32 (i : Int) = i := fun _ => w32_of (by omega)
    refine ⟨z, st', ⟨g1.1, Fw_t Fw_take g1.2⟩, g2, fun S A o hC h => ?_, fun S B hC h => ?_⟩
    · obtain ⟨A1, k1, k2⟩ := sp_take (q := q) hC hr h
      obtain ⟨A2, k3, k4⟩ := g3 S A1 o hC k2
      refine ⟨A2, vc_Source_takeLow_5 _ _ _ ?_, k4⟩
      rw [wn (), wi ()]
      refine ⟨fun n => absurd n z0, fun _ => ⟨_, A1, k1, ?_⟩⟩
      rw [wt]
      exact k3
    · obtain ⟨B1, k1, k2⟩ := md_take (q := q) hC hr h
      obtain ⟨B2, k3, k4⟩ := g4 S B1 hC k2
      refine ⟨B2, vc_MD_lowNumber_5 _ _ _ ?_, k4⟩
      rw [wn (), wi ()]
      refine ⟨fun n => absurd n z0, fun _ => ⟨_, B1, k1, ?_⟩⟩
      rw [wt]
      exact k3
/-- takeSevens(), readSevens() -/
theorem jsev {t : Int → Int} (he : en ≤ 6000) (ht : ∀ k : Int, 0 ≤ k → k < en → 0 ≤ t k ∧ t k < 256) : ∀ (m i : Nat) (v : Int) (st : Rd), i + m = 5 → rdR en st → (0 ≤ v ∧ v < 34359738368) → ∃ (z : Int) (st' : Rd), (rdR en st' ∧ Fw st st') ∧ (0 ≤ z ∧ z < 34359738368) ∧ JL q en t st st' z 158 4 361 4 [some (vL v), none, some (vI i), none] [some (vL v), none, some (vI i), none] := by
  intro m
  induction m with
  | zero =>
    intro i v st hi hr hv
    have e : i = 5 := by omega
    subst e
    exact ⟨v, st, ⟨hr, Fw_r st⟩, hv, fun S A o _ h => ⟨A, vc_Source_takeSevens_4 _ _ ⟨fun _ => ⟨rfl, rfl⟩, fun n => absurd (by decide) n⟩, h⟩, fun S B _ h => ⟨B, vc_MD_readSevens_4 _ _ ⟨fun _ => ⟨rfl, rfl⟩, fun n => absurd (by decide) n⟩, h⟩⟩
  | succ m ih =>
    intro i v st hi hr hv
    obtain ⟨x, ex⟩ : ∃ x : Int, x = (rdTake t en st).1 := ⟨_, rfl⟩
    obtain ⟨s1, es⟩ : ∃ s1 : Rd, s1 = (rdTake t en st).2 := ⟨_, rfl⟩
    have tr := rdTake_rg hr ht
    rw [← ex] at tr
    have hr1 : rdR en s1 := by
      rw [es]
      exact rdR_take hr
    -- what the rule 51 makes of it
    obtain ⟨s2, e2⟩ : ∃ s2 : Rd, s2 = if i = 4 ∧ 15 < x then rdTell 51 s1 else s1 := ⟨_, rfl⟩
    have hr2 : rdR en s2 := by
      rw [e2]
      split
      · exact rdR_tell hr1 (by decide)
      · exact hr1
    have x0 : s1.1 ≠ 0 → x = 0 := by
      rw [es, ex]
      unfold rdTake
      by_cases c : st.1 ≠ 0
      · rw [if_pos c]
        exact fun _ => rfl
      · rw [if_neg c]
        by_cases d : st.2.2.1 < en
        · rw [if_pos d]
          exact fun y => absurd y c
        · rw [if_neg d]
          exact fun _ => rfl
    have wx : w32 x = x := w32_of (by omega)
    have wm : w32 (x % 128) = x % 128 := w32_of (by omega)
    have pw : (2 : Int) ^ ((7 * (i : Int)) % 64).toNat ≤ 268435456 ∧ 0 ≤ (2 : Int) ^ ((7 * (i : Int)) % 64).toNat := by
      have hi4 : i = 0 ∨ i = 1 ∨ i = 2 ∨ i = 3 ∨ i = 4 := by omega
      rcases hi4 with e | e | e | e | e <;> subst e <;> decide
    have tv : 0 ≤ x % 128 * (2 : Int) ^ ((7 * (i : Int)) % 64).toNat ∧ x % 128 * (2 : Int) ^ ((7 * (i : Int)) % 64).toNat < 34359738368 := by
      refine ⟨Int.mul_nonneg (by omega) pw.2, ?_⟩
      have m1 : x % 128 * (2 : Int) ^ ((7 * (i : Int)) % 64).toNat ≤ x % 128 * 268435456 := Int.mul_le_mul_of_nonneg_left pw.1 (by omega)
      omega
    obtain ⟨v', ev'⟩ : ∃ v' : Int, v' = lO v (x % 128 * (2 : Int) ^ ((7 * (i : Int)) % 64).toNat) := ⟨_, rfl⟩
    have hv' : 0 ≤ v' ∧ v' < 34359738368 := by
      rw [ev']
      exact lO_rg hv tv
    have ek : ((i + 1 : Nat) : Int) = (i : Int) + 1 := by omega
    have z0 : ¬ 5 ≤ (i : Int) := by omega
    have wi : Unit → w32 (i : Int) = i := fun _ => w32_of (by omega)
    have w2 : w32 s2.1 = s2.1 := w32_of (by have := hr2.1; omega)
    have w1 : w32 s1.1 = s1.1 := w32_of (by have := hr1.1; omega)
    -- the two heads, to what stands behind the rule
    have fw2 : Fw st s2 := by
      have f1 : Fw st s1 := by
        rw [es]
        exact Fw_take
      rw [e2]
      split
      · exact Fw_t f1 Fw_tellAt
      · exact f1
    have hd : ∀ (z : Int) (st' : Rd), (rdR en st' ∧ Fw s2 st') → (0 ≤ z ∧ z < 34359738368) → JL q en t s2 st' z 158 33 361 40 [some (vL v), none, some (vI i), some (vI x)] [some (vL v), none, some (vI i), some (vI x)] → ∃ (z : Int) (st' : Rd), (rdR en st' ∧ Fw st st') ∧ (0 ≤ z ∧ z < 34359738368) ∧ JL q en t st st' z 158 4 361 4 [some (vL v), none, some (vI i), none] [some (vL v), none, some (vI i), none] := by
      intro z st' g1 g2 g3
      refine ⟨z, st', ⟨g1.1, Fw_t fw2 g1.2⟩, g2, fun S A o hC h => ?_, fun S B hC h => ?_⟩
      · obtain ⟨A1, k1, k2⟩ := sp_take (q := q) hC hr h
        rw [← ex, ← es] at *
        by_cases c : i = 4 ∧ 15 < x
        · obtain ⟨A2, k3, k4⟩ := sp_tell (q := q) (k := 51) hr1 hC.2.2.1 k2
          rw [if_pos c] at e2
          rw [← e2] at k4
          obtain ⟨A3, k5, k6⟩ := g3.1 S A2 o hC k4
          refine ⟨A3, vc_Source_takeSevens_4 _ _ ?_, k6⟩
          rw [wi ()]
          refine ⟨fun n => absurd n z0, fun _ => ⟨x, A1, k1, fun n => absurd (by omega) n, fun _ => ?_⟩⟩
          rw [wx]
          exact ⟨fun n => absurd n (by omega), fun _ => ⟨A2, k3, k5⟩⟩
        · rw [if_neg c] at e2
          rw [← e2] at k2
          obtain ⟨A3, k5, k6⟩ := g3.1 S A1 o hC k2
          refine ⟨A3, vc_Source_takeSevens_4 _ _ ?_, k6⟩
          rw [wi ()]
          refine ⟨fun n => absurd n z0, fun _ => ⟨x, A1, k1, fun _ => k5, fun y => ?_⟩⟩
          rw [wx]
          exact ⟨fun _ => k5, fun n => absurd ⟨by omega, by omega⟩ c⟩
      · obtain ⟨B1, k1, k2⟩ := md_take (q := q) hC hr h
        rw [← ex, ← es] at *
        have kf := md_fine (q := q) hr1 k2
        by_cases c : i = 4 ∧ 15 < x
        · have s10 : s1.1 = 0 := by
            apply Classical.byContradiction
            intro n
            have := x0 n
            omega
          rw [if_pos s10] at kf
          obtain ⟨B2, k3, k4⟩ := md_tell (q := q) (k := 51) hr1 he k2
          rw [if_pos c] at e2
          rw [← e2] at k4
          obtain ⟨B3, k5, k6⟩ := g3.2 S B2 hC k4
          refine ⟨B3, vc_MD_readSevens_4 _ _ ?_, k6⟩
          rw [wi ()]
          refine ⟨fun n => absurd n z0, fun _ => ⟨x, B1, k1, 1, B1, kf, fun n => absurd n (by decide), fun _ => ⟨fun n => absurd (by omega) n, fun _ => ?_⟩⟩⟩
          rw [wx]
          exact ⟨fun n => absurd n (by omega), fun _ => ⟨B2, k3, k5⟩⟩
        · rw [if_neg c] at e2
          rw [← e2] at k2
          obtain ⟨B3, k5, k6⟩ := g3.2 S B1 hC k2
          refine ⟨B3, vc_MD_readSevens_4 _ _ ?_, k6⟩
          rw [wi ()]
          refine ⟨fun n => absurd n z0, fun _ => ⟨x, B1, k1, _, B1, kf, fun _ => k5, fun _ => ⟨fun _ => k5, fun y => ?_⟩⟩⟩
          rw [wx]
          exact ⟨fun _ => k5, fun n => absurd ⟨by omega, by omega⟩ c⟩
    by_cases cb : 128 ≤ x
    · obtain ⟨z, st', g1, g2, g3, g4⟩ := ih (i + 1) v' s2 (by omega) hr2 hv'
      rw [ek, ev'] at g3 g4
      by_cases cr : s2.1 = 0
      · refine hd z st' g1 g2 ⟨fun S A o hC h => ?_, fun S B hC h => ?_⟩
        · obtain ⟨A', k1, k2⟩ := g3 S A o hC h
          refine ⟨A', vc_Source_takeSevens_33 _ _ _ ?_, k2⟩
          rw [h.2.1.2.1, w2, wx, wm]
          exact ⟨fun n => absurd cr n, fun _ => ⟨fun _ => k1, fun n => absurd cb n⟩⟩
        · obtain ⟨B', k1, k2⟩ := g4 S B hC h
          refine ⟨B', vc_MD_readSevens_40 _ _ _ ?_, k2⟩
          rw [wx, wm]
          exact ⟨fun _ => k1, fun n => absurd cb n⟩
      · -- a rule is told: it was 51, at the fifth octet
        have i4 : i = 4 := by
          apply Classical.byContradiction
          intro n
          rw [if_neg (by omega)] at e2
          have := x0 (by rw [← e2]; exact cr)
          omega
        refine hd v' s2 ⟨hr2, Fw_r s2⟩ hv' ⟨fun S A o hC h => ⟨A, vc_Source_takeSevens_33 _ _ _ ?_, h⟩, fun S B hC h => ⟨B, vc_MD_readSevens_40 _ _ _ ?_, h⟩⟩
        · rw [h.2.1.2.1, w2, wm, ev']
          exact ⟨fun _ => ⟨rfl, rfl⟩, fun n => absurd cr n⟩
        · rw [wx, wm, ← ev', i4]
          exact ⟨fun _ => vc_MD_readSevens_4 _ _ ⟨fun _ => ⟨rfl, rfl⟩, fun n => absurd (by decide) n⟩, fun n => absurd cb n⟩
    · refine hd v' s2 ⟨hr2, Fw_r s2⟩ hv' ⟨fun S A o hC h => ⟨A, vc_Source_takeSevens_33 _ _ _ ?_, h⟩, fun S B hC h => ⟨B, vc_MD_readSevens_40 _ _ _ ?_, h⟩⟩
      · rw [h.2.1.2.1, w2, wx, wm, ev']
        exact ⟨fun _ => ⟨rfl, rfl⟩, fun _ => ⟨fun n => absurd n cb, fun _ => ⟨rfl, rfl⟩⟩⟩
      · rw [wx, wm, ev']
        exact ⟨fun n => absurd n cb, fun _ => ⟨rfl, rfl⟩⟩
end Reader3
