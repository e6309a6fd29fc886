/-! pack: SORTED; last octets, signs -/
section PSig
variable {q : Nat × (Nat → Int32)} {n : Nat} {u : Nat → Int}
/-- is v among the first k -/
def prF (u : Nat → Int) : Nat → Int → Int
  | 0, _ => 0
  | k + 1, v => if u k = v then 1 else prF u k v
theorem prF_s (u : Nat → Int) (k : Nat) (v : Int) : prF u (k + 1) v = if u k = v then 1 else prF u k v := rfl
theorem prF_01 (u : Nat → Int) (v : Int) : ∀ k : Nat, prF u k v = 0 ∨ prF u k v = 1
  | 0 => Or.inl rfl
  | k + 1 => by
    rw [prF_s]
    split
    · exact Or.inr rfl
    · exact prF_01 u v k
theorem prF_1 {u : Nat → Int} {v : Int} : ∀ {k : Nat}, prF u k v = 1 ↔ ∃ i : Nat, i < k ∧ u i = v
  | 0 => ⟨fun y => absurd y (by show ¬ (0 : Int) = 1; decide), fun ⟨i, h, _⟩ => absurd h (by omega)⟩
  | k + 1 => by
    rw [prF_s]
    by_cases e : u k = v
    · rw [if_pos e]
      exact ⟨fun _ => ⟨k, by omega, e⟩, fun _ => rfl⟩
    · rw [if_neg e, prF_1]
      refine ⟨fun ⟨i, h1, h2⟩ => ⟨i, by omega, h2⟩, fun ⟨i, h1, h2⟩ => ?_⟩
      by_cases c : i = k
      · rw [c] at h2; exact absurd h2 e
      · exact ⟨i, by omega, h2⟩
theorem prF_p {w : Nat → Int} {f : Nat → Nat} (hf : Pmu n f) (hw : ∀ i : Nat, i < n → w i = u (f i)) (v : Int) : prF w n v = prF u n v := by
  have key : prF w n v = 1 ↔ prF u n v = 1 := by
    rw [prF_1, prF_1]
    refine ⟨fun ⟨i, h1, h2⟩ => ⟨f i, hf.1 i h1, by rw [← hw i h1]; exact h2⟩, fun ⟨a, h1, h2⟩ => ?_⟩
    obtain ⟨i, i1, i2⟩ := hf.2 a h1
    exact ⟨i, i1, by rw [hw i i1, i2]; exact h2⟩
  rcases prF_01 w v n with a | a
  · rcases prF_01 u v n with b | b
    · rw [a, b]
    · have := key.2 b; omega
  · have := key.1 a
    rw [a, this]
/-- the place before -/
def laF (n a : Nat) : Nat := if a = 0 then n - 1 else a - 1
theorem laF_m {a : Nat} (ha : a < n) : laF n a < n ∧ (a + n - 1) % n = laF n a := by
  unfold laF
  by_cases c : a = 0
  · rw [if_pos c, c, Nat.mod_eq_of_lt (by omega)]
    omega
  · rw [if_neg c, show a + n - 1 = a - 1 + n by omega, Nat.add_mod_right, Nat.mod_eq_of_lt (by omega)]
    omega
theorem laF_p {R : Nat → Nat} (hR : Pmu n R) : Pmu n (fun i => laF n (R i)) := Pmu_of (fun i hi => (laF_m (hR.1 i hi)).1) (fun i j hij hj e => by
  have a := hR.1 i (by omega)
  have b := hR.1 j hj
  have e' : laF n (R i) = laF n (R j) := e
  unfold laF at e'
  have : R i = R j := by
    split at e' <;> split at e' <;> omega
  have := Pmu_i hR (by omega) hj this
  omega)
theorem cl_last {R : Nat → Nat} {a1 na1 o0 : Nat} (ha : isRow a1 na1) (hn : n ≤ 2500) (hu : ∀ i : Nat, i < n → 0 ≤ u i ∧ u i < 256) (hR : Pmu n R) (h0 : o0 < n ∧ R o0 = 0) : ∀ (v i : Nat) (A : ms), i + v = n → A.1 94 1 = n → (∀ j : Nat, j < n → A.1 96 j = R j) → (∀ j : Nat, j < n → A.1 95 j = u j) → (∀ j : Nat, j < i → A.1 101 j = u (laF n (R j))) → ∃ A', EX (fun a _ => a = 101) A A' ∧ (∀ j : Nat, j < n → A'.1 101 j = u (laF n (R j))) ∧ ∀ (Q : Option Value) (S' : ms), EV q 99 4 [some (.ref 94), some (.ref a1), some (vI o0), some (vI n)] [] A' Q S' → EV q 99 4 [some (.ref 94), some (.ref a1), some (vI ((if o0 < i then o0 else 0 : Nat) : Int)), some (vI i)] [] A Q S' := by
  have wn : Unit → w32 (n : Int) = n := fun _ => w32_of (by omega)
  intro v
  induction v with
  | zero =>
    intro i A hi h1 h6 h5 h
    have e : i = n := by omega
    subst e
    rw [if_pos h0.1]
    exact ⟨A, EX.refl _ A, h, fun Q S' k => k⟩
  | succ v ih =>
    intro i A hi h1 h6 h5 h
    have wi : Unit → w32 (i : Int) = i := fun _ => w32_of (by omega)
    have ri := hR.1 i (by omega)
    have li := (laF_m ri).1
    obtain ⟨A1, e1⟩ : ∃ A1, A1 = wI A 101 i (u (laF n (R i))) := ⟨_, rfl⟩
    have e16 : A1.1 96 i = R i := by rw [e1, wI_no _ (by omega)]; exact h6 i (by omega)
    obtain ⟨A', g1, g2, g3⟩ := ih (i + 1) A1 (by omega) (by rw [e1, wI_no _ (by omega)]; exact h1) (fun j hj => by rw [e1, wI_no _ (by omega)]; exact h6 j hj) (fun j hj => by rw [e1, wI_no _ (by omega)]; exact h5 j hj) (fun j hj => by
      by_cases e : j = i
      · rw [e, e1, wI_at]
      · rw [e1, wI_no _ (by omega)]
        exact h j (by omega))
    refine ⟨A', EX.trans (by rw [e1]; exact (EX.refl _ A).wr rfl) g1, g2, fun Q S' k => vc_Sorted_lastOctets_4 _ _ _ _ ha ?_⟩
    have g4 := g3 Q S' k
    rw [show ((i + 1 : Nat) : Int) = (i : Int) + 1 by omega] at g4
    have k47 : EV q 99 47 [some (.ref 94), some (.ref a1), some (vI ((if o0 < i then o0 else 0 : Nat) : Int)), some (vI i)] [vI (laF n (R i)), .ref 95, vI i, .ref 101] A Q S' := by
      refine vc_Sorted_lastOctets_47 _ _ _ _ _ _ ha ?_
      rw [show w32 (laF n (R i) : Int) = laF n (R i) from w32_of (by omega), wi (), h5 _ li]
      refine ⟨by omega, by omega, fun S3 q3 => ?_⟩
      rw [← e1] at q3
      rw [q3, e16, show w32 (R i : Int) = R i from w32_of (by omega)]
      refine ⟨by omega, ?_⟩
      by_cases c : R i = 0
      · have ei : o0 = i := Pmu_i hR h0.1 (by omega) (by rw [h0.2, c])
        rw [if_pos (by omega), ei] at g4
        exact cNo (fun y => y (by omega)) (vc_Sorted_lastOctets_60 _ _ _ _ ha g4)
      · have ei : o0 ≠ i := fun y => c (by rw [← y]; exact h0.2)
        have ef : (if o0 < i + 1 then o0 else 0) = if o0 < i then o0 else 0 := by
          by_cases d : o0 < i
          · rw [if_pos d, if_pos (by omega)]
          · rw [if_neg d, if_neg (by omega)]
        rw [ef] at g4
        exact cY (by omega) (vc_Sorted_lastOctets_60 _ _ _ _ ha g4)
    rw [h1, wn (), wi (), h6 i (by omega), show w32 (R i : Int) = R i from w32_of (by omega)]
    refine cNo (by omega) ⟨by omega, ?_⟩
    unfold laF at k47
    by_cases c : R i = 0
    · rw [if_pos c, show ((n - 1 : Nat) : Int) = (n : Int) - 1 by omega] at k47
      exact cNo (fun y => y (by omega)) k47
    · rw [if_neg c, show ((R i - 1 : Nat) : Int) = (R i : Int) - 1 by omega] at k47
      exact cY (by omega) ⟨by omega, k47⟩
theorem md_last {R : Nat → Nat} {o0 : Nat} {B : ms} (hn : n ≤ 2500) (hR : Pmu n R) (h0 : o0 < n ∧ R o0 = 0) (h1 : B.1 367 66 = n) (h7 : ∀ j : Nat, j < n → B.1 407 j = R j) {Q : Option Value} {S' : ms} : ∀ (v i : Nat), i + v = n → EV q 321 4 [some (.ref 367), some (vI o0), some (vI n), none, none, none, none] [] B Q S' → EV q 321 4 [some (.ref 367), some (vI ((if o0 < i then o0 else 0 : Nat) : Int)), some (vI i), none, none, none, none] [] B Q S' := by
  have wn : Unit → w32 (n : Int) = n := fun _ => w32_of (by omega)
  intro v
  induction v with
  | zero =>
    intro i hi k
    have e : i = n := by omega
    subst e
    rw [if_pos h0.1]
    exact k
  | succ v ih =>
    intro i hi k
    have ri := hR.1 i (by omega)
    have g4 := ih (i + 1) (by omega) k
    rw [show ((i + 1 : Nat) : Int) = (i : Int) + 1 by omega] at g4
    refine vc_MD_writeSorted_4 _ _ ?_
    rw [h1, wn (), show w32 (i : Int) = i from w32_of (by omega), h7 i (by omega), show w32 (R i : Int) = R i from w32_of (by omega)]
    refine cNo (by omega) ⟨by omega, ?_⟩
    by_cases c : R i = 0
    · have ei : o0 = i := Pmu_i hR h0.1 (by omega) (by rw [h0.2, c])
      rw [if_pos (by omega), ei] at g4
      exact cNo (fun y => y (by omega)) (vc_MD_writeSorted_26 _ _ _ g4)
    · have ei : o0 ≠ i := fun y => c (by rw [← y]; exact h0.2)
      have ef : (if o0 < i + 1 then o0 else 0) = if o0 < i then o0 else 0 := by
        by_cases d : o0 < i
        · rw [if_pos d, if_pos (by omega)]
        · rw [if_neg d, if_neg (by omega)]
      rw [ef] at g4
      exact cY (by omega) (vc_MD_writeSorted_26 _ _ _ g4)
/-- the signs below k, in their order -/
def sgS (pr : Int → Int) : Nat → Rst
  | 0 => (0, fun _ => 0)
  | v + 1 => if pr v = 1 then rPut v (sgS pr v) else sgS pr v
theorem sgS_s (pr : Int → Int) (v : Nat) : sgS pr (v + 1) = if pr v = 1 then rPut v (sgS pr v) else sgS pr v := rfl
theorem sgS_m (pr : Int → Int) : ∀ k : Nat, (sgS pr k).1 ≤ k ∧ (∀ j : Nat, j < (sgS pr k).1 → (0 ≤ (sgS pr k).2 j ∧ (sgS pr k).2 j < k) ∧ pr ((sgS pr k).2 j) = 1) ∧ ∀ v : Nat, v < k → pr v = 1 → ∃ j : Nat, j < (sgS pr k).1 ∧ (sgS pr k).2 j = v
  | 0 => ⟨Nat.le_refl _, fun j hj => absurd hj (by show ¬ j < 0; omega), fun v hv => absurd hv (by omega)⟩
  | k + 1 => by
    obtain ⟨h1, h2, h3⟩ := sgS_m pr k
    rw [sgS_s]
    obtain ⟨s, es⟩ : ∃ s, s = sgS pr k := ⟨_, rfl⟩
    rw [← es] at h1 h2 h3 ⊢
    by_cases c : pr k = 1
    · rw [if_pos c]
      refine ⟨by show s.1 + 1 ≤ k + 1; omega, fun j hj => ?_, fun v hv hp => ?_⟩
      · have hj' : j < s.1 + 1 := hj
        have e : (rPut k s).2 j = if j = s.1 then (k : Int) else s.2 j := rfl
        rw [e]
        by_cases d : j = s.1
        · rw [if_pos d]; exact ⟨by omega, c⟩
        · rw [if_neg d]
          have := h2 j (by omega)
          exact ⟨by omega, this.2⟩
      · by_cases d : v = k
        · exact ⟨s.1, by show s.1 < s.1 + 1; omega, by show (if s.1 = s.1 then (k : Int) else s.2 s.1) = v; rw [if_pos rfl, d]⟩
        · obtain ⟨j, j1, j2⟩ := h3 v (by omega) hp
          exact ⟨j, by show j < s.1 + 1; omega, by show (if j = s.1 then (k : Int) else s.2 j) = v; rw [if_neg (by omega)]; exact j2⟩
    · rw [if_neg c]
      refine ⟨by omega, fun j hj => by have := h2 j hj; exact ⟨by omega, this.2⟩, fun v hv hp => ?_⟩
      by_cases d : v = k
      · rw [d] at hp; exact absurd hp c
      · exact h3 v (by omega) hp
/-- which sixteens have a sign -/
def sxN (pr : Int → Int) : Nat → Nat
  | 0 => 0
  | v + 1 => if pr v = 1 then sxN pr v ||| 2 ^ (15 - v / 16) else sxN pr v
theorem sxN_s (pr : Int → Int) (v : Nat) : sxN pr (v + 1) = if pr v = 1 then sxN pr v ||| 2 ^ (15 - v / 16) else sxN pr v := rfl
theorem sxN_b (pr : Int → Int) : ∀ k : Nat, k ≤ 256 → sxN pr k < 2 ^ 16 ∧ ∀ s : Nat, s < 16 → ((sxN pr k).testBit (15 - s) = true ↔ ∃ v : Nat, v < k ∧ v / 16 = s ∧ pr v = 1)
  | 0, _ => ⟨by show (0 : Nat) < 2 ^ 16; decide, fun s hs => ⟨fun y => by rw [show sxN pr 0 = 0 from rfl, Nat.zero_testBit] at y; exact absurd y (by decide), fun ⟨v, h, _⟩ => absurd h (by omega)⟩⟩
  | k + 1, hk => by
    obtain ⟨h1, h2⟩ := sxN_b pr k (by omega)
    rw [sxN_s]
    by_cases c : pr k = 1
    · rw [if_pos c]
      refine ⟨Nat.or_lt_two_pow h1 (Nat.pow_lt_pow_right (by decide) (by omega)), fun s hs => ?_⟩
      rw [Nat.testBit_or, Bool.or_eq_true, h2 s hs, Nat.testBit_two_pow, decide_eq_true_iff]
      refine ⟨fun y => ?_, fun ⟨v, v1, v2, v3⟩ => ?_⟩
      · rcases y with ⟨v, v1, v2, v3⟩ | y
        · exact ⟨v, by omega, v2, v3⟩
        · exact ⟨k, by omega, by omega, c⟩
      · by_cases d : v = k
        · right
          rw [d] at v2
          omega
        · exact Or.inl ⟨v, by omega, v2, v3⟩
    · rw [if_neg c]
      refine ⟨h1, fun s hs => ?_⟩
      rw [h2 s hs]
      refine ⟨fun ⟨v, v1, v2, v3⟩ => ⟨v, by omega, v2, v3⟩, fun ⟨v, v1, v2, v3⟩ => ?_⟩
      by_cases d : v = k
      · rw [d] at v3; exact absurd v3 c
      · exact ⟨v, by omega, v2, v3⟩
theorem nat_bit (X k : Nat) : (X : Int) / (2 : Int) ^ k % 2 = ((X / 2 ^ k % 2 : Nat) : Int) := by
  rw [Int.natCast_emod, Int.natCast_ediv, Int.natCast_pow]
  try rfl
/-- has the s-th sixteen a sign -/
def gbF (pr : Int → Int) (s : Nat) : Int := if (sxN pr 256).testBit (15 - s) = true then 1 else 0
theorem gbF_1 {pr : Int → Int} {s : Nat} (hs : s < 16) : (gbF pr s = 0 ∨ gbF pr s = 1) ∧ (gbF pr s = 1 ↔ ∃ v : Nat, v < 256 ∧ v / 16 = s ∧ pr v = 1) ∧ ((sxN pr 256 : Nat) : Int) / (2 : Int) ^ (15 - s) % 2 = gbF pr s := by
  have b := (sxN_b pr 256 (Nat.le_refl _)).2 s hs
  have t := Nat.testBit_eq_decide_div_mod_eq (x := sxN pr 256) (i := 15 - s)
  have cst : ((sxN pr 256 : Nat) : Int) / (2 : Int) ^ (15 - s) % 2 = ((sxN pr 256 / 2 ^ (15 - s) % 2 : Nat) : Int) := nat_bit _ _
  rw [cst]
  unfold gbF
  by_cases c : (sxN pr 256).testBit (15 - s) = true
  · rw [if_pos c]
    rw [c] at t
    have t' := decide_eq_true_iff.1 t.symm
    exact ⟨Or.inr rfl, ⟨fun _ => b.1 c, fun _ => rfl⟩, by omega⟩
  · rw [if_neg c]
    have cf : (sxN pr 256).testBit (15 - s) = false := by
      cases h : (sxN pr 256).testBit (15 - s) with
      | true => exact absurd h c
      | false => rfl
    rw [cf] at t
    have t' := decide_eq_false_iff_not.1 t.symm
    exact ⟨Or.inl rfl, ⟨fun y => absurd y (by decide), fun y => absurd (b.2 y) c⟩, by omega⟩
end PSig
