/-! pack: SORTED; the class sorts the rotations -/
section PSrc
variable {q : Nat × (Nat → Int32)} {n : Nat} {u : Nat → Int}
def beF (n h a : Nat) : Nat := if a + h < n then a + h else a + h - n
theorem beF_r {h a : Nat} (ha : a < n) (hh : h < n ∨ h = 0) : beF n h a < n ∧ beF n h a = (a + h) % n := by
  unfold beF
  by_cases c : a + h < n
  · rw [if_pos c, Nat.mod_eq_of_lt c]
    exact ⟨c, rfl⟩
  · rw [if_neg c, Nat.mod_eq_sub_mod (by omega), Nat.mod_eq_of_lt (by omega)]
    exact ⟨by omega, rfl⟩
theorem cl_be {A : ms} {h a : Nat} (hn : n ≤ 2500) (hh : h ≤ 2500) (ha : a < n) (h1 : A.1 94 1 = n) : EV q 97 0 [some (.ref 94), some (vI a), some (vI h)] [] A (some (vI (beF n h a))) A := by
  refine vc_Sorted_behind _ _ ?_
  rw [h1, show w32 (n : Int) = n from w32_of (by omega), w32_of (x := (a : Int) + h) (by omega)]
  unfold beF
  by_cases c : a + h < n
  · rw [if_pos c]
    exact cNo (by omega) ⟨by rw [show ((a + h : Nat) : Int) = (a : Int) + h by omega], rfl⟩
  · rw [if_neg c]
    exact cY (by omega) ⟨by rw [show ((a + h - n : Nat) : Int) = (a : Int) + h - n by omega], rfl⟩
theorem cl_rka {rk : Nat → Int} {od : Nat → Nat} {h : Nat} (hn : 1 ≤ n ∧ n ≤ 2500) (hh : h < n ∨ h = 0) (hr : ∀ a : Nat, a < n → 0 ≤ rk a ∧ rk a < 2500) (ho : Pmu n od) : ∀ (v p : Nat) (A : ms), p + v = n → A.1 94 1 = n → (∀ i : Nat, i < n → A.1 96 i = od i) → (∀ a : Nat, a < n → A.1 98 a = rk a) → (∀ i : Nat, i < p → A.1 99 (od i) = dnF rk (beF n h) od i) → ∃ A', EX (fun a _ => a = 98 ∨ a = 99) A A' ∧ (∀ i : Nat, i < n → A'.1 98 (od i) = dnF rk (beF n h) od i) ∧ EV q 96 4 [some (.ref 94), some (vI h), some (vI (dnF rk (beF n h) od (p - 1))), some (vI p)] [] A (some (vI ((dnF rk (beF n h) od (n - 1) : Int) + 1))) A' := by
  have wn : Unit → w32 (n : Int) = n := fun _ => w32_of (by omega)
  have w0 : w32 0 = 0 := by decide
  intro v
  induction v with
  | zero =>
    intro p A hp h1 h6 h8 h9
    have e : p = n := by omega
    subst e
    refine ⟨wC A 98 0 p (fun k => A.1 99 (0 + k)), ⟨rfl, fun a k y => ?_⟩, fun i hi => ?_, vc_Sorted_rankAnew_4 _ _ _ ?_⟩
    · rw [rI_C, if_neg (fun z => y (Or.inl z.1))]
    · have oi := ho.1 i hi
      rw [rI_C, if_pos ⟨rfl, by omega, by omega⟩, show (0 : Int) + ((od i : Int) - 0) = od i by omega]
      exact h9 i hi
    · rw [h1, wn (), w0]
      exact cY (Int.le_refl _) ⟨by omega, fun S2 q2 => ⟨rfl, q2.symm ▸ rfl⟩⟩
  | succ v ih =>
    intro p A hp h1 h6 h8 h9
    have op := ho.1 p (by omega)
    have dl := dnF_le rk (beF n h) od p
    have wo : Unit → w32 (od p : Int) = od p := fun _ => w32_of (by omega)
    obtain ⟨A1, e1⟩ : ∃ A1, A1 = wI A 99 (od p) (dnF rk (beF n h) od p) := ⟨_, rfl⟩
    obtain ⟨A', g1, g2, g3⟩ := ih (p + 1) A1 (by omega) (by rw [e1, wI_no _ (by omega)]; exact h1) (fun i hi => by rw [e1, wI_no _ (by omega)]; exact h6 i hi) (fun i hi => by rw [e1, wI_no _ (by omega)]; exact h8 i hi) (fun i hi => by
      by_cases e : i = p
      · rw [e, e1, wI_at]
      · rw [e1, wI_no _ (fun z => e (Pmu_i ho (by omega) (by omega) (by have := z.2; omega)))]
        exact h9 i (by omega))
    rw [show p + 1 - 1 = p by omega, show ((p + 1 : Nat) : Int) = (p : Int) + 1 by omega] at g3
    have k83 : EV q 96 83 [some (.ref 94), some (vI h), some (vI (dnF rk (beF n h) od p)), some (vI p)] [] A (some (vI ((dnF rk (beF n h) od (n - 1) : Int) + 1))) A' := by
      refine vc_Sorted_rankAnew_83 _ _ _ ?_
      rw [show w32 (p : Int) = p from w32_of (by omega), h6 p (by omega), wo ()]
      exact ⟨by omega, by omega, fun S3 q3 => by rw [q3, ← e1]; exact g3⟩
    refine ⟨A', EX.trans (by rw [e1]; exact (EX.refl _ A).wr (Or.inr rfl)) g1, g2, vc_Sorted_rankAnew_4 _ _ _ ?_⟩
    rw [h1, wn (), show w32 (p : Int) = p from w32_of (by omega)]
    refine cNo (by omega) ?_
    by_cases c0 : p = 0
    · subst c0
      exact cY (by decide) k83
    · obtain ⟨p', ep⟩ : ∃ p', p = p' + 1 := ⟨p - 1, by omega⟩
      subst ep
      have oq := ho.1 p' (by omega)
      have r1 := hr (od (p' + 1)) op
      have r2 := hr (od p') oq
      have b1 := beF_r (n := n) (h := h) op hh
      have b2 := beF_r (n := n) (h := h) oq hh
      have r3 := hr _ b1.1
      have r4 := hr _ b2.1
      rw [show p' + 1 - 1 = p' by omega]
      rw [dnF_s] at k83
      rw [show ((p' + 1 : Nat) : Int) - 1 = p' by omega, show w32 (p' : Int) = p' from w32_of (by omega), h6 (p' + 1) (by omega), h6 p' (by omega), wo (), show w32 (od p' : Int) = od p' from w32_of (by omega), h8 _ op, h8 _ oq, w32_of (x := rk (od (p' + 1))) (by omega), w32_of (x := rk (od p')) (by omega)]
      refine cNo (by omega) ⟨by omega, by omega, by omega, by omega, ?_⟩
      have k80 : ¬ eq2 rk (beF n h) (od (p' + 1)) (od p') → EV q 96 80 [some (.ref 94), some (vI h), some (vI (dnF rk (beF n h) od p')), some (vI ((p' + 1 : Nat) : Int))] [] A (some (vI ((dnF rk (beF n h) od (n - 1) : Int) + 1))) A' := fun y => by
        rw [if_neg (fun z => y (eq2_d.1 z)), show ((dnF rk (beF n h) od p' + 1 : Nat) : Int) = (dnF rk (beF n h) od p' : Int) + 1 by omega] at k83
        exact vc_Sorted_rankAnew_80 _ _ _ k83
      by_cases c1 : rk (od (p' + 1)) = rk (od p')
      · refine cNN c1 ⟨by omega, _, A, cl_be (h := h) hn.2 (by omega) op h1, ?_⟩
        rw [show w32 (beF n h (od (p' + 1)) : Int) = beF n h (od (p' + 1)) from w32_of (by omega), h6 p' (by omega)]
        refine ⟨by omega, by omega, _, A, cl_be (h := h) hn.2 (by omega) oq h1, ?_⟩
        rw [show w32 (beF n h (od p') : Int) = beF n h (od p') from w32_of (by omega), h8 _ b1.1, h8 _ b2.1, w32_of (x := rk (beF n h (od (p' + 1)))) (by omega), w32_of (x := rk (beF n h (od p'))) (by omega)]
        refine ⟨by omega, ?_⟩
        by_cases c2 : rk (beF n h (od (p' + 1))) = rk (beF n h (od p'))
        · rw [if_pos (eq2_d.2 ⟨c1, c2⟩)] at k83
          exact cY c2 k83
        · exact cNo c2 (k80 (fun y => c2 y.2))
      · exact cY c1 (k80 (fun y => c1 y.1))
/-- new ranks: they tell the order by two keys -/
theorem cl_ra {rk : Nat → Int} {od : Nat → Nat} {h : Nat} (hn : 1 ≤ n ∧ n ≤ 2500) (hh : h < n ∨ h = 0) (hr : ∀ a : Nat, a < n → 0 ≤ rk a ∧ rk a < 2500) (ho : Pmu n od) (hs : ∀ p : Nat, p + 1 < n → ¬ lt2 rk (beF n h) (od (p + 1)) (od p)) {A : ms} (h1 : A.1 94 1 = n) (h6 : ∀ i : Nat, i < n → A.1 96 i = od i) (h8 : ∀ a : Nat, a < n → A.1 98 a = rk a) : ∃ (A' : ms) (rk' : Nat → Int) (M : Nat), EX (fun a _ => a = 98 ∨ a = 99) A A' ∧ (∀ a : Nat, a < n → A'.1 98 a = rk' a) ∧ (1 ≤ M ∧ M ≤ n) ∧ (∀ a : Nat, a < n → 0 ≤ rk' a ∧ rk' a < M) ∧ (∀ a b : Nat, a < n → b < n → (rk' a < rk' b ↔ lt2 rk (beF n h) a b)) ∧ (M = n → ∀ a b : Nat, a < n → b < n → rk' a = rk' b → a = b) ∧ EV q 96 0 [some (.ref 94), some (vI h), none, none] [] A (some (vI M)) A' := by
  obtain ⟨A', g1, g2, g3⟩ := cl_rka (q := q) hn hh hr ho n 0 A (by omega) h1 h6 h8 (fun i hi => absurd hi (by omega))
  obtain ⟨d, ed⟩ : ∃ d, d = dnF rk (beF n h) od := ⟨_, rfl⟩
  rw [← ed] at g2 g3
  have kk : ∀ p r : Nat, p ≤ r → r < n → (d p = d r ∧ eq2 rk (beF n h) (od p) (od r)) ∨ (d p < d r ∧ lt2 rk (beF n h) (od p) (od r)) := fun p r hpr hr' => by
    have := dn_k (n := n) (rk := rk) (be := beF n h) (od := od) hs (r - p) p (by omega)
    rw [show p + (r - p) = r by omega, ← ed] at this
    exact this
  have dle : ∀ p : Nat, d p ≤ p := fun p => by rw [ed]; exact dnF_le _ _ _ p
  refine ⟨A', fun a => A'.1 98 a, d (n - 1) + 1, g1, fun a _ => rfl, ⟨by omega, by have := dle (n - 1); omega⟩, fun a ha => ?_, fun a b ha hb => ?_, fun hM a b ha hb e => ?_, vc_Sorted_rankAnew _ ?_⟩
  · obtain ⟨p, p1, p2⟩ := ho.2 a ha
    show 0 ≤ A'.1 98 a ∧ A'.1 98 a < _
    rw [← p2, g2 p p1]
    have := kk p (n - 1) (by omega) (by omega)
    rcases this with y | y <;> omega
  · obtain ⟨p, p1, p2⟩ := ho.2 a ha
    obtain ⟨r, r1, r2⟩ := ho.2 b hb
    show A'.1 98 a < A'.1 98 b ↔ _
    rw [← p2, ← r2, g2 p p1, g2 r r1]
    by_cases c : p ≤ r
    · rcases kk p r c r1 with ⟨y1, y2⟩ | ⟨y1, y2⟩
      · exact ⟨fun z => by omega, fun z => by unfold eq2 at y2; unfold lt2 at z; omega⟩
      · exact ⟨fun _ => y2, fun _ => by omega⟩
    · rcases kk r p (by omega) p1 with ⟨y1, y2⟩ | ⟨y1, y2⟩
      · exact ⟨fun z => by omega, fun z => by unfold eq2 at y2; unfold lt2 at z; omega⟩
      · exact ⟨fun z => by omega, fun z => by unfold lt2 at y2 z; omega⟩
  · obtain ⟨p, p1, p2⟩ := ho.2 a ha
    obtain ⟨r, r1, r2⟩ := ho.2 b hb
    have e' : A'.1 98 a = A'.1 98 b := e
    rw [← p2, ← r2, g2 p p1, g2 r r1] at e'
    -- each place has its own rank
    have own : ∀ v p : Nat, p + v = n - 1 → p ≤ d p := by
      intro v
      induction v with
      | zero => intro p hp; have e2 : p = n - 1 := by omega
                rw [e2]; omega
      | succ v ih =>
        intro p hp
        have a1 := ih (p + 1) (by omega)
        have a2 : d (p + 1) ≤ d p + 1 := by rw [ed, dnF_s]; split <;> omega
        omega
    have o1 := own (n - 1 - p) p (by omega)
    have o2 := own (n - 1 - r) r (by omega)
    have l1 := dle p
    have l2 := dle r
    have : p = r := by omega
    rw [← p2, ← r2, this]
  · rw [show ((d (n - 1) + 1 : Nat) : Int) = (d (n - 1) : Int) + 1 by omega]
    have e0 : d (0 - 1) = 0 := by rw [ed]; rfl
    rw [e0] at g3
    exact g3
/-- moved one step back -/
theorem cl_mvh {od : Nat → Nat} {h M : Nat} (hn : n ≤ 2500) (hh : h < n) (ho : Pmu n od) : ∀ (v i : Nat) (A : ms), i + v = n → A.1 94 1 = n → (∀ j : Nat, j < n → A.1 96 j = od j) → (∀ j : Nat, j < i → A.1 97 j = ((if od j < h then od j + n - h else od j - h : Nat) : Int)) → ∃ A', EX (fun a _ => a = 97) A A' ∧ (∀ j : Nat, j < n → A'.1 97 j = ((if od j < h then od j + n - h else od j - h : Nat) : Int)) ∧ ∀ (R : Option Value) (S' : ms), EV q 94 68 [some (.ref 94), some (vI M), some (vI h), some (vI n)] [] A' R S' → EV q 94 68 [some (.ref 94), some (vI M), some (vI h), some (vI i)] [] A R S' := by
  have wn : Unit → w32 (n : Int) = n := fun _ => w32_of (by omega)
  intro v
  induction v with
  | zero =>
    intro i A hi h1 h6 h7
    have e : i = n := by omega
    subst e
    exact ⟨A, EX.refl _ A, h7, fun R S' k => k⟩
  | succ v ih =>
    intro i A hi h1 h6 h7
    have oi := ho.1 i (by omega)
    have wi : Unit → w32 (i : Int) = i := fun _ => w32_of (by omega)
    obtain ⟨A', g1, g2, g3⟩ := ih (i + 1) (wI A 97 i ((if od i < h then od i + n - h else od i - h : Nat) : Int)) (by omega) (by rw [wI_no _ (by omega)]; exact h1) (fun j hj => by rw [wI_no _ (by omega)]; exact h6 j hj) (fun j hj => by
      by_cases e : j = i
      · rw [e, wI_at]
      · rw [wI_no _ (by omega)]
        exact h7 j (by omega))
    refine ⟨A', ((EX.refl _ A).wr rfl).trans g1, g2, fun R S' k => vc_Sorted_sortRotations_68 _ _ _ ?_⟩
    have g4 := g3 R S' k
    rw [show ((i + 1 : Nat) : Int) = (i : Int) + 1 by omega] at g4
    rw [h1, wn (), wi (), h6 i (by omega), show w32 (od i : Int) = od i from w32_of (by omega), show w32 (h : Int) = h from w32_of (by omega)]
    refine cNo (by omega) ⟨by omega, ?_⟩
    by_cases c : od i < h
    · rw [if_pos c] at g4
      refine cY (by omega) ⟨by omega, vc_Sorted_sortRotations_115 _ _ _ _ _ ?_⟩
      rw [wi ()]
      refine ⟨by omega, fun S2 q2 => ?_⟩
      rw [q2, show (od i : Int) - h + n = ((od i + n - h : Nat) : Int) by omega]
      exact g4
    · rw [if_neg c] at g4
      refine cNo (by omega) ⟨by omega, vc_Sorted_sortRotations_115 _ _ _ _ _ ?_⟩
      rw [wi ()]
      refine ⟨by omega, fun S2 q2 => ?_⟩
      rw [q2, show (od i : Int) - h = ((od i - h : Nat) : Int) by omega]
      exact g4
theorem cl_mvi {M : Nat} (hn : n ≤ 2500) : ∀ (v i : Nat) (A : ms), i + v = n → A.1 94 1 = n → (∀ j : Nat, j < i → A.1 97 j = j) → ∃ A', EX (fun a _ => a = 97) A A' ∧ (∀ j : Nat, j < n → A'.1 97 j = j) ∧ ∀ (R : Option Value) (S' : ms), EV q 94 142 [some (.ref 94), some (vI M), some (vI n), none] [] A' R S' → EV q 94 142 [some (.ref 94), some (vI M), some (vI i), none] [] A R S' := by
  have wn : Unit → w32 (n : Int) = n := fun _ => w32_of (by omega)
  intro v
  induction v with
  | zero =>
    intro i A hi h1 h7
    have e : i = n := by omega
    subst e
    exact ⟨A, EX.refl _ A, h7, fun R S' k => k⟩
  | succ v ih =>
    intro i A hi h1 h7
    have wi : Unit → w32 (i : Int) = i := fun _ => w32_of (by omega)
    obtain ⟨A', g1, g2, g3⟩ := ih (i + 1) (wI A 97 i i) (by omega) (by rw [wI_no _ (by omega)]; exact h1) (fun j hj => by
      by_cases e : j = i
      · rw [e, wI_at]
      · rw [wI_no _ (by omega)]
        exact h7 j (by omega))
    refine ⟨A', ((EX.refl _ A).wr rfl).trans g1, g2, fun R S' k => vc_Sorted_sortRotations_142 _ _ ?_⟩
    have g4 := g3 R S' k
    rw [show ((i + 1 : Nat) : Int) = (i : Int) + 1 by omega] at g4
    rw [h1, wn (), wi ()]
    exact cNo (by omega) ⟨by omega, fun S4 q4 => by rw [q4]; exact g4⟩
def XSo (a : Nat) (_ : Int) : Prop := 96 ≤ a ∧ a ≤ 100
theorem Pmu_id (n : Nat) : Pmu n (fun i => i) := ⟨fun _ h => h, fun a ha => ⟨a, ha, rfl⟩⟩
theorem cl_sfin {rk : Nat → Int} {M : Nat} (hn : 1 ≤ n ∧ n ≤ 2500) (hM : M ≤ 2500) (hr : ∀ a : Nat, a < n → 0 ≤ rk a ∧ rk a < M) (hk : ∀ a b : Nat, a < n → b < n → (rk a < rk b ↔ ltR u n n a b)) {A : ms} (h1 : A.1 94 1 = n) (h8 : ∀ a : Nat, a < n → A.1 98 a = rk a) : ∃ (A' : ms) (R : Nat → Nat), EX XSo A A' ∧ Srt u n R ∧ (∀ i : Nat, i < n → A'.1 96 i = R i) ∧ ∀ x2 : Int, EV q 94 140 [some (.ref 94), some (vI M), some (vI x2), none] [] A none A' := by
  obtain ⟨A1, a1, a2, a3⟩ := cl_mvi (q := q) (M := M) hn.2 n 0 A (by omega) h1 (fun j hj => absurd hj (by omega))
  obtain ⟨A2, od, b1, ⟨b2, b3⟩, b4, b5⟩ := cl_ord (q := q) (rk := rk) (mv := fun i => i) hM hn.2 hr (Pmu_id n) (A := A1) (by rw [a1.2 94 1 (by decide)]; exact h1) a2 (fun a ha => by rw [a1.2 98 a (by omega)]; exact h8 a ha)
  refine ⟨A2, od, (a1.mono (fun a k y => by unfold XSo; omega)).trans (b1.mono (fun a k y => by unfold XSo; omega)), ⟨b2, fun p r hpr hr' => ?_⟩, b4, fun x2 => vc_Sorted_sortRotations_140 _ _ (a3 none A2 (vc_Sorted_sortRotations_142 _ _ ?_))⟩
  · obtain ⟨i, j, ⟨i1, j1⟩, e1, e2, y⟩ := b3 p r hpr hr'
    rw [e1, e2]
    have y' : rk i < rk j ∨ (rk i = rk j ∧ i < j) := y
    rcases y' with y | ⟨y, z⟩
    · exact Or.inl ((hk i j i1 j1).1 y)
    · refine Or.inr ⟨?_, z⟩
      rcases rot_tri u n i j n with w | w | w
      · have := (hk i j i1 j1).2 w; omega
      · exact w
      · have := (hk j i j1 i1).2 w; omega
  · rw [show A1.1 94 1 = n by rw [a1.2 94 1 (by decide)]; exact h1]
    exact cY (Int.le_refl _) ⟨A2, b5, rfl, rfl⟩
theorem cl_dbl (hn : 1 ≤ n ∧ n ≤ 2500) : ∀ (v h : Nat) (rk : Nat → Int) (od : Nat → Nat) (M : Nat) (A : ms), n ≤ h + v → 1 ≤ h → h ≤ 5000 → (1 ≤ M ∧ M ≤ n) → (∀ a : Nat, a < n → 0 ≤ rk a ∧ rk a < M) → (∀ a b : Nat, a < n → b < n → (rk a < rk b ↔ ltR u n h a b)) → Pmu n od → (∀ p r : Nat, p < r → r < n → ¬ ltR u n h (od r) (od p)) → (M = n → ∀ a b : Nat, a < n → b < n → rk a = rk b → a = b) → A.1 94 1 = n → (∀ i : Nat, i < n → A.1 96 i = od i) → (∀ a : Nat, a < n → A.1 98 a = rk a) → ∃ (A' : ms) (R : Nat → Nat), EX XSo A A' ∧ Srt u n R ∧ (∀ i : Nat, i < n → A'.1 96 i = R i) ∧ EV q 94 50 [some (.ref 94), some (vI M), some (vI h), none] [] A none A' := by
  have wn : Unit → w32 (n : Int) = n := fun _ => w32_of (by omega)
  intro v
  induction v with
  | zero =>
    intro h rk od M A hv h0 h5 hM hr hk ho hs hi h1 h6 h8
    obtain ⟨A', R, g1, g2, g3, g4⟩ := cl_sfin (q := q) (u := u) hn (by omega) hr (fun a b ha hb => by rw [hk a b ha hb, ltR_n (by omega) (by omega)]) h1 h8
    refine ⟨A', R, g1, g2, g3, vc_Sorted_sortRotations_50 _ _ ?_⟩
    rw [h1, wn (), show w32 (h : Int) = h from w32_of (by omega)]
    exact cY (by omega) (g4 _)
  | succ v ih =>
    intro h rk od M A hv h0 h5 hM hr hk ho hs hi h1 h6 h8
    by_cases c1 : n ≤ h
    · obtain ⟨A', R, g1, g2, g3, g4⟩ := cl_sfin (q := q) (u := u) hn (by omega) hr (fun a b ha hb => by rw [hk a b ha hb, ltR_n (by omega) (by omega)]) h1 h8
      refine ⟨A', R, g1, g2, g3, vc_Sorted_sortRotations_50 _ _ ?_⟩
      rw [h1, wn (), show w32 (h : Int) = h from w32_of (by omega)]
      exact cY (by omega) (g4 _)
    · by_cases c2 : n ≤ M
      · have inj := hi (by omega)
        obtain ⟨A', R, g1, g2, g3, g4⟩ := cl_sfin (q := q) (u := u) hn (by omega) hr (fun a b ha hb => by
          rw [hk a b ha hb]
          refine ⟨fun ⟨j, j1, j2, j3⟩ => ⟨j, by omega, j2, j3⟩, fun y => ?_⟩
          rcases rot_tri u n a b h with w | w | w
          · exact w
          · have e : a = b := inj a b ha hb (by
              by_cases d1 : rk a < rk b
              · exact absurd w (ltR_ne ((hk a b ha hb).1 d1)).1
              · by_cases d2 : rk b < rk a
                · exact absurd (eqR_sy w) (ltR_ne ((hk b a hb ha).1 d2)).1
                · omega)
            rw [e] at y
            exact absurd y (ltR_ne y).2
          · obtain ⟨j, j1, j2, j3⟩ := w
            exact absurd ⟨j, by omega, j2, j3⟩ (ltR_ne y).2) h1 h8
        refine ⟨A', R, g1, g2, g3, vc_Sorted_sortRotations_50 _ _ ?_⟩
        rw [h1, wn (), show w32 (h : Int) = h from w32_of (by omega), show w32 (M : Int) = M from w32_of (by omega)]
        exact cNo (by omega) (cY (by omega) (g4 _))
      · -- one step more
        obtain ⟨mv, emv⟩ : ∃ mv : Nat → Nat, ∀ i, mv i = if od i < h then od i + n - h else od i - h := ⟨_, fun _ => rfl⟩
        have mvb : ∀ i : Nat, i < n → mv i < n ∧ (mv i + h) % n = od i := fun i hi' => by
          have oi := ho.1 i hi'
          rw [emv]
          by_cases d : od i < h
          · rw [if_pos d, show od i + n - h + h = od i + n by omega, Nat.add_mod_right, Nat.mod_eq_of_lt oi]
            exact ⟨by omega, rfl⟩
          · rw [if_neg d, show od i - h + h = od i by omega, Nat.mod_eq_of_lt oi]
            exact ⟨by omega, rfl⟩
        have hmv : Pmu n mv := Pmu_of (fun i hi' => (mvb i hi').1) (fun i j hij hj e => by
          have a := (mvb i (by omega)).2
          have b := (mvb j hj).2
          rw [e, b] at a
          have := Pmu_i ho hj (by omega) a
          omega)
        obtain ⟨A1, a1, a2, a3⟩ := cl_mvh (q := q) (M := M) (h := h) hn.2 (by omega) ho n 0 A (by omega) h1 h6 (fun j hj => absurd hj (by omega))
        obtain ⟨A2, od', b1, ⟨b2, b3⟩, b4, b5⟩ := cl_ord (q := q) (rk := rk) (mv := mv) (M := M) (by omega) hn.2 hr hmv (A := A1) (by rw [a1.2 94 1 (by decide)]; exact h1) (fun j hj => by rw [a2 j hj, emv]) (fun a ha => by rw [a1.2 98 a (by omega)]; exact h8 a ha)
        have eqk : ∀ a b : Nat, a < n → b < n → (rk a = rk b ↔ eqR u n h a b) := fun a b ha hb => by
          rcases rot_tri u n a b h with w | w | w
          · have := (hk a b ha hb).2 w
            exact ⟨fun y => by omega, fun y => absurd y (ltR_ne w).1⟩
          · refine ⟨fun _ => w, fun _ => ?_⟩
            by_cases d1 : rk a < rk b
            · exact absurd w (ltR_ne ((hk a b ha hb).1 d1)).1
            · by_cases d2 : rk b < rk a
              · exact absurd (eqR_sy w) (ltR_ne ((hk b a hb ha).1 d2)).1
              · omega
          · have := (hk b a hb ha).2 w
            exact ⟨fun y => by omega, fun y => absurd (eqR_sy y) (ltR_ne w).1⟩
        have bem : ∀ a : Nat, a < n → beF n h a < n ∧ beF n h a = (a + h) % n := fun a ha => beF_r ha (Or.inl (by omega))
        have two : ∀ a b : Nat, a < n → b < n → (lt2 rk (beF n h) a b ↔ ltR u n (h + h) a b) := fun a b ha hb => by
          have ba := bem a ha
          have bb := bem b hb
          unfold lt2
          rw [ltR_2, ← ba.2, ← bb.2, hk a b ha hb, eqk a b ha hb, hk _ _ ba.1 bb.1]
        have srt : ∀ p r : Nat, p < r → r < n → ¬ ltR u n (h + h) (od' r) (od' p) := fun p r hpr hr' y => by
          obtain ⟨i, j, ⟨i1, j1⟩, e1, e2, z⟩ := b3 p r hpr hr'
          rw [e1, e2, ltR_2, (mvb i i1).2, (mvb j j1).2] at y
          have m1 := (mvb i i1).1
          have m2 := (mvb j j1).1
          rcases y with y | ⟨y, w⟩
          · have := (hk _ _ m2 m1).2 y
            omega
          · have e := (eqk _ _ m2 m1).2 y
            rcases z with z | z
            · omega
            · exact hs i j z.2 j1 w
        obtain ⟨A3, rk', M', c3, c4, c5, c6, c7, c8, c9⟩ := cl_ra (q := q) (h := h) hn (Or.inl (by omega)) (fun a ha => by have := hr a ha; omega) b2 (fun p hp y => srt p (p + 1) (by omega) hp ((two _ _ (b2.1 _ hp) (b2.1 _ (by omega))).1 y)) (A := A2) (by rw [b1.2 94 1 (by decide), a1.2 94 1 (by decide)]; exact h1) b4 (fun a ha => by rw [b1.2 98 a (by omega), a1.2 98 a (by omega)]; exact h8 a ha)
        have at3 : ∀ (a : Nat) (k : Int), ¬ XSo a k → A3.1 a k = A.1 a k := fun a k y => by unfold XSo at y; rw [c3.2 a k (by omega), b1.2 a k (by omega), a1.2 a k (by omega)]
        obtain ⟨A', R, g1, g2, g3, g4⟩ := ih (h + h) rk' od' M' A3 (by omega) (by omega) (by omega) c5 c6 (fun a b ha hb => by rw [c7 a b ha hb, two a b ha hb]) b2 srt c8 (by rw [at3 94 1 (by unfold XSo; omega)]; exact h1) (fun i hi' => by rw [c3.2 96 i (by omega)]; exact b4 i hi') c4
        have x3 : EX XSo A A3 := ((a1.mono (fun a k y => by unfold XSo; omega)).trans (b1.mono (fun a k y => by unfold XSo; omega))).trans (c3.mono (fun a k y => by unfold XSo; omega))
        refine ⟨A', R, x3.trans g1, g2, g3, vc_Sorted_sortRotations_50 _ _ ?_⟩
        rw [h1, wn (), show w32 (h : Int) = h from w32_of (by omega), show w32 (M : Int) = M from w32_of (by omega)]
        refine cNo (by omega) (cNo (by omega) (a3 none A' (vc_Sorted_sortRotations_68 _ _ _ ?_)))
        rw [show A1.1 94 1 = n by rw [a1.2 94 1 (by decide)]; exact h1]
        refine cY (Int.le_refl _) ⟨A2, b5, _, A3, c9, ?_⟩
        rw [show (h : Int) * 2 = ((h + h : Nat) : Int) by omega]
        exact g4
theorem cl_ini (hn : n ≤ 2500) (hu : ∀ i : Nat, i < n → 0 ≤ u i ∧ u i < 256) : ∀ (v i : Nat) (A : ms), i + v = n → A.1 94 1 = n → (∀ j : Nat, j < n → A.1 95 j = u j) → (∀ j : Nat, j < i → A.1 97 j = j ∧ A.1 98 j = u j) → ∃ A', EX (fun a _ => a = 97 ∨ a = 98) A A' ∧ (∀ j : Nat, j < n → A'.1 97 j = j ∧ A'.1 98 j = u j) ∧ ∀ (R : Option Value) (S' : ms), EV q 94 2 [some (.ref 94), some (vI n), none, none] [] A' R S' → EV q 94 2 [some (.ref 94), some (vI i), none, none] [] A R S' := by
  have wn : Unit → w32 (n : Int) = n := fun _ => w32_of (by omega)
  intro v
  induction v with
  | zero =>
    intro i A hi h1 h5 h7
    have e : i = n := by omega
    subst e
    exact ⟨A, EX.refl _ A, h7, fun R S' k => k⟩
  | succ v ih =>
    intro i A hi h1 h5 h7
    have wi : Unit → w32 (i : Int) = i := fun _ => w32_of (by omega)
    obtain ⟨A1, e1⟩ : ∃ A1, A1 = wI (wI A 97 i i) 98 i (u i) := ⟨_, rfl⟩
    obtain ⟨A', g1, g2, g3⟩ := ih (i + 1) A1 (by omega) (by rw [e1, wI_no _ (by omega), wI_no _ (by omega)]; exact h1) (fun j hj => by rw [e1, wI_no _ (by omega), wI_no _ (by omega)]; exact h5 j hj) (fun j hj => by
      by_cases e : j = i
      · rw [e, e1]
        exact ⟨by rw [wI_no _ (by omega), wI_at], by rw [wI_at]⟩
      · have := h7 j (by omega)
        rw [e1]
        exact ⟨by rw [wI_no _ (by omega), wI_no _ (by omega)]; exact this.1, by rw [wI_no _ (by omega), wI_no _ (by omega)]; exact this.2⟩)
    refine ⟨A', EX.trans (by rw [e1]; exact ((EX.refl _ A).wr (Or.inl rfl)).wr (Or.inr rfl)) g1, g2, fun R S' k => vc_Sorted_sortRotations_2 _ ?_⟩
    have g4 := g3 R S' k
    rw [show ((i + 1 : Nat) : Int) = (i : Int) + 1 by omega] at g4
    rw [h1, wn (), wi ()]
    refine cNo (by omega) ⟨by omega, fun S7 q7 => ⟨by omega, by omega, fun S10 q10 => ?_⟩⟩
    have e5 : S7.1 95 i = u i := by rw [q7, wI_no _ (by omega)]; exact h5 i (by omega)
    rw [e5, q7, ← e1] at q10
    rw [q10]
    exact g4
/-- the class sorts -/
theorem cl_srt (hn : 1 ≤ n ∧ n ≤ 2500) (hu : ∀ i : Nat, i < n → 0 ≤ u i ∧ u i < 256) {A : ms} (h1 : A.1 94 1 = n) (h5 : ∀ j : Nat, j < n → A.1 95 j = u j) : ∃ (A' : ms) (R : Nat → Nat), EX XSo A A' ∧ Srt u n R ∧ (∀ i : Nat, i < n → A'.1 96 i = R i) ∧ EV q 94 0 [some (.ref 94), none, none, none] [] A none A' := by
  have one : ∀ a b : Nat, a < n → b < n → (u a < u b ↔ ltR u n 1 a b) := fun a b ha hb => by
    have ea : (a + 0) % n = a := Nat.mod_eq_of_lt ha
    have eb : (b + 0) % n = b := Nat.mod_eq_of_lt hb
    refine ⟨fun y => ⟨0, by decide, fun i hi => absurd hi (by omega), by rw [ea, eb]; exact y⟩, fun ⟨j, j1, j2, j3⟩ => ?_⟩
    have ej : j = 0 := by omega
    rw [ej, ea, eb] at j3
    exact j3
  obtain ⟨A1, a1, a2, a3⟩ := cl_ini (q := q) hn.2 hu n 0 A (by omega) h1 h5 (fun j hj => absurd hj (by omega))
  have h11 : A1.1 94 1 = n := by rw [a1.2 94 1 (by decide)]; exact h1
  obtain ⟨A2, od, b1, ⟨b2, b3⟩, b4, b5⟩ := cl_ord (q := q) (rk := u) (mv := fun i => i) (M := 256) (by decide) hn.2 hu (Pmu_id n) (A := A1) h11 (fun j hj => (a2 j hj).1) (fun j hj => (a2 j hj).2)
  have srt : ∀ p r : Nat, p < r → r < n → ¬ u (od r) < u (od p) := fun p r hpr hr' y => by
    obtain ⟨i, j, -, e1, e2, z⟩ := b3 p r hpr hr'
    have z' : u i < u j ∨ (u i = u j ∧ i < j) := z
    have e1' : od p = i := e1
    have e2' : od r = j := e2
    rw [e1', e2'] at y
    omega
  have be0 : ∀ a : Nat, a < n → beF n 0 a = a := fun a ha => by unfold beF; rw [if_pos (by omega)]; rfl
  have two : ∀ a b : Nat, a < n → b < n → (lt2 u (beF n 0) a b ↔ u a < u b) := fun a b ha hb => by
    unfold lt2
    rw [be0 a ha, be0 b hb]
    omega
  obtain ⟨A3, rk', M', c3, c4, c5, c6, c7, c8, c9⟩ := cl_ra (q := q) (rk := u) (h := 0) hn (Or.inr rfl) (fun a ha => by have := hu a ha; omega) b2 (fun p hp y => srt p (p + 1) (by omega) hp ((two _ _ (b2.1 _ hp) (b2.1 _ (by omega))).1 y)) (A := A2) (by rw [b1.2 94 1 (by decide)]; exact h11) b4 (fun a ha => by rw [b1.2 98 a (by omega)]; exact (a2 a ha).2)
  obtain ⟨A', R, g1, g2, g3, g4⟩ := cl_dbl (q := q) (u := u) hn n 1 rk' od M' A3 (by omega) (by decide) (by decide) c5 c6 (fun a b ha hb => by rw [c7 a b ha hb, two a b ha hb, one a b ha hb]) b2 (fun p r hpr hr' y => srt p r hpr hr' ((one _ _ (b2.1 _ hr') (b2.1 _ (by omega))).2 y)) c8 (by rw [c3.2 94 1 (by decide), b1.2 94 1 (by decide)]; exact h11) (fun i hi => by rw [c3.2 96 i (by omega)]; exact b4 i hi) c4
  have x3 : EX XSo A A3 := ((a1.mono (fun a k y => by unfold XSo; omega)).trans (b1.mono (fun a k y => by unfold XSo; omega))).trans (c3.mono (fun a k y => by unfold XSo; omega))
  refine ⟨A', R, x3.trans g1, g2, g3, vc_Sorted_sortRotations (a3 none A' (vc_Sorted_sortRotations_2 _ ?_))⟩
  rw [h11]
  exact cY (Int.le_refl _) ⟨A2, b5, _, A3, c9, g4⟩
end PSrc
