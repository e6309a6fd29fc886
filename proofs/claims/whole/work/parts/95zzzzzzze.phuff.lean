/-! pack: own codes; depths -/
section PDepth
variable {q : Nat × (Nat → Int32)} {n m : Nat} {od : Nat → Nat} {c : Nat → Int}
def dpF (U : Nat → Nat) (r : Nat) : Nat → Nat → Nat
  | 0, _ => 0
  | k + 1, i => if i < r then dpF U r k (U i) + 1 else 0
theorem dpF_s (U : Nat → Nat) (r k i : Nat) : dpF U r (k + 1) i = if i < r then dpF U r k (U i) + 1 else 0 := rfl
theorem dpF_e {U : Nat → Nat} {r : Nat} (hU : ∀ i : Nat, i < r → i < U i ∧ U i ≤ r) : ∀ (k k' i : Nat), r - i ≤ k → r - i ≤ k' → dpF U r k i = dpF U r k' i
  | 0, 0, _, _, _ => rfl
  | 0, k' + 1, i, h, _ => by rw [dpF_s, if_neg (by omega)]; rfl
  | k + 1, 0, i, _, h => by rw [dpF_s, if_neg (by omega)]; rfl
  | k + 1, k' + 1, i, h, h' => by
    rw [dpF_s, dpF_s]
    by_cases d : i < r
    · have := hU i d
      rw [if_pos d, if_pos d, dpF_e hU k k' (U i) (by omega) (by omega)]
    · rw [if_neg d, if_neg d]
theorem dp_ex {U H : Nat → Nat} {r : Nat} (hU : ∀ i : Nat, i < r → i < U i ∧ U i ≤ r) (hH : ∀ i : Nat, i < r → H i + 1 ≤ H (U i)) : ∃ D : Nat → Nat, D r = 0 ∧ (∀ i : Nat, i < r → D i = D (U i) + 1) ∧ ∀ i : Nat, i ≤ r → D i + i ≤ r ∧ H i + D i ≤ H r := by
  obtain ⟨D, eD⟩ : ∃ D : Nat → Nat, ∀ i, D i = dpF U r r i := ⟨_, fun _ => rfl⟩
  have d0 : D r = 0 := by
    rw [eD]
    cases r with
    | zero => rfl
    | succ k => rw [dpF_s, if_neg (by omega)]
  have d1 : ∀ i : Nat, i < r → D i = D (U i) + 1 := fun i hi => by
    have u := hU i hi
    rw [eD, eD]
    obtain ⟨k, ek⟩ : ∃ k, r = k + 1 := ⟨r - 1, by omega⟩
    rw [dpF_e hU r (k + 1) i (by omega) (by omega), dpF_s, if_pos hi, dpF_e hU k r (U i) (by omega) (by omega)]
  refine ⟨D, d0, d1, fun i hi => ?_⟩
  have key : ∀ k i : Nat, i + k = r → D i + i ≤ r ∧ H i + D i ≤ H r := by
    intro k
    induction k using Nat.strongRecOn with
    | _ k ih =>
      intro i hk
      by_cases e : i < r
      · have u := hU i e
        have h := hH i e
        have g := ih (r - U i) (by omega) (U i) (by omega)
        rw [d1 i e]
        omega
      · have e' : i = r := by omega
        rw [e', d0]
        omega
  exact key (r - i) i (by omega)
theorem cl_dep {cd : Nat} (hc : isCode cd) (hn : n ≤ 288 ∧ m ≤ n ∧ 2 ≤ m) (hO : OLv n m od c) {U D : Nat → Nat} (hU : ∀ i : Nat, i < 2 * m - 2 → i < U i ∧ U i ≤ 2 * m - 2) (hD : ∀ i : Nat, i < 2 * m - 2 → D i = D (U i) + 1) (hD2 : ∀ i : Nat, i ≤ 2 * m - 2 → D i < 1000) : ∀ (i : Nat) (A : ms), i ≤ 2 * m - 2 → (∀ j : Nat, j < m → A.1 (cd + 4) j = od j) → (∀ j : Nat, j < i → A.1 (cd + 10) j = U j) → (∀ j : Nat, i ≤ j → j ≤ 2 * m - 2 → A.1 (cd + 10) j = D j) → (∀ s : Nat, s < n → c s = 0 → A.1 (cd + 1) s = 0) → (∀ j : Nat, i ≤ j → j < m → A.1 (cd + 1) (od j) = min (D j : Int) 20) → ∃ A', EX (fun a _ => a = cd + 1 ∨ a = cd + 10) A A' ∧ (∀ s : Nat, s < n → c s = 0 → A'.1 (cd + 1) s = 0) ∧ (∀ j : Nat, j < m → A'.1 (cd + 1) (od j) = min (D j : Int) 20) ∧ EV q 73 60 [some (.ref cd), some (vI n), some (vI m), some (vI ((i : Int) - 1))] [] A none A' := by
  have wm : Unit → w32 (m : Int) = m := fun _ => w32_of (by omega)
  have w20 : w32 20 = 20 := by decide
  intro i
  induction i with
  | zero =>
    intro A _ h4 hu hd hz hl
    refine ⟨A, EX.refl _ A, hz, fun j hj => hl j (by omega) hj, vc_Code_tellLengths_60 _ _ _ _ hc ?_⟩
    rw [w32_of (x := ((0 : Nat) : Int) - 1) (by omega)]
    exact cY (by omega) ⟨rfl, rfl⟩
  | succ i ih =>
    intro A hi h4 hu hd hz hl
    have wi : Unit → w32 (((i + 1 : Nat) : Int) - 1) = i := fun _ => by rw [w32_of (by omega)]; omega
    have u := hU i (by omega)
    have d2 := hD2 (U i) u.2
    have wu : Unit → w32 (U i : Int) = U i := fun _ => w32_of (by omega)
    have dv := hD i (by omega)
    obtain ⟨A4, e4⟩ : ∃ A4, A4 = wI A (cd + 10) i ((D (U i) : Int) + 1) := ⟨_, rfl⟩
    have r0 : A.1 (cd + 10) i = U i := hu i (by omega)
    have r1 : A.1 (cd + 10) (U i : Int) = D (U i) := hd (U i) (by omega) u.2
    have a44 : ∀ j : Nat, j < m → A4.1 (cd + 4) j = od j := fun j hj => by rw [e4, wI_no _ (by omega)]; exact h4 j hj
    have a4u : ∀ j : Nat, j < i → A4.1 (cd + 10) j = U j := fun j hj => by rw [e4, wI_no _ (by omega)]; exact hu j (by omega)
    have a4d : ∀ j : Nat, i ≤ j → j ≤ 2 * m - 2 → A4.1 (cd + 10) j = D j := fun j h1 h2 => by
      by_cases e : j = i
      · rw [e, e4, wI_at]
        omega
      · rw [e4, wI_no _ (by omega)]
        exact hd j (by omega) h2
    have a41 : ∀ k : Int, A4.1 (cd + 1) k = A.1 (cd + 1) k := fun k => by rw [e4, wI_no _ (by omega)]
    have x4 : EX (fun a _ => a = cd + 1 ∨ a = cd + 10) A A4 := by rw [e4]; exact (EX.refl _ A).wr (Or.inr rfl)
    by_cases mi : m ≤ i
    · obtain ⟨A', g1, g2, g3, g4⟩ := ih A4 (by omega) a44 a4u a4d (fun s hs z => by rw [a41]; exact hz s hs z) (fun j h1 h2 => absurd h2 (by omega))
      refine ⟨A', x4.trans g1, g2, g3, vc_Code_tellLengths_60 _ _ _ _ hc ?_⟩
      rw [wi (), r0, wu (), r1, wm ()]
      refine cNo (by omega) ⟨by omega, by omega, by omega, fun S4 q4 => cY (by omega) (vc_Code_tellLengths_110 _ _ _ _ hc ?_)⟩
      rw [q4, ← e4, show ((i + 1 : Nat) : Int) - 1 - 1 = (i : Int) - 1 by omega]
      exact g4
    · have o1 := hO.1 i (by omega)
      have wo : Unit → w32 (od i : Int) = od i := fun _ => w32_of (by omega)
      obtain ⟨A8, e8⟩ : ∃ A8, A8 = wI A4 (cd + 1) (od i) (min (D i : Int) 20) := ⟨_, rfl⟩
      obtain ⟨A', g1, g2, g3, g4⟩ := ih A8 (by omega) (fun j hj => by rw [e8, wI_no _ (by omega)]; exact a44 j hj) (fun j hj => by rw [e8, wI_no _ (by omega)]; exact a4u j hj) (fun j h1 h2 => by rw [e8, wI_no _ (by omega)]; exact a4d j h1 h2) (fun s hs z => by
        rw [e8, wI_no _ (fun y => by
          have y2 : s = od i := by have := y.2; omega
          rw [y2] at z
          omega), a41]
        exact hz s hs z) (fun j h1 h2 => by
        by_cases e : j = i
        · rw [e, e8, wI_at]
        · have ne : od j ≠ od i := fun y => by
            have := hO.2.1 i j (by omega) h2
            rw [y] at this
            omega
          rw [e8, wI_no _ (by omega), a41]
          exact hl j (by omega) h2)
      refine ⟨A', (x4.trans (by rw [e8]; exact (EX.refl _ A4).wr (Or.inl rfl))).trans g1, g2, g3, vc_Code_tellLengths_60 _ _ _ _ hc ?_⟩
      rw [wi (), r0, wu (), r1, wm ()]
      refine cNo (by omega) ⟨by omega, by omega, by omega, fun S4 q4 => ?_⟩
      rw [← e4] at q4
      rw [q4, a44 i (by omega), wo (), a4d i (Nat.le_refl _) (by omega), w20, w32_of (x := (D i : Int)) (by have := hD2 i (by omega); omega)]
      refine cNo (by omega) ⟨by omega, by omega, by omega, fun S8 q8 => vc_Code_tellLengths_110 _ _ _ _ hc ?_⟩
      rw [q8, ← e8, show ((i + 1 : Nat) : Int) - 1 - 1 = (i : Int) - 1 by omega]
      exact g4
theorem cl_lzero {cd : Nat} (hc : isCode cd) (hn : n ≤ 288) {x2 : Int} : ∀ (v s : Nat) (A : ms), s + v = n → (∀ t : Nat, t < s → A.1 (cd + 1) t = 0) → ∃ A', EX (fun a _ => a = cd + 1) A A' ∧ (∀ t : Nat, t < n → A'.1 (cd + 1) t = 0) ∧ ∀ (R : Option Value) (T : ms), EV q 73 2 [some (.ref cd), some (vI n), some (vI x2), some (vI n)] [] A' R T → EV q 73 2 [some (.ref cd), some (vI n), some (vI x2), some (vI s)] [] A R T := by
  have wn : Unit → w32 (n : Int) = n := fun _ => w32_of (by omega)
  intro v
  induction v with
  | zero =>
    intro s A hs h
    have e : s = n := by omega
    subst e
    exact ⟨A, EX.refl _ A, h, fun R T k => k⟩
  | succ v ih =>
    intro s A hs h
    have ws : Unit → w32 (s : Int) = s := fun _ => w32_of (by omega)
    obtain ⟨A', g1, g2, g3⟩ := ih (s + 1) (wI A (cd + 1) s 0) (by omega) (fun t ht => by
      by_cases e : t = s
      · rw [e, wI_at]
      · rw [wI_no _ (by omega)]
        exact h t (by omega))
    refine ⟨A', ((EX.refl _ A).wr rfl).trans g1, g2, fun R T k => vc_Code_tellLengths_2 _ _ _ _ hc ?_⟩
    have g4 := g3 R T k
    rw [show ((s + 1 : Nat) : Int) = (s : Int) + 1 by omega] at g4
    rw [wn (), ws ()]
    exact cNo (by omega) ⟨by omega, fun S5 q5 => by rw [q5]; exact g4⟩
theorem cl_tell {cd : Nat} (hc : isCode cd) (hn : n ≤ 288 ∧ m ≤ n) (hO : OLv n m od c) {U D : Nat → Nat} (hU : ∀ i : Nat, i < 2 * m - 2 → i < U i ∧ U i ≤ 2 * m - 2) (hD0 : D (2 * m - 2) = 0) (hD : ∀ i : Nat, i < 2 * m - 2 → D i = D (U i) + 1) (hD2 : ∀ i : Nat, i ≤ 2 * m - 2 → D i < 1000) {A : ms} (h4 : ∀ j : Nat, j < m → A.1 (cd + 4) j = od j) (hu : ∀ j : Nat, j < 2 * m - 2 → A.1 (cd + 10) j = U j) : ∃ A', EX (fun a _ => a = cd + 1 ∨ a = cd + 10) A A' ∧ (∀ s : Nat, s < n → c s = 0 → A'.1 (cd + 1) s = 0) ∧ (∀ j : Nat, j < m → A'.1 (cd + 1) (od j) = min (((if m = 1 then 1 else 0 : Nat) : Int) + D j) 20) ∧ EV q 73 0 [some (.ref cd), some (vI n), some (vI m), none] [] A none A' := by
  have wm : Unit → w32 (m : Int) = m := fun _ => w32_of (by omega)
  have w0 : w32 0 = 0 := by decide
  obtain ⟨A1, g1, g2, g3⟩ := cl_lzero (q := q) (n := n) hc hn.1 (x2 := m) n 0 A (by omega) (fun t ht => absurd ht (by omega))
  have h41 : ∀ j : Nat, j < m → A1.1 (cd + 4) j = od j := fun j hj => by rw [g1.2 _ _ (by omega)]; exact h4 j hj
  by_cases m1 : m = 1
  · have o1 := hO.1 0 (by omega)
    have h0 := h41 0 (by omega)
    have h0' : A1.1 (cd + 4) 0 = od 0 := h0
    have wo : Unit → w32 (od 0 : Int) = od 0 := fun _ => w32_of (by omega)
    refine ⟨wI A1 (cd + 1) (od 0) 1, (g1.mono (fun a k y => Or.inl y)).trans ((EX.refl _ A1).wr (Or.inl rfl)), fun s hs z => ?_, fun j hj => ?_, vc_Code_tellLengths _ _ _ hc (g3 none _ (vc_Code_tellLengths_2 _ _ _ _ hc (cY (Int.le_refl _) ?_)))⟩
    · rw [wI_no _ (fun y => by
        have y2 : s = od 0 := by have := y.2; omega
        rw [y2] at z
        omega)]
      exact g2 s hs
    · have j0 : j = 0 := by omega
      rw [if_pos m1, j0, wI_at]
      have e : D 0 = 0 := by rw [show 2 * m - 2 = 0 by omega] at hD0; exact hD0
      rw [e]
      decide
    · rw [wm (), w0, h0', wo ()]
      refine cNo (by omega) ⟨by omega, by omega, fun S3 q3 => vc_Code_tellLengths_37 _ _ _ _ hc ?_⟩
      rw [wm ()]
      exact cNo (by omega) ⟨rfl, q3.symm⟩
  · by_cases m0 : m = 0
    · refine ⟨A1, g1.mono (fun a k y => Or.inl y), fun s hs _ => g2 s hs, fun j hj => absurd hj (by omega), vc_Code_tellLengths _ _ _ hc (g3 none _ (vc_Code_tellLengths_2 _ _ _ _ hc (cY (Int.le_refl _) ?_)))⟩
      rw [wm ()]
      refine cY (by omega) (vc_Code_tellLengths_37 _ _ _ _ hc ?_)
      rw [wm ()]
      exact cNo (by omega) ⟨rfl, rfl⟩
    · obtain ⟨A2, e2⟩ : ∃ A2, A2 = wI A1 (cd + 10) ((2 * m - 2 : Nat) : Int) 0 := ⟨_, rfl⟩
      have x2 : EX (fun a _ => a = cd + 1 ∨ a = cd + 10) A A2 := (g1.mono (fun a k y => Or.inl y)).trans (by rw [e2]; exact (EX.refl _ A1).wr (Or.inr rfl))
      obtain ⟨A', k1, k2, k3, k4⟩ := cl_dep (q := q) hc ⟨hn.1, hn.2, by omega⟩ hO hU hD hD2 (2 * m - 2) A2 (Nat.le_refl _) (fun j hj => by rw [e2, wI_no _ (by omega)]; exact h41 j hj) (fun j hj => by rw [e2, wI_no _ (by omega), g1.2 _ _ (by omega)]; exact hu j hj) (fun j h1 h2 => by
        have ej : j = 2 * m - 2 := by omega
        rw [ej, e2, wI_at, hD0]
        rfl) (fun s hs _ => by rw [e2, wI_no _ (by omega)]; exact g2 s hs) (fun j h1 h2 => absurd h2 (by omega))
      refine ⟨A', x2.trans k1, k2, fun j hj => ?_, vc_Code_tellLengths _ _ _ hc (g3 none _ (vc_Code_tellLengths_2 _ _ _ _ hc (cY (Int.le_refl _) ?_)))⟩
      · rw [k3 j hj, if_neg m1, show ((0 : Nat) : Int) + (D j : Int) = D j by omega]
      · rw [wm ()]
        refine cY (by omega) (vc_Code_tellLengths_37 _ _ _ _ hc ?_)
        rw [wm (), w32_of (x := 2 * (m : Int) - 2) (by omega)]
        refine cY (by omega) ⟨by omega, fun S2 q2 => ?_⟩
        rw [show 2 * (m : Int) - 2 = ((2 * m - 2 : Nat) : Int) by omega, ← e2] at q2
        rw [q2, show 2 * (m : Int) - 3 = ((2 * m - 2 : Nat) : Int) - 1 by omega]
        exact k4
end PDepth
