/-! pack: SORTED; permutations, and the order of rotations -/
section PPerm
theorem sm_ad (f g : Nat → Int) : ∀ n : Nat, sm (fun j => f j + g j) n = sm f n + sm g n
  | 0 => rfl
  | n + 1 => by
    rw [sm_1, sm_1, sm_1, sm_ad f g n]
    omega
theorem sm_swp (F : Nat → Nat → Int) (m : Nat) : ∀ n : Nat, sm (fun i => sm (F i) m) n = sm (fun a => sm (fun i => F i a) n) m
  | 0 => by
    rw [show sm (fun i => sm (F i) m) 0 = 0 from rfl]
    exact (sm_0 (fun j _ => rfl)).symm
  | n + 1 => by
    rw [sm_1, sm_swp F m n, ← sm_ad]
    exact sm_cg (fun j _ => rfl)
theorem sm_pk (g : Nat → Int) (k : Nat) : ∀ n : Nat, sm (fun a => if k = a then g a else 0) n = if k < n then g k else 0
  | 0 => rfl
  | n + 1 => by
    rw [sm_1, sm_pk g k n]
    by_cases e : k = n
    · rw [if_neg (by omega), if_pos e, if_pos (by omega), e]
      omega
    · rw [if_neg e]
      by_cases c : k < n
      · rw [if_pos c, if_pos (by omega)]
        omega
      · rw [if_neg c, if_neg (by omega)]
        omega
theorem sm_mul (c : Int) (p : Nat → Int) : ∀ n : Nat, sm (fun i => c * p i) n = c * sm p n
  | 0 => by show (0 : Int) = c * 0; rw [Int.mul_zero]
  | n + 1 => by
    rw [sm_1, sm_1, sm_mul c p n, Int.mul_add]
theorem sm_ones : ∀ n : Nat, sm (fun _ => 1) n = n
  | 0 => rfl
  | n + 1 => by
    rw [sm_1, sm_ones n]
    omega
theorem sm_one {u : Nat → Int} {n i : Nat} (hu : ∀ j, j < n → 0 ≤ u j) (hi : i < n) : u i ≤ sm u n := by
  have a := sm_mono (u := u) (n := n) hu (j := i + 1) (by omega)
  have b := sm_nn (u := u) (n := i) (fun j hj => hu j (by omega))
  rw [sm_1] at a
  omega
theorem sm_two {u : Nat → Int} {n i j : Nat} (hu : ∀ j, j < n → 0 ≤ u j) (hi : i < j) (hj : j < n) : u i + u j ≤ sm u n := by
  have a := sm_mono (u := u) (n := n) hu (j := j + 1) (by omega)
  have b := sm_one (u := u) (n := j) (i := i) (fun k hk => hu k (by omega)) hi
  rw [sm_1] at a
  omega
/-- f is a permutation of 0 .. n - 1 -/
def Pmu (n : Nat) (f : Nat → Nat) : Prop := (∀ i : Nat, i < n → f i < n) ∧ ∀ a : Nat, a < n → ∃ i : Nat, i < n ∧ f i = a
def hit (f : Nat → Nat) (n a : Nat) : Int := sm (fun i => if f i = a then 1 else 0) n
theorem hit_all {n : Nat} {f : Nat → Nat} (h : ∀ i : Nat, i < n → f i < n) : sm (hit f n) n = n := by
  have e : sm (hit f n) n = sm (fun i => sm (fun a => if f i = a then (1 : Int) else 0) n) n := (sm_swp (fun i a => if f i = a then (1 : Int) else 0) n n).symm
  rw [e, sm_cg (g := fun _ => 1) (fun i hi => ?_), sm_ones]
  rw [sm_pk (fun _ => 1) (f i) n, if_pos (h i hi)]
theorem hit_nn (f : Nat → Nat) (a : Nat) : ∀ j : Nat, 0 ≤ (if f j = a then (1 : Int) else 0) := fun j => by split <;> omega
theorem Pmu_1 {n : Nat} {f : Nat → Nat} (h : Pmu n f) : ∀ a : Nat, a < n → hit f n a = 1 := by
  have g : ∀ a : Nat, a < n → 1 ≤ hit f n a := fun a ha => by
    obtain ⟨i, i1, i2⟩ := h.2 a ha
    have := sm_one (u := fun i => if f i = a then (1 : Int) else 0) (n := n) (i := i) (fun j _ => hit_nn f a j) i1
    rw [if_pos i2] at this
    exact this
  have e := hit_all h.1
  have z := sm_z (f := fun a => hit f n a - 1) (n := n) (fun j hj => by have := g j hj; omega) (by rw [sm_sub, sm_ones, e]; omega)
  intro a ha
  have := z a ha
  omega
theorem Pmu_i {n : Nat} {f : Nat → Nat} (h : Pmu n f) {i j : Nat} (hi : i < n) (hj : j < n) (e : f i = f j) : i = j := by
  have key : ∀ i j : Nat, i < j → j < n → f i = f j → False := fun i j hij hj e => by
    have a := Pmu_1 h (f j) (h.1 j hj)
    have b := sm_two (u := fun i => if f i = f j then (1 : Int) else 0) (n := n) (fun k _ => hit_nn f (f j) k) hij hj
    rw [if_pos e, if_pos rfl] at b
    unfold hit at a
    omega
  by_cases c1 : i < j
  · exact absurd (key i j c1 hj e) (by intro z; exact z)
  · by_cases c2 : j < i
    · exact absurd (key j i c2 hi e.symm) (by intro z; exact z)
    · omega
theorem Pmu_of {n : Nat} {f : Nat → Nat} (h : ∀ i : Nat, i < n → f i < n) (inj : ∀ i j : Nat, i < j → j < n → f i ≠ f j) : Pmu n f := by
  have le : ∀ a k : Nat, k ≤ n → hit f k a ≤ 1 := fun a k => by
    induction k with
    | zero => intro _; show (0 : Int) ≤ 1; decide
    | succ k ih =>
      intro hk
      unfold hit
      rw [sm_1]
      by_cases c : f k = a
      · rw [if_pos c, sm_0 (fun j hj => if_neg (fun y => inj j k hj (by omega) (by rw [y, c])))]
        decide
      · rw [if_neg c]
        have := ih (by omega)
        unfold hit at this
        omega
  have e := hit_all h
  have z := sm_z (f := fun a => 1 - hit f n a) (n := n) (fun j hj => by have := le j n (Nat.le_refl _); omega) (by rw [sm_sub, sm_ones, e]; omega)
  refine ⟨h, fun a ha => ?_⟩
  have za := z a ha
  by_cases c : ∃ i : Nat, i < n ∧ f i = a
  · exact c
  · have : hit f n a = 0 := sm_0 (fun j hj => if_neg (fun y => c ⟨j, hj, y⟩))
    omega
theorem Pmu_sum {n : Nat} {f : Nat → Nat} (h : Pmu n f) (g : Nat → Int) : sm (fun i => g (f i)) n = sm g n := by
  have e1 : sm (fun i => g (f i)) n = sm (fun i => sm (fun a => if f i = a then g a else 0) n) n := sm_cg (fun i hi => by rw [sm_pk g (f i) n, if_pos (h.1 i hi)])
  rw [e1, sm_swp (fun i a => if f i = a then g a else 0) n n]
  refine sm_cg (fun a ha => ?_)
  have e2 : sm (fun i => if f i = a then g a else 0) n = sm (fun i => g a * (if f i = a then 1 else 0)) n := sm_cg (fun i _ => by split <;> omega)
  rw [e2, sm_mul]
  have := Pmu_1 h a ha
  unfold hit at this
  rw [this, Int.mul_one]
/-- the place of the i-th when all are laid by f, of the same f in their order -/
def posF (f : Nat → Int) (n i : Nat) : Int := sm (fun j => if f j < f i then 1 else 0) n + sm (fun j => if f j = f i then 1 else 0) i
theorem cLE (f : Nat → Int) (r : Int) (n : Nat) : sm (fun j => if f j < r then (1 : Int) else 0) n + sm (fun j => if f j = r then (1 : Int) else 0) n = sm (fun j => if f j < r + 1 then (1 : Int) else 0) n := by
  rw [← sm_ad]
  refine sm_cg (fun j _ => ?_)
  by_cases c1 : f j < r
  · rw [if_pos c1, if_neg (by omega), if_pos (by omega)]
    rfl
  · by_cases c2 : f j = r
    · rw [if_neg c1, if_pos c2, if_pos (by omega)]
      rfl
    · rw [if_neg c1, if_neg c2, if_neg (by omega)]
      rfl
theorem sm_leq {f g : Nat → Int} : ∀ n : Nat, (∀ j : Nat, j < n → f j ≤ g j) → sm f n ≤ sm g n
  | 0, _ => Int.le_refl _
  | n + 1, h => by
    rw [sm_1, sm_1]
    have a := sm_leq n (fun j hj => h j (by omega))
    have b := h n (by omega)
    omega
theorem nn1 (p : Prop) [Decidable p] : 0 ≤ (if p then (1 : Int) else 0) := by split <;> omega
theorem posF_0 (f : Nat → Int) {n i : Nat} (hi : i < n) : 0 ≤ posF f n i ∧ posF f n i < n := by
  unfold posF
  have a := sm_nn (u := fun j => if f j < f i then (1 : Int) else 0) (n := n) (fun j _ => nn1 _)
  have b := sm_nn (u := fun j => if f j = f i then (1 : Int) else 0) (n := i) (fun j _ => nn1 _)
  have c := sm_mono (u := fun j => if f j = f i then (1 : Int) else 0) (n := n) (fun j _ => nn1 _) (j := i + 1) (by omega)
  rw [sm_1, if_pos rfl] at c
  have d := cLE f (f i) n
  have e := sm_leq (f := fun j => if f j < f i + 1 then (1 : Int) else 0) (g := fun _ => 1) n (fun j _ => by split <;> omega)
  rw [sm_ones] at e
  omega
theorem posF_lt (f : Nat → Int) {n i j : Nat} (hi : i < n) (hj : j < n) (h : f i < f j ∨ (f i = f j ∧ i < j)) : posF f n i < posF f n j := by
  unfold posF
  rcases h with h | ⟨h, hij⟩
  · have b := sm_nn (u := fun k => if f k = f j then (1 : Int) else 0) (n := j) (fun k _ => nn1 _)
    have c := sm_mono (u := fun k => if f k = f i then (1 : Int) else 0) (n := n) (fun k _ => nn1 _) (j := i + 1) (by omega)
    rw [sm_1, if_pos rfl] at c
    have d := cLE f (f i) n
    have e := sm_leq (f := fun k => if f k < f i + 1 then (1 : Int) else 0) (g := fun k => if f k < f j then (1 : Int) else 0) n (fun k _ => by
      by_cases c1 : f k < f i + 1
      · rw [if_pos c1, if_pos (by omega)]
        exact Int.le_refl _
      · rw [if_neg c1]
        exact nn1 _)
    omega
  · rw [← h]
    have c := sm_mono (u := fun k => if f k = f i then (1 : Int) else 0) (n := j) (fun k _ => nn1 _) (j := i + 1) (by omega)
    rw [sm_1, if_pos rfl] at c
    omega
/-- laid in that order -/
theorem pos_ex (f : Nat → Int) {n : Nat} {mv : Nat → Nat} (hm : Pmu n mv) : ∃ od : Nat → Nat, Pmu n od ∧ ((∀ i : Nat, i < n → od (posF f n i).toNat = mv i) ∧ ∀ p : Nat, p < n → ∃ i : Nat, i < n ∧ (posF f n i).toNat = p) ∧ ∀ p r : Nat, p < r → r < n → ∃ i j : Nat, (i < n ∧ j < n) ∧ od p = mv i ∧ od r = mv j ∧ (f i < f j ∨ (f i = f j ∧ i < j)) := by
  have hp : Pmu n (fun i => (posF f n i).toNat) := Pmu_of (fun i hi => by have := posF_0 f hi; omega) (fun i j hij hj e => by
    have a := posF_0 f (n := n) (i := i) (by omega)
    have b := posF_0 f (n := n) (i := j) hj
    have e' : (posF f n i).toNat = (posF f n j).toNat := e
    by_cases c1 : f i < f j
    · have := posF_lt f (n := n) (by omega) hj (Or.inl c1); omega
    · by_cases c2 : f i = f j
      · have := posF_lt f (n := n) (by omega) hj (Or.inr ⟨c2, hij⟩); omega
      · have := posF_lt f (n := n) hj (by omega) (Or.inl (by omega : f j < f i)); omega)
  have ex : ∀ p : Nat, ∃ i : Nat, p < n → i < n ∧ (posF f n i).toNat = p := fun p => by
    by_cases c : p < n
    · obtain ⟨i, i1, i2⟩ := hp.2 p c
      exact ⟨i, fun _ => ⟨i1, i2⟩⟩
    · exact ⟨0, fun y => absurd y c⟩
  obtain ⟨g, hg⟩ : ∃ g : Nat → Nat, ∀ p : Nat, p < n → g p < n ∧ (posF f n (g p)).toNat = p := ⟨fun p => Classical.choose (ex p), fun p => Classical.choose_spec (ex p)⟩
  have gi : ∀ i : Nat, i < n → g (posF f n i).toNat = i := fun i hi => by
    have l := hp.1 i hi
    have y := hg (posF f n i).toNat l
    exact Pmu_i hp y.1 hi y.2
  refine ⟨fun p => mv (g p), ⟨fun p hp' => hm.1 _ (hg p hp').1, fun a ha => ?_⟩, ⟨fun i hi => by show mv (g _) = _; rw [gi i hi], fun p hp' => ⟨g p, hg p hp'⟩⟩, fun p r hpr hr => ⟨g p, g r, ⟨(hg p (by omega)).1, (hg r hr).1⟩, rfl, rfl, ?_⟩⟩
  · obtain ⟨i, i1, i2⟩ := hm.2 a ha
    exact ⟨(posF f n i).toNat, hp.1 i i1, by show mv (g _) = _; rw [gi i i1, i2]⟩
  · have y1 := hg p (by omega)
    have y2 := hg r hr
    have z1 := posF_0 f y1.1
    have z2 := posF_0 f y2.1
    by_cases c1 : f (g p) < f (g r)
    · exact Or.inl c1
    · by_cases c2 : f (g p) = f (g r)
      · by_cases c3 : g p < g r
        · exact Or.inr ⟨c2, c3⟩
        · by_cases c4 : g r < g p
          · have := posF_lt f y2.1 y1.1 (Or.inr ⟨c2.symm, c4⟩); omega
          · have e : g p = g r := by omega
            rw [e] at y1
            omega
      · have := posF_lt f y2.1 y1.1 (Or.inl (by omega : f (g r) < f (g p))); omega
end PPerm
section PRot
variable {u : Nat → Int} {n : Nat}
/-- alike for k octets -/
def eqR (u : Nat → Int) (n k a b : Nat) : Prop := ∀ j : Nat, j < k → u ((a + j) % n) = u ((b + j) % n)
/-- less within k octets -/
def ltR (u : Nat → Int) (n k a b : Nat) : Prop := ∃ j : Nat, j < k ∧ (∀ i : Nat, i < j → u ((a + i) % n) = u ((b + i) % n)) ∧ u ((a + j) % n) < u ((b + j) % n)
theorem rot_tri (u : Nat → Int) (n a b : Nat) : ∀ k : Nat, ltR u n k a b ∨ eqR u n k a b ∨ ltR u n k b a
  | 0 => Or.inr (Or.inl (fun j hj => absurd hj (by omega)))
  | k + 1 => by
    rcases rot_tri u n a b k with ⟨j, j1, j2, j3⟩ | h | ⟨j, j1, j2, j3⟩
    · exact Or.inl ⟨j, by omega, j2, j3⟩
    · by_cases c1 : u ((a + k) % n) < u ((b + k) % n)
      · exact Or.inl ⟨k, by omega, h, c1⟩
      · by_cases c2 : u ((b + k) % n) < u ((a + k) % n)
        · exact Or.inr (Or.inr ⟨k, by omega, fun i hi => (h i hi).symm, c2⟩)
        · refine Or.inr (Or.inl (fun j hj => ?_))
          by_cases e : j = k
          · rw [e]; omega
          · exact h j (by omega)
    · exact Or.inr (Or.inr ⟨j, by omega, j2, j3⟩)
theorem ltR_ne {k a b : Nat} (h : ltR u n k a b) : ¬ eqR u n k a b ∧ ¬ ltR u n k b a := by
  obtain ⟨j, j1, j2, j3⟩ := h
  refine ⟨fun y => by have := y j j1; omega, fun ⟨i, i1, i2, i3⟩ => ?_⟩
  by_cases c1 : i < j
  · have := j2 i c1; omega
  · by_cases c2 : j < i
    · have := i2 j c2; omega
    · have e : i = j := by omega
      rw [e] at i3
      omega
theorem eqR_sy {k a b : Nat} (h : eqR u n k a b) : eqR u n k b a := fun j hj => (h j hj).symm
theorem eqR_tr {k a b c : Nat} (h : eqR u n k a b) (h' : eqR u n k b c) : eqR u n k a c := fun j hj => (h j hj).trans (h' j hj)
theorem ltR_tr {k a b c : Nat} (h : ltR u n k a b) (h' : ltR u n k b c) : ltR u n k a c := by
  obtain ⟨i, i1, i2, i3⟩ := h
  obtain ⟨j, j1, j2, j3⟩ := h'
  by_cases c1 : i < j
  · exact ⟨i, i1, fun m hm => (i2 m hm).trans (j2 m (by omega)), by have := j2 i c1; omega⟩
  · by_cases c2 : j < i
    · exact ⟨j, j1, fun m hm => (i2 m (by omega)).trans (j2 m hm), by have := i2 j c2; omega⟩
    · have e : i = j := by omega
      rw [e] at i2 i3
      exact ⟨j, j1, fun m hm => (i2 m hm).trans (j2 m hm), by omega⟩
theorem ltR_eq {k a b c : Nat} (h : ltR u n k a b) (h' : eqR u n k b c) : ltR u n k a c := by
  obtain ⟨i, i1, i2, i3⟩ := h
  exact ⟨i, i1, fun m hm => (i2 m hm).trans (h' m (by omega)), by have := h' i i1; omega⟩
theorem eqR_lt {k a b c : Nat} (h : eqR u n k a b) (h' : ltR u n k b c) : ltR u n k a c := by
  obtain ⟨i, i1, i2, i3⟩ := h'
  exact ⟨i, i1, fun m hm => (h m (by omega)).trans (i2 m hm), by have := h i i1; omega⟩
/-- twice as many octets -/
theorem eqR_2 {k a b : Nat} : eqR u n (k + k) a b ↔ eqR u n k a b ∧ eqR u n k ((a + k) % n) ((b + k) % n) := by
  have md : ∀ c j : Nat, ((c + k) % n + j) % n = (c + (k + j)) % n := fun c j => by rw [Nat.mod_add_mod]; congr 1; omega
  refine ⟨fun h => ⟨fun j hj => h j (by omega), fun j hj => ?_⟩, fun ⟨h1, h2⟩ j hj => ?_⟩
  · rw [md, md]
    exact h (k + j) (by omega)
  · by_cases c : j < k
    · exact h1 j c
    · have := h2 (j - k) (by omega)
      rw [md, md, show k + (j - k) = j by omega] at this
      exact this
theorem ltR_2 {k a b : Nat} : ltR u n (k + k) a b ↔ ltR u n k a b ∨ (eqR u n k a b ∧ ltR u n k ((a + k) % n) ((b + k) % n)) := by
  have md : ∀ c j : Nat, ((c + k) % n + j) % n = (c + (k + j)) % n := fun c j => by rw [Nat.mod_add_mod]; congr 1; omega
  refine ⟨fun ⟨j, j1, j2, j3⟩ => ?_, fun h => ?_⟩
  · by_cases c : j < k
    · exact Or.inl ⟨j, c, j2, j3⟩
    · refine Or.inr ⟨fun i hi => j2 i (by omega), j - k, by omega, fun i hi => ?_, ?_⟩
      · rw [md, md]
        exact j2 (k + i) (by omega)
      · rw [md, md, show k + (j - k) = j by omega]
        exact j3
  · rcases h with ⟨j, j1, j2, j3⟩ | ⟨h, j, j1, j2, j3⟩
    · exact ⟨j, by omega, j2, j3⟩
    · rw [md, md] at j3
      refine ⟨k + j, by omega, fun i hi => ?_, j3⟩
      by_cases c : i < k
      · exact h i c
      · have := j2 (i - k) (by omega)
        rw [md, md, show k + (i - k) = i by omega] at this
        exact this
/-- n octets are enough -/
theorem eqR_n (hn : 0 < n) {a b : Nat} (h : eqR u n n a b) (k : Nat) : eqR u n k a b := fun j _ => by
  have := h (j % n) (Nat.mod_lt _ hn)
  rw [Nat.add_mod_mod, Nat.add_mod_mod] at this
  exact this
theorem ltR_n (hn : 0 < n) {k a b : Nat} (hk : n ≤ k) : ltR u n k a b ↔ ltR u n n a b := by
  refine ⟨fun h => ?_, fun ⟨j, j1, j2, j3⟩ => ⟨j, by omega, j2, j3⟩⟩
  rcases rot_tri u n a b n with y | y | y
  · exact y
  · exact absurd (eqR_n hn y k) (ltR_ne h).1
  · obtain ⟨j, j1, j2, j3⟩ := y
    exact absurd ⟨j, by omega, j2, j3⟩ (ltR_ne h).2
/-- the order of rotations -/
def rtR (u : Nat → Int) (n a b : Nat) : Prop := ltR u n n a b ∨ (eqR u n n a b ∧ a < b)
theorem rtR_as {a b : Nat} (h : rtR u n a b) : ¬ rtR u n b a := fun h' => by
  rcases h with h | ⟨h, e⟩
  · rcases h' with h' | ⟨h', e'⟩
    · exact (ltR_ne h).2 h'
    · exact (ltR_ne h).1 (eqR_sy h')
  · rcases h' with h' | ⟨h', e'⟩
    · exact (ltR_ne h').1 (eqR_sy h)
    · omega
theorem rtR_tr {a b c : Nat} (h : rtR u n a b) (h' : rtR u n b c) : rtR u n a c := by
  rcases h with h | ⟨h, e⟩
  · rcases h' with h' | ⟨h', e'⟩
    · exact Or.inl (ltR_tr h h')
    · exact Or.inl (ltR_eq h h')
  · rcases h' with h' | ⟨h', e'⟩
    · exact Or.inl (eqR_lt h h')
    · exact Or.inr ⟨eqR_tr h h', by omega⟩
theorem rtR_tot (u : Nat → Int) (n a b : Nat) : rtR u n a b ∨ a = b ∨ rtR u n b a := by
  rcases rot_tri u n a b n with y | y | y
  · exact Or.inl (Or.inl y)
  · by_cases c1 : a < b
    · exact Or.inl (Or.inr ⟨y, c1⟩)
    · by_cases c2 : a = b
      · exact Or.inr (Or.inl c2)
      · exact Or.inr (Or.inr (Or.inr ⟨eqR_sy y, by omega⟩))
  · exact Or.inr (Or.inr (Or.inl y))
/-- R lays the rotations in order -/
def Srt (u : Nat → Int) (n : Nat) (R : Nat → Nat) : Prop := Pmu n R ∧ ∀ i j : Nat, i < j → j < n → rtR u n (R i) (R j)
theorem Srt_u {R R' : Nat → Nat} (h : Srt u n R) (h' : Srt u n R') : ∀ i : Nat, i < n → R' i = R i := by
  intro i
  induction i using Nat.strongRecOn with
  | _ i ih =>
    intro hi
    obtain ⟨j, j1, j2⟩ := h'.1.2 (R i) (h.1.1 i hi)
    obtain ⟨k, k1, k2⟩ := h.1.2 (R' i) (h'.1.1 i hi)
    by_cases jl : j < i
    · have e := ih j jl j1
      rw [j2] at e
      have := Pmu_i h.1 hi j1 e
      omega
    · by_cases kl : k < i
      · have e := ih k kl k1
        rw [k2] at e
        have := Pmu_i h'.1 k1 hi e
        omega
      · by_cases ej : j = i
        · rw [ej] at j2; exact j2
        · by_cases ek : k = i
          · rw [ek] at k2; exact k2.symm
          · have f1 := h'.2 i j (by omega) j1
            have f2 := h.2 i k (by omega) k1
            rw [j2] at f1
            rw [k2] at f2
            exact absurd f2 (rtR_as f1)
end PRot
