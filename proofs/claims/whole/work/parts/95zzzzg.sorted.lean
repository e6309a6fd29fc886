/-! SORTED: the order of a row: a count sort, and 256 passes -/
section SrtD
variable {q : Nat × (Nat → Int32)}
def ctE (f : Int → Int) (v : Int) : Nat → Int
  | 0 => 0
  | n + 1 => ctE f v n + (if f n = v then 1 else 0)
def ctL (f : Int → Int) (n : Nat) : Nat → Int
  | 0 => 0
  | v + 1 => ctL f n v + ctE f v n
theorem ctE_s (f : Int → Int) (v : Int) (n : Nat) : ctE f v (n + 1) = ctE f v n + (if f n = v then 1 else 0) := rfl
theorem ctL_s (f : Int → Int) (n v : Nat) : ctL f n (v + 1) = ctL f n v + ctE f v n := rfl
theorem ctE_y {f : Int → Int} {v : Int} {n : Nat} (h : f n = v) : ctE f v (n + 1) = ctE f v n + 1 := by rw [ctE_s, if_pos h]
theorem ctE_n {f : Int → Int} {v : Int} {n : Nat} (h : f n ≠ v) : ctE f v (n + 1) = ctE f v n := by rw [ctE_s, if_neg h, Int.add_zero]
theorem ctE_0 (f : Int → Int) (v : Int) : ∀ n : Nat, 0 ≤ ctE f v n ∧ ctE f v n ≤ n := by
  intro n
  induction n with
  | zero => exact ⟨Int.le_refl _, Int.le_refl _⟩
  | succ n ih =>
    by_cases c : f n = v
    · rw [ctE_y c]; omega
    · rw [ctE_n c]; omega
theorem ctE_m (f : Int → Int) (v : Int) {k : Nat} : ∀ {n : Nat}, k ≤ n → ctE f v k ≤ ctE f v n := by
  intro n
  induction n with
  | zero => intro h; rw [show k = 0 by omega]; exact Int.le_refl _
  | succ n ih =>
    intro h
    by_cases d : k = n + 1
    · subst d; exact Int.le_refl _
    · have := ih (by omega)
      by_cases c : f n = v
      · rw [ctE_y c]; omega
      · rw [ctE_n c]; omega
theorem ctE_lt {f : Int → Int} {v : Int} {k n : Nat} (hk : k < n) (h : f k = v) : ctE f v k < ctE f v n := by
  have := ctE_m f v (show k + 1 ≤ n by omega)
  rw [ctE_y h] at this
  omega
theorem ctL_m (f : Int → Int) (n : Nat) {u : Nat} : ∀ {v : Nat}, u ≤ v → ctL f n u ≤ ctL f n v := by
  intro v
  induction v with
  | zero => intro h; rw [show u = 0 by omega]; exact Int.le_refl _
  | succ v ih =>
    intro h
    by_cases d : u = v + 1
    · subst d; exact Int.le_refl _
    · have := ih (by omega)
      have := (ctE_0 f v n).1
      rw [ctL_s]; omega
theorem ctL_n {f : Int → Int} {n : Nat} (h0 : 0 ≤ f n) : ∀ v : Nat, ctL f (n + 1) v = ctL f n v + (if f n < v then 1 else 0) := by
  intro v
  induction v with
  | zero => rw [if_neg (by omega)]; rfl
  | succ v ih =>
    rw [ctL_s, ctL_s, ih]
    by_cases c : f n = v
    · rw [ctE_y c, if_neg (by omega), if_pos (by omega)]; omega
    · rw [ctE_n c]
      by_cases d : f n < v
      · rw [if_pos d, if_pos (by omega)]; omega
      · rw [if_neg d, if_neg (by omega)]; omega
theorem ctL_all {f : Int → Int} : ∀ n : Nat, (∀ k : Nat, k < n → 0 ≤ f k ∧ f k < 256) → ctL f n 256 = n := by
  intro n
  induction n with
  | zero =>
    intro _
    have : ∀ v : Nat, ctL f 0 v = 0 := by
      intro v
      induction v with
      | zero => rfl
      | succ v ih => rw [ctL_s, ih]; rfl
    exact this 256
  | succ n ih =>
    intro h
    have h1 := h n (by omega)
    rw [ctL_n h1.1, ih (fun k hk => h k (by omega)), if_pos (by omega)]
    omega
/-- the place of the k-th octet in order -/
def psF (f : Int → Int) (n k : Nat) : Int := ctL f n (f k).toNat + ctE f (f k) k
theorem psF_rg {f : Int → Int} {n k : Nat} (hk : k < n) (h : ∀ k : Nat, k < n → 0 ≤ f k ∧ f k < 256) : 0 ≤ psF f n k ∧ psF f n k < n := by
  have h1 := h k hk
  have a := (ctE_0 f (f k) k).1
  have b := ctL_m f n (Nat.zero_le (f k).toNat)
  have c := ctE_lt (v := f k) hk rfl
  have d := ctL_m f n (show (f k).toNat + 1 ≤ 256 by omega)
  rw [ctL_s, ctL_all n h, show (((f k).toNat : Nat) : Int) = f k by omega] at d
  unfold psF
  have e : ctL f n 0 = 0 := rfl
  omega
theorem psF_ne {f : Int → Int} {n k i : Nat} (hk : k < i) (hi : i < n) (h : ∀ k : Nat, k < n → 0 ≤ f k ∧ f k < 256) : psF f n k ≠ psF f n i := by
  have h1 := h k (by omega)
  have h2 := h i hi
  unfold psF
  have ak := (ctE_0 f (f k) k).1
  have ai := (ctE_0 f (f i) i).1
  have ck := ctE_lt (v := f k) (show k < n by omega) rfl
  have ci := ctE_lt (v := f i) hi rfl
  by_cases c : f k = f i
  · have := ctE_lt (v := f i) hk c
    rw [c]; omega
  · by_cases d : f k < f i
    · have e := ctL_m f n (show (f k).toNat + 1 ≤ (f i).toNat by omega)
      rw [ctL_s, show (((f k).toNat : Nat) : Int) = f k by omega] at e
      omega
    · have e := ctL_m f n (show (f i).toNat + 1 ≤ (f k).toNat by omega)
      rw [ctL_s, show (((f i).toNat : Nat) : Int) = f i by omega] at e
      omega
end SrtD
