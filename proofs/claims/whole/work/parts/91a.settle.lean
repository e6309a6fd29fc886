/-! CONTRACTS over any list of shapes: Arrays.fill, Code.mirror, Code.settle -/
section PSet
variable {q : Nat × (Nat → Int32)} {sx : List sh_T}
theorem wC_0 (S : ms) (a : Nat) (i : Int) (f : Int → Int) : wC S a i 0 f = S := by
  unfold wC
  congr 1
  funext b k
  exact if_neg (by omega)
theorem wC_s (S : ms) (a : Nat) (i x : Int) (hi : 0 ≤ i) : wI (wC S a 0 i (fun _ => x)) a i x = wC S a 0 (i + 1) (fun _ => x) := by
  unfold wC wI
  congr 1
  funext b k
  dsimp only
  by_cases h1 : b = a
  · by_cases h2 : k = i
    · rw [if_pos ⟨h1, h2⟩, if_pos ⟨h1, by omega, by omega⟩]
    · rw [if_neg (fun z => h2 z.2)]
      by_cases h3 : 0 ≤ k ∧ k < 0 + i
      · rw [if_pos ⟨h1, h3⟩, if_pos ⟨h1, by omega, by omega⟩]
      · rw [if_neg (fun z => h3 z.2), if_neg (fun z => h3 ⟨z.2.1, by omega⟩)]
  · rw [if_neg (fun z => h1 z.1), if_neg (fun z => h1 z.1), if_neg (fun z => h1 z.1)]
theorem lp_fill (hsx : sx.length ≤ en_b) {S : ms} {a n : Nat} (h : sg sx a = (0, n, [])) (hn : n < 2147483648) (x : Int) : ∀ (t : Nat) (i : Int), 0 ≤ i → i + t = n → EW q sx 0 0 11 5 [some (.ref a), some (vI x), some (vI i), some (vI (n : Nat))] [] (wC S a 0 i (fun _ => x)) none (wC S a 0 n (fun _ => x)) := by
  intro t
  induction t with
  | zero =>
    intro i h0 hi
    have e : i = n := by omega
    subst e
    exact pc_Arrays_fill11_5 hsx x _ _ a n h ⟨fun _ => ⟨rfl, rfl⟩, fun c => absurd (Int.le_refl _) c⟩
  | succ t ih =>
    intro i h0 hi
    have e1 : w32 i = i := w32_of (by omega)
    have e2 : w32 (n : Nat) = (n : Nat) := w32_of (by omega)
    refine pc_Arrays_fill11_5 hsx x i _ a n h ⟨fun c => ?_, fun _ => ⟨?_, fun S2 e => ?_⟩⟩
    · rw [e1, e2] at c
      omega
    · rw [e1]
      omega
    · rw [e1, wC_s S a i x h0] at e
      subst e
      exact ih (i + 1) (by omega) (by omega)
theorem sp_fill (hsx : sx.length ≤ en_b) {S : ms} {a n : Nat} (h : sg sx a = (0, n, [])) (hn : n < 2147483648) (x : Int) : EW q sx 0 0 11 0 [some (.ref a), some (vI x), none, none] [] S none (wC S a 0 n (fun _ => x)) := by
  refine pc_Arrays_fill11 hsx x a n h ?_
  have := lp_fill (q := q) (S := S) hsx h hn x n 0 (by decide) (by omega)
  rw [wC_0] at this
  exact this
/-- the bits of v from i on, t of them, behind those of acc -/
def mirG (v : Int) : Nat → Int → Int → Int
  | 0, _, acc => acc
  | t + 1, i, acc => mirG v t (i + 1) (bO (acc * 2) ((w32 v / ((2 : Int) ^ (i % 32).toNat)) % 2))
theorem lp_mirror (hsx : sx.length ≤ en_b) {S : ms} {v n : Int} (hn : n < 2147483648) : ∀ (t : Nat) (i acc : Int), 0 ≤ i → i + t = n → EW q sx 0 0 12 4 [some (vI v), some (vI n), some (vI acc), some (vI i)] [] S (some (vI (mirG v t i acc))) S := by
  intro t
  induction t with
  | zero =>
    intro i acc h0 hi
    have e : i = n := by omega
    subst e
    exact pc_Code_mirror_4 hsx v _ acc _ ⟨fun _ => ⟨rfl, rfl⟩, fun c => absurd (Int.le_refl _) c⟩
  | succ t ih =>
    intro i acc h0 hi
    have e1 : w32 i = i := w32_of (by omega)
    have e2 : w32 n = n := w32_of (by omega)
    refine pc_Code_mirror_4 hsx v n acc i ⟨fun c => ?_, fun _ => ?_⟩
    · rw [e1, e2] at c
      omega
    · exact ih (i + 1) _ (by omega) (by omega)
theorem sp_mirror (hsx : sx.length ≤ en_b) {S : ms} (v n : Int) (h0 : 0 ≤ n) (hn : n < 2147483648) : EW q sx 0 0 12 0 [some (vI v), some (vI n), none, none] [] S (some (vI (mirG v n.toNat 0 0))) S :=
  pc_Code_mirror hsx v n (lp_mirror hsx hn n.toNat 0 0 (by decide) (by omega))
/-! counting lengths -/
def cN (l : Int → Int) (k : Int) : Nat → Int
  | 0 => 0
  | m + 1 => cN l k m + (if l m = k then 1 else 0)
/-- how many have a length 1 .. K -/
def cP (l : Int → Int) (m : Nat) : Nat → Int
  | 0 => 0
  | K + 1 => cP l m K + cN l (K + 1 : Nat) m
/-- the first code of length K + 1 -/
def cC (l : Int → Int) (m : Nat) : Nat → Int
  | 0 => 0
  | K + 1 => (cC l m K + cN l (K + 1 : Nat) m) * 2
def cU (l : Int → Int) : Nat → Int
  | 0 => 0
  | m + 1 => cU l m + (if 0 < l m then 1 else 0)
def cS (l : Int → Int) : Nat → Int
  | 0 => 0
  | m + 1 => cS l m + (if 0 < l m then w32 1048576 / ((2 : Int) ^ (l m % 32).toNat) else 0)
def cG (l : Int → Int) : Nat → Int
  | 0 => 0
  | m + 1 => if 0 < l m then max (cG l m) (l m) else cG l m
theorem cN_0 (l : Int → Int) (k : Int) : ∀ m, 0 ≤ cN l k m ∧ cN l k m ≤ m
  | 0 => ⟨Int.le_refl _, Int.le_refl _⟩
  | m + 1 => by
    have := cN_0 l k m
    show 0 ≤ cN l k m + (if l m = k then 1 else 0) ∧ cN l k m + (if l m = k then 1 else 0) ≤ (m + 1 : Nat)
    split <;> omega
theorem cN_mono (l : Int → Int) (k : Int) {m n : Nat} (h : m ≤ n) : cN l k m ≤ cN l k n := by
  induction h with
  | refl => exact Int.le_refl _
  | step _ ih =>
    rename_i n' _
    have : cN l k (n' + 1) = cN l k n' + (if l n' = k then 1 else 0) := rfl
    rw [this]
    split <;> omega
theorem cN_lt (l : Int → Int) {m n : Nat} (h : m < n) : cN l (l m) m + 1 ≤ cN l (l m) n := by
  have h1 : cN l (l m) (m + 1) = cN l (l m) m + 1 := by
    show cN l (l m) m + (if l m = l m then 1 else 0) = _
    rw [if_pos rfl]
  rw [← h1]
  exact cN_mono l (l m) h
theorem cP_s (l : Int → Int) (m K : Nat) : cP l (m + 1) K = cP l m K + (if 1 ≤ l m ∧ l m ≤ K then 1 else 0) := by
  induction K with
  | zero =>
    show (0 : Int) = 0 + _
    rw [if_neg (by omega)]
    rfl
  | succ K ih =>
    show cP l (m + 1) K + (cN l (K + 1 : Nat) m + (if l m = (K + 1 : Nat) then 1 else 0)) = cP l m K + cN l (K + 1 : Nat) m + _
    rw [ih]
    by_cases h : l m = (K + 1 : Nat)
    · rw [if_pos h, if_neg (by omega), if_pos (by omega)]
      omega
    · rw [if_neg h]
      by_cases h2 : 1 ≤ l m ∧ l m ≤ K
      · rw [if_pos h2, if_pos (by omega)]
        omega
      · rw [if_neg h2, if_neg (by omega)]
        omega
theorem cP_0 (l : Int → Int) (K : Nat) : cP l 0 K = 0 := by
  induction K with
  | zero => rfl
  | succ K ih =>
    show cP l 0 K + 0 = 0
    rw [ih]
    rfl
theorem cP_le (l : Int → Int) (m K : Nat) : 0 ≤ cP l m K ∧ cP l m K ≤ m := by
  induction m with
  | zero => rw [cP_0]; exact ⟨Int.le_refl _, Int.le_refl _⟩
  | succ m ih =>
    rw [cP_s]
    split <;> omega
/-- the place of symbol m among n: below n -/
theorem cP_lt (l : Int → Int) {m n K : Nat} (hl : l m = (K + 1 : Nat)) (h : m < n) : 0 ≤ cP l n K + cN l (K + 1 : Nat) m ∧ cP l n K + cN l (K + 1 : Nat) m < n := by
  have h1 := cP_le l n K
  have h2 := cN_0 l (K + 1 : Nat) m
  have h3 : cP l n (K + 1) = cP l n K + cN l (K + 1 : Nat) n := rfl
  have h4 := cP_le l n (K + 1)
  have h5 := cN_lt l h
  rw [hl] at h5
  omega
end PSet
