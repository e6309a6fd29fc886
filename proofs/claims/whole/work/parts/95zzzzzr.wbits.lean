/-! THE WRITER, bits: the octets, and how many bits of the last one are written -/
section WBits
variable {q : Nat × (Nat → Int32)}
abbrev Wb := Wt × Nat
def wtAdd (v : Int) (w : Wt) : Wt := (w.1, fun k => if k = w.1 - 1 then w.2 k + v else w.2 k)
theorem wtAdd_1 (v : Int) (w : Wt) : (wtAdd v w).1 = w.1 := rfl
theorem wtAdd_2 (v : Int) (w : Wt) (k : Int) : (wtAdd v w).2 k = if k = w.1 - 1 then w.2 k + v else w.2 k := rfl
theorem wtAdd_a (u v : Int) (w : Wt) : wtAdd v (wtAdd u w) = wtAdd (u + v) w := by
  refine Prod.ext rfl (funext fun k => ?_)
  rw [wtAdd_2, wtAdd_2, wtAdd_2, wtAdd_1]
  by_cases c : k = w.1 - 1
  · rw [if_pos c, if_pos c, if_pos c]
    omega
  · rw [if_neg c, if_neg c, if_neg c]
/-- an octet is open -/
def wbO (s : Wb) : Wt := if s.2 = 0 then wtPut 0 s.1 else s.1
/-- m bits p, the lowest first -/
def wbPc (m : Nat) (p : Int) (s : Wb) : Wb := (wtAdd (p * (2 : Int) ^ s.2) (wbO s), (s.2 + m) % 8)
/-- m bits p, the highest first -/
def wbPh (m : Nat) (p : Int) (s : Wb) : Wb := (wtAdd (p * (2 : Int) ^ (8 - s.2 - m)) (wbO s), (s.2 + m) % 8)
def wbLow : Nat → Int → Wb → Wb
  | 0, _, s => s
  | n + 1, v, s => wbLow n (v / 2) (wbPc 1 (v % 2) s)
def wbHigh : Nat → Int → Wb → Wb
  | 0, _, s => s
  | n + 1, v, s => wbHigh n v (wbPh 1 (v / (2 : Int) ^ n % 2) s)
theorem wbLow_0 (v : Int) (s : Wb) : wbLow 0 v s = s := rfl
theorem wbLow_s (n : Nat) (v : Int) (s : Wb) : wbLow (n + 1) v s = wbLow n (v / 2) (wbPc 1 (v % 2) s) := rfl
theorem wbHigh_0 (v : Int) (s : Wb) : wbHigh 0 v s = s := rfl
theorem wbHigh_s (n : Nat) (v : Int) (s : Wb) : wbHigh (n + 1) v s = wbHigh n v (wbPh 1 (v / (2 : Int) ^ n % 2) s) := rfl
theorem pc_pc {m1 m2 : Nat} {p1 p2 : Int} {s : Wb} (h1 : 1 ≤ m1) (h : s.2 + m1 < 8) : wbPc m2 p2 (wbPc m1 p1 s) = wbPc (m1 + m2) (p1 + p2 * (2 : Int) ^ m1) s := by
  have e2 : (wbPc m1 p1 s).2 = s.2 + m1 := by show (s.2 + m1) % 8 = _; omega
  have eO : wbO (wbPc m1 p1 s) = (wbPc m1 p1 s).1 := by unfold wbO; rw [if_neg (by omega)]
  refine Prod.ext ?_ ?_
  · show wtAdd (p2 * (2 : Int) ^ (wbPc m1 p1 s).2) (wbO (wbPc m1 p1 s)) = wtAdd ((p1 + p2 * (2 : Int) ^ m1) * (2 : Int) ^ s.2) (wbO s)
    rw [eO, e2]
    show wtAdd _ (wtAdd (p1 * (2 : Int) ^ s.2) (wbO s)) = _
    rw [wtAdd_a, Int.add_mul, Int.mul_assoc, ← Int.pow_add, Nat.add_comm m1 s.2]
  · show ((wbPc m1 p1 s).2 + m2) % 8 = (s.2 + (m1 + m2)) % 8
    rw [e2]
    omega
theorem ph_ph {m1 m2 : Nat} {p1 p2 : Int} {s : Wb} (h1 : 1 ≤ m1) (h2 : 1 ≤ m2) (h : s.2 + m1 + m2 ≤ 8) : wbPh m2 p2 (wbPh m1 p1 s) = wbPh (m1 + m2) (p1 * (2 : Int) ^ m2 + p2) s := by
  have e2 : (wbPh m1 p1 s).2 = s.2 + m1 := by show (s.2 + m1) % 8 = _; omega
  have eO : wbO (wbPh m1 p1 s) = (wbPh m1 p1 s).1 := by unfold wbO; rw [if_neg (by omega)]
  refine Prod.ext ?_ ?_
  · show wtAdd (p2 * (2 : Int) ^ (8 - (wbPh m1 p1 s).2 - m2)) (wbO (wbPh m1 p1 s)) = wtAdd ((p1 * (2 : Int) ^ m2 + p2) * (2 : Int) ^ (8 - s.2 - (m1 + m2))) (wbO s)
    rw [eO, e2]
    show wtAdd _ (wtAdd (p1 * (2 : Int) ^ (8 - s.2 - m1)) (wbO s)) = _
    rw [wtAdd_a, Int.add_mul, Int.mul_assoc, ← Int.pow_add, show m2 + (8 - s.2 - (m1 + m2)) = 8 - s.2 - m1 by omega, show 8 - (s.2 + m1) - m2 = 8 - s.2 - (m1 + m2) by omega]
  · show ((wbPh m1 p1 s).2 + m2) % 8 = (s.2 + (m1 + m2)) % 8
    rw [e2]
    omega
theorem pw_mod (v : Int) {m : Nat} (h : m < 8) : v % (2 : Int) ^ (m + 1) = v % 2 + v / 2 % (2 : Int) ^ m * (2 : Int) ^ 1 := by
  have : m = 0 ∨ m = 1 ∨ m = 2 ∨ m = 3 ∨ m = 4 ∨ m = 5 ∨ m = 6 ∨ m = 7 := by omega
  rcases this with e | e | e | e | e | e | e | e <;> subst e <;> omega
theorem pw_div (v : Int) {m : Nat} (h : m < 8) : v / 2 / (2 : Int) ^ m = v / (2 : Int) ^ (m + 1) := by
  have : m = 0 ∨ m = 1 ∨ m = 2 ∨ m = 3 ∨ m = 4 ∨ m = 5 ∨ m = 6 ∨ m = 7 := by omega
  rcases this with e | e | e | e | e | e | e | e <;> subst e <;> omega
theorem low_pc (r : Nat) : ∀ (m : Nat) (v : Int) (s : Wb), 1 ≤ m → s.2 + m ≤ 8 → wbLow (m + r) v s = wbLow r (v / (2 : Int) ^ m) (wbPc m (v % (2 : Int) ^ m) s)
  | 0, _, _, h, _ => absurd h (by omega)
  | 1, v, s, _, _ => by
    rw [Nat.add_comm 1 r, wbLow_s]
    rfl
  | m + 2, v, s, _, h => by
    have e2 : (wbPc 1 (v % 2) s).2 = s.2 + 1 := by show (s.2 + 1) % 8 = _; omega
    rw [show m + 2 + r = (m + 1 + r) + 1 by omega, wbLow_s, low_pc r (m + 1) _ _ (by omega) (by omega), pc_pc (by omega) (by omega), pw_div v (by omega), ← pw_mod v (m := m + 1) (by omega), Nat.add_comm 1 (m + 1)]
theorem pw_top (u : Int) {m : Nat} (h : m < 8) : u / (2 : Int) ^ m % 2 * (2 : Int) ^ m + u % (2 : Int) ^ m = u % (2 : Int) ^ (m + 1) := by
  have : m = 0 ∨ m = 1 ∨ m = 2 ∨ m = 3 ∨ m = 4 ∨ m = 5 ∨ m = 6 ∨ m = 7 := by omega
  rcases this with e | e | e | e | e | e | e | e <;> subst e <;> omega
theorem pw_dd (v : Int) (r : Nat) {m : Nat} (h : m < 8) : v / (2 : Int) ^ r / (2 : Int) ^ m = v / (2 : Int) ^ (m + r) := by
  rw [Int.pow_add, Int.mul_comm, Int.ediv_ediv_of_nonneg (Int.le_of_lt (Int.pow_pos (by decide)))]
theorem high_ph (r : Nat) : ∀ (m : Nat) (v : Int) (s : Wb), 1 ≤ m → s.2 + m ≤ 8 → wbHigh (m + r) v s = wbHigh r v (wbPh m (v / (2 : Int) ^ r % (2 : Int) ^ m) s)
  | 0, _, _, h, _ => absurd h (by omega)
  | 1, v, s, _, _ => by
    rw [Nat.add_comm 1 r, wbHigh_s]
    rfl
  | m + 2, v, s, _, h => by
    have e2 : (wbPh 1 (v / (2 : Int) ^ (m + 1 + r) % 2) s).2 = s.2 + 1 := by show (s.2 + 1) % 8 = _; omega
    rw [show m + 2 + r = (m + 1 + r) + 1 by omega, wbHigh_s, high_ph r (m + 1) _ _ (by omega) (by omega), ph_ph (by omega) (by omega) (by omega), ← pw_dd v r (by omega), pw_top _ (by omega), Nat.add_comm 1 (m + 1)]
/-- the last octet, and its free bits -/
def wbR (hi : Int) (s : Wb) : Prop := (0 ≤ s.1.1 ∧ wtO s.1) ∧ s.2 < 8 ∧ (s.2 ≠ 0 → 1 ≤ s.1.1 ∧ (hi = 0 → s.1.2 (s.1.1 - 1) < (2 : Int) ^ s.2) ∧ (hi = 1 → s.1.2 (s.1.1 - 1) % (2 : Int) ^ (8 - s.2) = 0))
theorem wbO_1 (s : Wb) : (wbO s).1 = s.1.1 + if s.2 = 0 then 1 else 0 := by
  unfold wbO
  by_cases c : s.2 = 0
  · rw [if_pos c, if_pos c]; rfl
  · rw [if_neg c, if_neg c]; omega
theorem wbO_r {hi : Int} {s : Wb} (h : wbR hi s) : 1 ≤ (wbO s).1 ∧ wtO (wbO s) ∧ (hi = 0 → (wbO s).2 ((wbO s).1 - 1) < (2 : Int) ^ s.2) ∧ (hi = 1 → (wbO s).2 ((wbO s).1 - 1) % (2 : Int) ^ (8 - s.2) = 0) := by
  unfold wbO
  by_cases c : s.2 = 0
  · rw [if_pos c, c]
    have e : (wtPut 0 s.1).2 ((wtPut 0 s.1).1 - 1) = 0 := by
      show (if s.1.1 + 1 - 1 = s.1.1 then (0 : Int) % 256 else _) = 0
      rw [if_pos (by omega)]
      rfl
    refine ⟨by rw [wtPut_1]; have := h.1.1; omega, fun k => ?_, fun _ => by rw [e]; decide, fun _ => by rw [e]; decide⟩
    show 0 ≤ (if k = s.1.1 then (0 : Int) % 256 else s.1.2 k) ∧ (if k = s.1.1 then (0 : Int) % 256 else s.1.2 k) < 256
    by_cases d : k = s.1.1
    · rw [if_pos d]; decide
    · rw [if_neg d]; exact h.1.2 k
  · rw [if_neg c]
    exact ⟨(h.2.2 c).1, h.1.2, (h.2.2 c).2.1, (h.2.2 c).2.2⟩
theorem wbPc_r {m : Nat} {p : Int} {s : Wb} (h : wbR 0 s) (hm : 1 ≤ m ∧ s.2 + m ≤ 8) (hp : 0 ≤ p ∧ p < (2 : Int) ^ m) : wbR 0 (wbPc m p s) := by
  obtain ⟨a1, a2, a3, -⟩ := wbO_r h
  have a3 := a3 rfl
  obtain ⟨L, eL⟩ : ∃ L, L = (wbO s).2 ((wbO s).1 - 1) := ⟨_, rfl⟩
  rw [← eL] at a3
  have L0 : 0 ≤ L := by rw [eL]; exact (a2 _).1
  have e1 : (wbPc m p s).1.1 = (wbO s).1 := rfl
  have e2 : ∀ k, (wbPc m p s).1.2 k = if k = (wbO s).1 - 1 then (wbO s).2 k + p * (2 : Int) ^ s.2 else (wbO s).2 k := fun k => rfl
  have hP : L + p * (2 : Int) ^ s.2 < (2 : Int) ^ (s.2 + m) := by
    have : (p + 1) * (2 : Int) ^ s.2 ≤ (2 : Int) ^ m * (2 : Int) ^ s.2 := Int.mul_le_mul_of_nonneg_right (by omega) (Int.le_of_lt (Int.pow_pos (by decide)))
    rw [← Int.pow_add, Int.add_mul, Int.one_mul, Nat.add_comm m s.2] at this
    omega
  have h0 : 0 ≤ p * (2 : Int) ^ s.2 := Int.mul_nonneg hp.1 (Int.le_of_lt (Int.pow_pos (by decide)))
  have h256 : (2 : Int) ^ (s.2 + m) ≤ 256 := by
    have : s.2 + m ≤ 8 := hm.2
    have y : (2 : Nat) ^ (s.2 + m) ≤ 2 ^ 8 := Nat.pow_le_pow_right (by decide) this
    have z : (2 : Int) ^ (s.2 + m) = ((2 ^ (s.2 + m) : Nat) : Int) := by rw [Int.natCast_pow]; rfl
    rw [z]
    omega
  refine ⟨⟨by rw [e1]; omega, fun k => ?_⟩, by show (s.2 + m) % 8 < 8; omega, fun c => ⟨by rw [e1]; exact a1, fun _ => ?_, fun y => absurd y (by decide)⟩⟩
  · rw [e2]
    by_cases c : k = (wbO s).1 - 1
    · rw [if_pos c, c, ← eL]; omega
    · rw [if_neg c]; exact a2 k
  · have c' : (s.2 + m) % 8 ≠ 0 := c
    rw [e1, e2, if_pos rfl, ← eL, show (wbPc m p s).2 = s.2 + m by show (s.2 + m) % 8 = _; omega]
    exact hP
theorem wbPh_r {m : Nat} {p : Int} {s : Wb} (h : wbR 1 s) (hm : 1 ≤ m ∧ s.2 + m ≤ 8) (hp : 0 ≤ p ∧ p < (2 : Int) ^ m) : wbR 1 (wbPh m p s) := by
  obtain ⟨a1, a2, -, a3⟩ := wbO_r h
  have a3 := a3 rfl
  obtain ⟨L, eL⟩ : ∃ L, L = (wbO s).2 ((wbO s).1 - 1) := ⟨_, rfl⟩
  rw [← eL] at a3
  have L0 : 0 ≤ L ∧ L < 256 := by rw [eL]; exact a2 _
  have e1 : (wbPh m p s).1.1 = (wbO s).1 := rfl
  have e2 : ∀ k, (wbPh m p s).1.2 k = if k = (wbO s).1 - 1 then (wbO s).2 k + p * (2 : Int) ^ (8 - s.2 - m) else (wbO s).2 k := fun k => rfl
  obtain ⟨c8, ec8⟩ : ∃ c8 : Nat, c8 = 8 - s.2 - m := ⟨_, rfl⟩
  have e8 : 8 - s.2 = m + c8 := by omega
  rw [e8, Int.pow_add] at a3
  rw [← ec8] at e2
  have h0 : 0 ≤ p * (2 : Int) ^ c8 := Int.mul_nonneg hp.1 (Int.le_of_lt (Int.pow_pos (by decide)))
  have d1 : (2 : Int) ^ c8 ∣ L := Int.dvd_trans ⟨(2 : Int) ^ m, Int.mul_comm _ _⟩ (Int.dvd_of_emod_eq_zero a3)
  have d2 : (2 : Int) ^ c8 ∣ L + p * (2 : Int) ^ c8 := Int.dvd_add d1 ⟨p, Int.mul_comm _ _⟩
  have hP : L + p * (2 : Int) ^ c8 < 256 := by
    have b1 : p * (2 : Int) ^ c8 < (2 : Int) ^ m * (2 : Int) ^ c8 := Int.mul_lt_mul_of_pos_right hp.2 (Int.pow_pos (by decide))
    have hm8 : 1 ≤ m ∧ m ≤ 8 ∧ c8 ≤ 7 ∧ m + c8 ≤ 8 := by omega
    rw [← Int.pow_add] at a3 b1
    obtain ⟨mc, emc⟩ : ∃ mc : Nat, mc = m + c8 := ⟨_, rfl⟩
    rw [← emc] at a3 b1
    have : mc = 1 ∨ mc = 2 ∨ mc = 3 ∨ mc = 4 ∨ mc = 5 ∨ mc = 6 ∨ mc = 7 ∨ mc = 8 := by omega
    clear emc e8 ec8 d1 d2 e2 e1
    generalize p * (2 : Int) ^ c8 = P at *
    rcases this with e | e | e | e | e | e | e | e <;> subst e <;> omega
  refine ⟨⟨by rw [e1]; omega, fun k => ?_⟩, by show (s.2 + m) % 8 < 8; omega, fun c => ⟨by rw [e1]; exact a1, fun y => absurd y (by decide), fun _ => ?_⟩⟩
  · rw [e2]
    by_cases c : k = (wbO s).1 - 1
    · rw [if_pos c, c, ← eL]; omega
    · rw [if_neg c]; exact a2 k
  · have c' : (s.2 + m) % 8 ≠ 0 := c
    rw [e1, e2, if_pos rfl, ← eL, show (wbPh m p s).2 = s.2 + m by show (s.2 + m) % 8 = _; omega, show 8 - (s.2 + m) = c8 by omega]
    exact Int.emod_eq_zero_of_dvd d2
theorem wbLow_r : ∀ (n : Nat) (v : Int) (s : Wb), wbR 0 s → wbR 0 (wbLow n v s)
  | 0, _, _, h => h
  | n + 1, v, s, h => by
    rw [wbLow_s]
    exact wbLow_r n _ _ (wbPc_r h ⟨by omega, by have := h.2.1; omega⟩ (by show 0 ≤ v % 2 ∧ v % 2 < 2; omega))
theorem wbHigh_r : ∀ (n : Nat) (v : Int) (s : Wb), wbR 1 s → wbR 1 (wbHigh n v s)
  | 0, _, _, h => h
  | n + 1, v, s, h => by
    rw [wbHigh_s]
    exact wbHigh_r n _ _ (wbPh_r h ⟨by omega, by have := h.2.1; omega⟩ (by show 0 ≤ v / (2 : Int) ^ n % 2 ∧ v / (2 : Int) ^ n % 2 < 2; omega))
/-- how many octets there may be behind n bits -/
theorem wbPc_n (p : Int) (s : Wb) : s.1.1 ≤ (wbPc 1 p s).1.1 ∧ (wbPc 1 p s).1.1 ≤ s.1.1 + 1 := by
  show s.1.1 ≤ (wbO s).1 ∧ (wbO s).1 ≤ s.1.1 + 1
  rw [wbO_1]
  split <;> omega
theorem wbPh_n (p : Int) (s : Wb) : s.1.1 ≤ (wbPh 1 p s).1.1 ∧ (wbPh 1 p s).1.1 ≤ s.1.1 + 1 := by
  show s.1.1 ≤ (wbO s).1 ∧ (wbO s).1 ≤ s.1.1 + 1
  rw [wbO_1]
  split <;> omega
theorem wbLow_n : ∀ (n : Nat) (v : Int) (s : Wb), s.1.1 ≤ (wbLow n v s).1.1 ∧ (wbLow n v s).1.1 ≤ s.1.1 + n
  | 0, _, s => by rw [wbLow_0]; omega
  | n + 1, v, s => by
    rw [wbLow_s]
    have h1 := wbLow_n n (v / 2) (wbPc 1 (v % 2) s)
    have h2 := wbPc_n (v % 2) s
    omega
theorem wbHigh_n : ∀ (n : Nat) (v : Int) (s : Wb), s.1.1 ≤ (wbHigh n v s).1.1 ∧ (wbHigh n v s).1.1 ≤ s.1.1 + n
  | 0, _, s => by rw [wbHigh_0]; omega
  | n + 1, v, s => by
    rw [wbHigh_s]
    have h1 := wbHigh_n n v (wbPh 1 (v / (2 : Int) ^ n % 2) s)
    have h2 := wbPh_n (v / (2 : Int) ^ n % 2) s
    omega
end WBits
