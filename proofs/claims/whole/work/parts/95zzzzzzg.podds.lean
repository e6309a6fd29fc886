/-! pack: ODDS; the numbers alone: the carry stops behind the head, and the octets stay below 24000 -/
section POddsA
def gO (o : Int) : Nat := if 129 ≤ o ∧ o ≤ 1919 then 0 else if 68 ≤ o ∧ o ≤ 1980 then 1 else 4
def mvO (b o : Int) : Int := if b = 0 then o + (2048 - o) / 32 else o - o / 32
theorem mvO_0 (o : Int) : mvO 0 o = o + (2048 - o) / 32 := if_pos rfl
theorem mvO_1 (o : Int) : mvO 1 o = o - o / 32 := if_neg (by decide)
theorem gO_t : ∀ i : Fin 1987, ((31 ≤ mvO 0 (i.val + 31) ∧ mvO 0 (i.val + 31) ≤ 2017) ∧ (31 ≤ mvO 1 (i.val + 31) ∧ mvO 1 (i.val + 31) ≤ 2017)) ∧ (2 : Int) ^ gO (mvO 0 (i.val + 31)) * 16777216 ≤ 131056 * (2 : Int) ^ gO (i.val + 31) * (i.val + 31) ∧ (2 : Int) ^ gO (mvO 1 (i.val + 31)) * 2048 ≤ 16 * (2 : Int) ^ gO (i.val + 31) * (2048 - (i.val + 31)) := by decide +kernel
theorem gO_r {o : Int} (h : 31 ≤ o ∧ o ≤ 2017) : ((31 ≤ mvO 0 o ∧ mvO 0 o ≤ 2017) ∧ (31 ≤ mvO 1 o ∧ mvO 1 o ≤ 2017)) ∧ (2 : Int) ^ gO (mvO 0 o) * 16777216 ≤ 131056 * (2 : Int) ^ gO o * o ∧ (2 : Int) ^ gO (mvO 1 o) * 2048 ≤ 16 * (2 : Int) ^ gO o * (2048 - o) := by
  have k := gO_t ⟨(o - 31).toNat, by omega⟩
  have e : (((o - 31).toNat : Nat) : Int) + 31 = o := by omega
  rw [show ((⟨(o - 31).toNat, by omega⟩ : Fin 1987).val) = (o - 31).toNat from rfl, e] at k
  exact k
/-- one bit: the new range against the old -/
theorem bd_0 {ra o d G G' : Int} (hra : 16777216 ≤ ra) (hd : d = ra / 2048) (ho : 31 ≤ o ∧ o ≤ 2017) (hG : 0 ≤ G ∧ 0 ≤ G') (h : G' * 16777216 ≤ 131056 * G * o) : G' * ra ≤ 16 * (d * o) * G := by
  have d0 : 0 ≤ d := by omega
  have h1 : ra * 8191 ≤ d * 16777216 := by omega
  have h2 := Int.mul_le_mul_of_nonneg_left h1 hG.2
  have h3 := Int.mul_le_mul_of_nonneg_right h d0
  have e1 : G' * (ra * 8191) = 8191 * (G' * ra) := by rw [← Int.mul_assoc, Int.mul_comm]
  have e2 : G' * (d * 16777216) = 16777216 * (G' * d) := by rw [← Int.mul_assoc, Int.mul_comm]
  have e3 : G' * 16777216 * d = 16777216 * (G' * d) := by rw [Int.mul_comm G', Int.mul_assoc]
  have e4 : 131056 * G * o * d = 131056 * (d * o * G) := by rw [Int.mul_assoc, Int.mul_assoc, Int.mul_comm o d, Int.mul_comm G]
  have e5 : 16 * (d * o) * G = 16 * (d * o * G) := Int.mul_assoc _ _ _
  rw [e1, e2] at h2
  rw [e3, e4] at h3
  rw [e5]
  omega
theorem bd_1 {ra o d G G' : Int} (hra : 16777216 ≤ ra) (hd : d = ra / 2048) (ho : 31 ≤ o ∧ o ≤ 2017) (hG : 0 ≤ G ∧ 0 ≤ G') (h : G' * 2048 ≤ 16 * G * (2048 - o)) : G' * ra ≤ 16 * (ra - d * o) * G := by
  have h1 : d * 2048 ≤ ra := by omega
  have h2 := Int.mul_le_mul_of_nonneg_right h1 (show 0 ≤ o by omega)
  have h3 := Int.mul_le_mul_of_nonneg_right h (show 0 ≤ ra by omega)
  have e2 : d * 2048 * o = 2048 * (d * o) := by rw [Int.mul_comm d, Int.mul_assoc]
  have e3 : G' * 2048 * ra = 2048 * (G' * ra) := by rw [Int.mul_comm G', Int.mul_assoc]
  rw [e2] at h2
  have h4 : (2048 - o) * ra ≤ 2048 * (ra - d * o) := by
    rw [Int.sub_mul, Int.mul_comm o ra]
    omega
  have h5 := Int.mul_le_mul_of_nonneg_left h4 (show 0 ≤ 16 * G by omega)
  have e4 : 16 * G * (2048 - o) * ra = 16 * G * ((2048 - o) * ra) := Int.mul_assoc _ _ _
  have e5 : 16 * G * (2048 * (ra - d * o)) = 2048 * (16 * (ra - d * o) * G) := by
    rw [← Int.mul_assoc, Int.mul_comm (16 * G) 2048, Int.mul_assoc, Int.mul_assoc 16 G, Int.mul_comm G, ← Int.mul_assoc 16]
  rw [e3, e4] at h3
  rw [e5] at h5
  omega
theorem bd_r {ra o d : Int} (hra : 16777216 ≤ ra ∧ ra < 4294967296) (hd : d = ra / 2048) (ho : 31 ≤ o ∧ o ≤ 2017) : (131072 ≤ d * o ∧ d * o < 4294967296) ∧ (131072 ≤ ra - d * o) := by
  have h1 := Int.mul_le_mul_of_nonneg_left ho.1 (show 0 ≤ d by omega)
  have h2 := Int.mul_le_mul_of_nonneg_left ho.2 (show 0 ≤ d by omega)
  omega
/-- octets 2 .. as one number -/
def vlF (f : Int → Int) : Nat → Int
  | 0 => 0
  | m + 1 => 256 * vlF f m + f (2 + m)
theorem vlF_s (f : Int → Int) (m : Nat) : vlF f (m + 1) = 256 * vlF f m + f (2 + m) := rfl
theorem vlF_cg {f g : Int → Int} : ∀ m : Nat, (∀ k : Nat, k < m → f (2 + k) = g (2 + k)) → vlF f m = vlF g m
  | 0, _ => rfl
  | m + 1, h => by rw [vlF_s, vlF_s, vlF_cg m (fun k hk => h k (by omega)), h m (by omega)]
/-- one more, at j -/
def wtCar (j : Int) (w : Wt) : Wt := (w.1, fun k => if k = j then w.2 k + 1 else if j < k ∧ k < w.1 then 0 else w.2 k)
theorem wtCar_2 (j : Int) (w : Wt) (k : Int) : (wtCar j w).2 k = if k = j then w.2 k + 1 else if j < k ∧ k < w.1 then 0 else w.2 k := rfl
def isJ (j : Int) (w : Wt) : Prop := (2 ≤ j ∧ j < w.1) ∧ w.2 j ≠ 255 ∧ ∀ k : Int, j < k → k < w.1 → w.2 k = 255
theorem vl_ex (f : Int → Int) : ∀ m : Nat, vlF f m + 1 < (256 : Int) ^ m → ∃ j : Int, (2 ≤ j ∧ j < 2 + m) ∧ f j ≠ 255 ∧ ∀ k : Int, j < k → k < 2 + m → f k = 255
  | 0, h => absurd h (by show ¬ (0 : Int) + 1 < 1; decide)
  | m + 1, h => by
    by_cases c : f (2 + m) = 255
    · rw [vlF_s, c, Int.pow_succ] at h
      obtain ⟨j, j1, j2, j3⟩ := vl_ex f m (by omega)
      refine ⟨j, by omega, j2, fun k k1 k2 => ?_⟩
      by_cases e : k = 2 + m
      · rw [e]; exact c
      · exact j3 k k1 (by omega)
    · exact ⟨2 + m, by omega, c, fun k k1 k2 => absurd k2 (by omega)⟩
theorem vl_car {w : Wt} {j : Int} (hj : isJ j w) : ∀ m : Nat, j < 2 + (m : Int) → 2 + (m : Int) ≤ w.1 → vlF (wtCar j w).2 m = vlF w.2 m + 1
  | 0, h, _ => by have := hj.1; omega
  | m + 1, h, h2 => by
    rw [vlF_s, vlF_s, wtCar_2]
    by_cases e : (2 : Int) + m = j
    · rw [if_pos e, vlF_cg (g := w.2) m (fun k hk => by rw [wtCar_2, if_neg (by omega), if_neg (by omega)])]
      omega
    · rw [if_neg e, if_pos (by omega), vl_car hj m (by omega) (by omega), hj.2.2 (2 + m) (by omega) (by omega)]
      omega
theorem wtCar_O {w : Wt} {j : Int} (hj : isJ j w) (h : wtO w) : wtO (wtCar j w) := fun k => by
  rw [wtCar_2]
  have := h k
  split
  · rename_i e
    have h2 := hj.2.1
    rw [← e] at h2
    omega
  · split <;> omega
def OI (n m : Nat) (lo ra : Int) (O : Int → Int) (w : Wt) : Prop := (0 ≤ lo ∧ lo < 4294967296) ∧ (16777216 ≤ ra ∧ ra < 4294967296) ∧ (∀ k : Int, 0 ≤ k → k < 65536 → 31 ≤ O k ∧ O k ≤ 2017) ∧ (w.1 = 2 + m ∧ wtO w) ∧ vlF w.2 m * 4294967296 + lo + ra ≤ (256 : Int) ^ m * 4294967296 ∧ ∃ g : Nat, sm (fun k => (gO (O k) : Int)) 65536 = g ∧ 4294967295 * (2 : Int) ^ (8 * m + g) ≤ ra * (2 : Int) ^ (4 * n)
theorem OI_m {n m : Nat} {lo ra : Int} {O : Int → Int} {w : Wt} (h : OI n m lo ra O w) : 2 * m ≤ n := by
  obtain ⟨_, h2, _, _, _, g, _, h3⟩ := h
  by_cases c : 2 * m ≤ n
  · exact c
  exfalso
  obtain ⟨e, he⟩ : ∃ e, 8 * m + g = 4 * n + 1 + e := ⟨8 * m + g - 4 * n - 1, by omega⟩
  rw [he, Int.pow_add, Int.pow_succ] at h3
  have p1 : (0 : Int) < (2 : Int) ^ (4 * n) := Int.pow_pos (by decide)
  have p2 : (0 : Int) < (2 : Int) ^ e := Int.pow_pos (by decide)
  obtain ⟨P, eP⟩ : ∃ P, P = (2 : Int) ^ (4 * n) := ⟨_, rfl⟩
  obtain ⟨Q, eQ⟩ : ∃ Q, Q = (2 : Int) ^ e := ⟨_, rfl⟩
  rw [← eP] at p1 h3
  rw [← eQ] at p2 h3
  have h4 : P * 2 * 1 ≤ P * 2 * Q := Int.mul_le_mul_of_nonneg_left (by omega) (by omega)
  have h5 : ra * P ≤ 4294967295 * P := Int.mul_le_mul_of_nonneg_right (by omega) (by omega)
  omega
theorem ax_1 {a b c d : Int} (h1 : a ≤ b) (h2 : a = c + d) (h3 : 0 ≤ c) : d ≤ b := by omega
theorem ax_2 {g a : Nat} (h : (a : Int) ≤ g) : g = g - a + a := by omega
theorem ax_3 {s : Int} {g g0 a b : Nat} (h : s = (g : Int) + ((b : Int) - a)) (e : g = g0 + a) : s = ((g0 + b : Nat) : Int) := by omega
/-- the bit, before the carry and the shift -/
theorem OI_bit {n m : Nat} {lo ra : Int} {O : Int → Int} {w : Wt} {b : Int} {k : Int} (h : OI n m lo ra O w) (hb : b = 0 ∨ b = 1) (hk : 0 ≤ k ∧ k < 65536) : ∃ g : Nat, sm (fun i => (gO (if (i : Int) = k then mvO b (O k) else O i) : Int)) 65536 = g ∧ 4294967295 * (2 : Int) ^ (8 * m + g) ≤ (if b = 0 then ra / 2048 * O k else ra - ra / 2048 * O k) * (2 : Int) ^ (4 * (n + 1)) := by
  obtain ⟨_, h2, h3, _, _, g, hg, h4⟩ := h
  obtain ⟨kk, ek⟩ : ∃ kk : Nat, k = kk := ⟨k.toNat, by omega⟩
  subst ek
  have o := h3 kk hk.1 hk.2
  have t := gO_r o
  have u : sm (fun i : Nat => (gO (if (i : Int) = kk then mvO b (O kk) else O i) : Int)) 65536 = sm (fun i : Nat => (gO (O i) : Int)) 65536 + ((gO (if (kk : Int) = kk then mvO b (O kk) else O kk) : Int) - (gO (O kk) : Int)) := sm_upd (f := fun i : Nat => (gO (O i) : Int)) (g := fun i : Nat => (gO (if (i : Int) = kk then mvO b (O kk) else O i) : Int)) (i := kk) (n := 65536) (by omega) (fun j _ hj => by
    show (gO (if (j : Int) = kk then mvO b (O kk) else O j) : Int) = gO (O j)
    rw [if_neg (by omega)])
  rw [if_pos (rfl : (kk : Int) = kk), hg] at u
  have le : (gO (O kk) : Int) ≤ g := by
    rw [← hg]
    have a1 := sm_mono (u := fun i : Nat => (gO (O i) : Int)) (n := 65536) (fun j _ => by show (0 : Int) ≤ gO (O j); exact Int.natCast_nonneg _) (j := kk + 1) (by omega)
    have a2 : sm (fun i : Nat => (gO (O i) : Int)) (kk + 1) = sm (fun i : Nat => (gO (O i) : Int)) kk + gO (O kk) := rfl
    have a3 := sm_nn (u := fun i : Nat => (gO (O i) : Int)) (n := kk) (fun j _ => by show (0 : Int) ≤ gO (O j); exact Int.natCast_nonneg _)
    exact ax_1 a1 a2 a3
  obtain ⟨g0, eg0⟩ : ∃ g0 : Nat, g = g0 + gO (O kk) := ⟨g - gO (O kk), ax_2 le⟩
  refine ⟨g0 + gO (mvO b (O kk)), ax_3 u eg0, ?_⟩
  clear u hg le
  obtain ⟨G, eG⟩ : ∃ G, G = (2 : Int) ^ gO (O kk) := ⟨_, rfl⟩
  obtain ⟨G', eG'⟩ : ∃ G', G' = (2 : Int) ^ gO (mvO b (O kk)) := ⟨_, rfl⟩
  have G0 : 0 < G := by rw [eG]; exact Int.pow_pos (by decide)
  have G1 : 0 < G' := by rw [eG']; exact Int.pow_pos (by decide)
  obtain ⟨r', er'⟩ : ∃ r', r' = if b = 0 then ra / 2048 * O kk else ra - ra / 2048 * O kk := ⟨_, rfl⟩
  rw [← er']
  have key : G' * ra ≤ 16 * r' * G := by
    rcases hb with e | e
    · subst e
      rw [er', if_pos rfl]
      exact bd_0 h2.1 rfl o ⟨by omega, by omega⟩ (by rw [eG, eG']; exact t.2.1)
    · subst e
      rw [er', if_neg (by decide)]
      exact bd_1 h2.1 rfl o ⟨by omega, by omega⟩ (by rw [eG, eG']; exact t.2.2)
  rw [eg0, ← Nat.add_assoc, Int.pow_add, ← eG] at h4
  rw [← Nat.add_assoc, Int.pow_add, ← eG', show 4 * (n + 1) = 4 * n + 4 by omega, Int.pow_add (2 : Int) (4 * n) 4]
  obtain ⟨P, eP⟩ : ∃ P, P = (2 : Int) ^ (4 * n) := ⟨_, rfl⟩
  obtain ⟨Q, eQ⟩ : ∃ Q, Q = (2 : Int) ^ (8 * m + g0) := ⟨_, rfl⟩
  have P0 : 0 < P := by rw [eP]; exact Int.pow_pos (by decide)
  rw [← eP, ← eQ] at h4 ⊢
  rw [show (2 : Int) ^ 4 = 16 by decide]
  -- 4294967295 * (Q * G) ≤ ra * P
  have a1 := Int.mul_le_mul_of_nonneg_left h4 (show 0 ≤ G' by omega)
  have a2 := Int.mul_le_mul_of_nonneg_right key (show 0 ≤ P by omega)
  have e1 : G' * (4294967295 * (Q * G)) = G * (4294967295 * (Q * G')) := by
    rw [Int.mul_left_comm, Int.mul_left_comm G 4294967295, Int.mul_left_comm G' Q G, Int.mul_left_comm G Q G', Int.mul_comm G' G]
  have e2 : G' * (ra * P) = G' * ra * P := (Int.mul_assoc _ _ _).symm
  have e3 : 16 * r' * G * P = G * (r' * (P * 16)) := by
    rw [Int.mul_comm 16 r', Int.mul_comm (r' * 16) G, Int.mul_assoc G, Int.mul_assoc r', Int.mul_comm 16 P]
  rw [e1, e2] at a1
  rw [e3] at a2
  exact Int.le_of_mul_le_mul_left (Int.le_trans a1 a2) G0
end POddsA
