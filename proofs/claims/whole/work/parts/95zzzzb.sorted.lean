/-! SORTED: six codes in a row -/
section Srt8
theorem bO_s {u v : Int} {k : Nat} (hu : 0 ≤ u) (hk : u * (2 : Int) ^ k < 2147483648) (hv : 0 ≤ v ∧ v < (2 : Int) ^ k) (hk' : k ≤ 30) : bO (u * (2 : Int) ^ k) v = u * (2 : Int) ^ k + v := by
  obtain ⟨u', eu⟩ : ∃ u' : Nat, u = u' := ⟨u.toNat, by omega⟩
  obtain ⟨v', ev⟩ : ∃ v' : Nat, v = v' := ⟨v.toNat, by omega⟩
  subst eu ev
  have e2 : (2 : Int) ^ k = ((2 ^ k : Nat) : Int) := by rw [Int.natCast_pow]; rfl
  have hp : 2 ^ k ≤ 2 ^ 30 := Nat.pow_le_pow_right (by decide) hk'
  rw [e2] at hk hv ⊢
  have em : (u' : Int) * ((2 ^ k : Nat) : Int) = ((2 ^ k * u' : Nat) : Int) := by
    rw [Int.natCast_mul, Int.mul_comm]
  rw [em] at hk ⊢
  have h := Nat.two_pow_add_eq_or_of_lt (i := k) (b := v') (by omega) u'
  unfold bO
  generalize 2 ^ k * u' = w at *
  generalize 2 ^ k = p at *
  rw [show (((w : Int)) % 4294967296).toNat = w by omega, show ((v' : Int) % 4294967296).toNat = v' by omega, ← h]
  omega
theorem ch_E {u l d P : Int} {k : Nat} (hP : (2 : Int) ^ k = 8 * P) (hk : k ≤ 20) (hP0 : 0 < P) (hu : 0 ≤ u) (hU : u * P < 1000000) (hl : 0 ≤ l ∧ l < P) (hP1 : P < 1000000) (hd : 0 ≤ d ∧ d < 8) : bO (bO (u * (2 : Int) ^ k) (l * 8)) d = u * (8 * P) + l * 8 + d := by
  have e1 : u * (8 * P) = (u * P) * 8 := by rw [Int.mul_comm 8 P, ← Int.mul_assoc]
  have e0 : 0 ≤ u * P := Int.mul_nonneg hu (by omega)
  rw [bO_s hu (by rw [hP, e1]; omega) (by rw [hP]; omega) (by omega), hP, e1]
  have e2 : u * P * 8 + l * 8 = (u * P + l) * (2 : Int) ^ 3 := by
    rw [show (2 : Int) ^ 3 = 8 by decide]; omega
  generalize u * P = w at *
  rw [e2, bO_s (by omega) (by rw [show (2 : Int) ^ 3 = 8 by decide]; omega) (by rw [show (2 : Int) ^ 3 = 8 by decide]; omega) (by decide)]
def sx6 (g : Int → Int) : Int := g 0 + 8 * g 1 + 64 * g 2 + 512 * g 3 + 4096 * g 4 + 32768 * g 5
def ch_X (X x5 : Int) : Int := bO (bO ((w32 X / ((2 : Int) ^ (((3 * x5) + 3) % 32).toNat)) * ((2 : Int) ^ (((3 * x5) + 3) % 32).toNat)) ((bA X ((1 * ((2 : Int) ^ ((3 * x5) % 32).toNat)) - 1)) * 8)) ((w32 X / ((2 : Int) ^ ((3 * x5) % 32).toNat)) % 8)
theorem ch_1 {X P : Int} {p : Nat} (hp : p < 6) (hP : (2 : Int) ^ (3 * p) = P) (hP8 : (2 : Int) ^ (3 * p + 3) = 8 * P) (hP0 : 0 < P ∧ P < 40000) (hX : 0 ≤ X ∧ X < 262144) : (w32 X / ((2 : Int) ^ ((3 * ((p : Nat) : Int)) % 32).toNat)) % 8 = X / P % 8 ∧ ch_X X p = X / (8 * P) * (8 * P) + X % P * 8 + X / P % 8 := by
  have e1 : ((3 * ((p : Nat) : Int)) % 32).toNat = 3 * p := by omega
  have e2 : (((3 * ((p : Nat) : Int)) + 3) % 32).toNat = 3 * p + 3 := by omega
  have wX : w32 X = X := w32_of (by omega)
  unfold ch_X
  rw [e1, e2, wX, hP, Int.one_mul]
  refine ⟨rfl, ?_⟩
  have e3 : bA X (P - 1) = X % P := by rw [← hP]; exact bA_m X (3 * p) (by omega)
  have l1 : 0 ≤ X % P ∧ X % P < P := ⟨Int.emod_nonneg _ (by omega), Int.emod_lt_of_pos _ (by omega)⟩
  have u0 : 0 ≤ X / (8 * P) := Int.ediv_nonneg hX.1 (by omega)
  have u1 : X / (8 * P) * P < 1000000 := by
    have a : X / (8 * P) * (8 * P) ≤ X := Int.ediv_mul_le X (by omega)
    have b : X / (8 * P) * P ≤ X / (8 * P) * (8 * P) := Int.mul_le_mul_of_nonneg_left (by omega) u0
    omega
  rw [e3, show X / ((2 : Int) ^ (3 * p + 3)) = X / (8 * P) by rw [hP8]]
  exact ch_E hP8 (by omega) hP0.1 u0 u1 l1 (by omega) ⟨Int.emod_nonneg _ (by decide), Int.emod_lt_of_pos _ (by decide)⟩
theorem sx6_r {g : Int → Int} (hg : ∀ k : Nat, k < 6 → 0 ≤ g k ∧ g k < 8) : (0 ≤ g 0 ∧ g 0 < 8) ∧ (0 ≤ g 1 ∧ g 1 < 8) ∧ (0 ≤ g 2 ∧ g 2 < 8) ∧ (0 ≤ g 3 ∧ g 3 < 8) ∧ (0 ≤ g 4 ∧ g 4 < 8) ∧ (0 ≤ g 5 ∧ g 5 < 8) ∧ 0 ≤ sx6 g ∧ sx6 g < 262144 := by
  have h0 : 0 ≤ g 0 ∧ g 0 < 8 := hg 0 (by decide)
  have h1 : 0 ≤ g 1 ∧ g 1 < 8 := hg 1 (by decide)
  have h2 : 0 ≤ g 2 ∧ g 2 < 8 := hg 2 (by decide)
  have h3 : 0 ≤ g 3 ∧ g 3 < 8 := hg 3 (by decide)
  have h4 : 0 ≤ g 4 ∧ g 4 < 8 := hg 4 (by decide)
  have h5 : 0 ≤ g 5 ∧ g 5 < 8 := hg 5 (by decide)
  unfold sx6
  exact ⟨h0, h1, h2, h3, h4, h5, by omega, by omega⟩
theorem ch_step {g : Int → Int} {p : Nat} (hp : p < 6) (hg : ∀ k : Nat, k < 6 → 0 ≤ g k ∧ g k < 8) : (w32 (sx6 g) / ((2 : Int) ^ ((3 * ((p : Nat) : Int)) % 32).toNat)) % 8 = g p ∧ ch_X (sx6 g) p = sx6 (tF p g) := by
  obtain ⟨h0, h1, h2, h3, h4, h5, hX⟩ := sx6_r hg
  have hc : p = 0 ∨ p = 1 ∨ p = 2 ∨ p = 3 ∨ p = 4 ∨ p = 5 := by omega
  rcases hc with rfl | rfl | rfl | rfl | rfl | rfl
  · obtain ⟨a1, a2⟩ := ch_1 (p := 0) (P := 1) (by decide) (by decide) (by decide) (by decide) hX
    rw [a1, a2]
    have t0 : tF 0 g 0 = g 0 := tF_0 _ _
    have t1 : tF 0 g 1 = g 1 := tF_up (by decide) (by decide)
    have t2 : tF 0 g 2 = g 2 := tF_up (by decide) (by decide)
    have t3 : tF 0 g 3 = g 3 := tF_up (by decide) (by decide)
    have t4 : tF 0 g 4 = g 4 := tF_up (by decide) (by decide)
    have t5 : tF 0 g 5 = g 5 := tF_up (by decide) (by decide)
    unfold sx6 at *
    rw [t0, t1, t2, t3, t4, t5]
    show _ = g 0 ∧ _
    omega
  · obtain ⟨a1, a2⟩ := ch_1 (p := 1) (P := 8) (by decide) (by decide) (by decide) (by decide) hX
    rw [a1, a2]
    have t0 : tF 1 g 0 = g 1 := tF_0 _ _
    have t1 : tF 1 g 1 = g 0 := tF_in (by decide) (by decide)
    have t2 : tF 1 g 2 = g 2 := tF_up (by decide) (by decide)
    have t3 : tF 1 g 3 = g 3 := tF_up (by decide) (by decide)
    have t4 : tF 1 g 4 = g 4 := tF_up (by decide) (by decide)
    have t5 : tF 1 g 5 = g 5 := tF_up (by decide) (by decide)
    unfold sx6 at *
    rw [t0, t1, t2, t3, t4, t5]
    show _ = g 1 ∧ _
    omega
  · obtain ⟨a1, a2⟩ := ch_1 (p := 2) (P := 64) (by decide) (by decide) (by decide) (by decide) hX
    rw [a1, a2]
    have t0 : tF 2 g 0 = g 2 := tF_0 _ _
    have t1 : tF 2 g 1 = g 0 := tF_in (by decide) (by decide)
    have t2 : tF 2 g 2 = g 1 := tF_in (by decide) (by decide)
    have t3 : tF 2 g 3 = g 3 := tF_up (by decide) (by decide)
    have t4 : tF 2 g 4 = g 4 := tF_up (by decide) (by decide)
    have t5 : tF 2 g 5 = g 5 := tF_up (by decide) (by decide)
    unfold sx6 at *
    rw [t0, t1, t2, t3, t4, t5]
    show _ = g 2 ∧ _
    omega
  · obtain ⟨a1, a2⟩ := ch_1 (p := 3) (P := 512) (by decide) (by decide) (by decide) (by decide) hX
    rw [a1, a2]
    have t0 : tF 3 g 0 = g 3 := tF_0 _ _
    have t1 : tF 3 g 1 = g 0 := tF_in (by decide) (by decide)
    have t2 : tF 3 g 2 = g 1 := tF_in (by decide) (by decide)
    have t3 : tF 3 g 3 = g 2 := tF_in (by decide) (by decide)
    have t4 : tF 3 g 4 = g 4 := tF_up (by decide) (by decide)
    have t5 : tF 3 g 5 = g 5 := tF_up (by decide) (by decide)
    unfold sx6 at *
    rw [t0, t1, t2, t3, t4, t5]
    show _ = g 3 ∧ _
    omega
  · obtain ⟨a1, a2⟩ := ch_1 (p := 4) (P := 4096) (by decide) (by decide) (by decide) (by decide) hX
    rw [a1, a2]
    have t0 : tF 4 g 0 = g 4 := tF_0 _ _
    have t1 : tF 4 g 1 = g 0 := tF_in (by decide) (by decide)
    have t2 : tF 4 g 2 = g 1 := tF_in (by decide) (by decide)
    have t3 : tF 4 g 3 = g 2 := tF_in (by decide) (by decide)
    have t4 : tF 4 g 4 = g 3 := tF_in (by decide) (by decide)
    have t5 : tF 4 g 5 = g 5 := tF_up (by decide) (by decide)
    unfold sx6 at *
    rw [t0, t1, t2, t3, t4, t5]
    show _ = g 4 ∧ _
    omega
  · obtain ⟨a1, a2⟩ := ch_1 (p := 5) (P := 32768) (by decide) (by decide) (by decide) (by decide) hX
    rw [a1, a2]
    have t0 : tF 5 g 0 = g 5 := tF_0 _ _
    have t1 : tF 5 g 1 = g 0 := tF_in (by decide) (by decide)
    have t2 : tF 5 g 2 = g 1 := tF_in (by decide) (by decide)
    have t3 : tF 5 g 3 = g 2 := tF_in (by decide) (by decide)
    have t4 : tF 5 g 4 = g 3 := tF_in (by decide) (by decide)
    have t5 : tF 5 g 5 = g 4 := tF_in (by decide) (by decide)
    unfold sx6 at *
    rw [t0, t1, t2, t3, t4, t5]
    show _ = g 5 ∧ _
    omega
end Srt8
