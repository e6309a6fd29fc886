/-! INTEGERS FOR WORDS: an int of the machine is Int32.ofInt x for any integer x; sums, differences, products need no bounds. w32: what a compare sees. -/
def w32 (x : Int) : Int := (x + 2147483648) % 4294967296 - 2147483648
def w64 (x : Int) : Int := (x + 9223372036854775808) % 18446744073709551616 - 9223372036854775808
def b8 (x : Int) : Int := (x + 128) % 256 - 128
def vI (x : Int) : Value := .int (Int32.ofInt x)
def vL (x : Int) : Value := .long (Int64.ofInt x)
theorem w32_toInt (x : Int) : (Int32.ofInt x).toInt = w32 x := by
  rw [Int32.toInt_ofInt]
  show Int.bmod x 4294967296 = _
  unfold w32
  rw [Int.bmod_def]
  split <;> omega
theorem w64_toInt (x : Int) : (Int64.ofInt x).toInt = w64 x := by
  rw [Int64.toInt_ofInt]
  show Int.bmod x 18446744073709551616 = _
  unfold w64
  rw [Int.bmod_def]
  split <;> omega
theorem w32_of {x : Int} (h : -2147483648 ≤ x ∧ x < 2147483648) : w32 x = x := by unfold w32; omega
theorem w64_of {x : Int} (h : -9223372036854775808 ≤ x ∧ x < 9223372036854775808) : w64 x = x := by unfold w64; omega
theorem b8_of {x : Int} (h : -128 ≤ x ∧ x < 128) : b8 x = x := by unfold b8; omega
theorem w32_rg (x : Int) : -2147483648 ≤ w32 x ∧ w32 x < 2147483648 := by unfold w32; omega
theorem w64_rg (x : Int) : -9223372036854775808 ≤ w64 x ∧ w64 x < 9223372036854775808 := by unfold w64; omega
theorem b8_rg (x : Int) : -128 ≤ b8 x ∧ b8 x < 128 := by unfold b8; omega
theorem w32_w32 (x : Int) : w32 (w32 x) = w32 x := w32_of (w32_rg x)
theorem oI_w (x : Int) : Int32.ofInt (w32 x) = Int32.ofInt x := by rw [← w32_toInt, Int32.ofInt_toInt]
theorem oL_w (x : Int) : Int64.ofInt (w64 x) = Int64.ofInt x := by rw [← w64_toInt, Int64.ofInt_toInt]
theorem oI_eq {x y : Int} : Int32.ofInt x = Int32.ofInt y ↔ w32 x = w32 y := by rw [← Int32.toInt_inj, w32_toInt, w32_toInt]
theorem oL_eq {x y : Int} : Int64.ofInt x = Int64.ofInt y ↔ w64 x = w64 y := by rw [← Int64.toInt_inj, w64_toInt, w64_toInt]
theorem oI_of {a : Int32} {x : Int} (h : a.toInt = w32 x) : a = Int32.ofInt x := by rw [← Int32.toInt_inj, w32_toInt, h]
theorem oL_of {a : Int64} {x : Int} (h : a.toInt = w64 x) : a = Int64.ofInt x := by rw [← Int64.toInt_inj, w64_toInt, h]
theorem vI_w (x : Int) : vI (w32 x) = vI x := by unfold vI; rw [oI_w]
theorem vI_inj {x y : Int} (h : vI x = vI y) : w32 x = w32 y := oI_eq.mp (Value.int.inj h)
theorem vI_of {x y : Int} (h : w32 x = w32 y) : vI x = vI y := by unfold vI; rw [oI_eq.mpr h]
theorem oI_lt {x y : Int} : Int32.ofInt x < Int32.ofInt y ↔ w32 x < w32 y := by rw [Int32.lt_iff_toInt_lt, w32_toInt, w32_toInt]
theorem oI_le {x y : Int} : Int32.ofInt x ≤ Int32.ofInt y ↔ w32 x ≤ w32 y := by rw [Int32.le_iff_toInt_le, w32_toInt, w32_toInt]
theorem oL_lt {x y : Int} : Int64.ofInt x < Int64.ofInt y ↔ w64 x < w64 y := by rw [Int64.lt_iff_toInt_lt, w64_toInt, w64_toInt]
theorem oL_le {x y : Int} : Int64.ofInt x ≤ Int64.ofInt y ↔ w64 x ≤ w64 y := by rw [Int64.le_iff_toInt_le, w64_toInt, w64_toInt]
theorem oI_nat {x : Int} (h : 0 ≤ w32 x) : ((Int32.ofInt x).toNatClampNeg : Int) = w32 x := by
  show (((Int32.ofInt x).toInt.toNat : Nat) : Int) = _
  rw [w32_toInt]
  omega
/-! octets and bits -/
def bA (x y : Int) : Int := ((((x % 4294967296).toNat &&& (y % 4294967296).toNat : Nat)) : Int)
def bO (x y : Int) : Int := ((((x % 4294967296).toNat ||| (y % 4294967296).toNat : Nat)) : Int)
def bX (x y : Int) : Int := ((((x % 4294967296).toNat ^^^ (y % 4294967296).toNat : Nat)) : Int)
def lA (x y : Int) : Int := ((((x % 18446744073709551616).toNat &&& (y % 18446744073709551616).toNat : Nat)) : Int)
def lO (x y : Int) : Int := ((((x % 18446744073709551616).toNat ||| (y % 18446744073709551616).toNat : Nat)) : Int)
def lX (x y : Int) : Int := ((((x % 18446744073709551616).toNat ^^^ (y % 18446744073709551616).toNat : Nat)) : Int)
theorem oI_bv (x : Int) : (Int32.ofInt x).toBitVec.toNat = (x % 4294967296).toNat := by
  show (BitVec.ofInt 32 x).toNat = _
  rw [BitVec.toNat_ofInt]
  rfl
theorem oL_bv (x : Int) : (Int64.ofInt x).toBitVec.toNat = (x % 18446744073709551616).toNat := by
  show (BitVec.ofInt 64 x).toNat = _
  rw [BitVec.toNat_ofInt]
  rfl
theorem oI_bvx {a : Int32} {x : Int} (h : a.toBitVec.toNat = (x % 4294967296).toNat) : a = Int32.ofInt x := by
  apply Int32.toBitVec.inj
  apply BitVec.eq_of_toNat_eq
  rw [h, oI_bv]
theorem oL_bvx {a : Int64} {x : Int} (h : a.toBitVec.toNat = (x % 18446744073709551616).toNat) : a = Int64.ofInt x := by
  apply Int64.toBitVec.inj
  apply BitVec.eq_of_toNat_eq
  rw [h, oL_bv]
theorem nm32 (x : Int) : (x % 4294967296).toNat < 4294967296 := by omega
theorem nm64 (x : Int) : (x % 18446744073709551616).toNat < 18446744073709551616 := by omega
theorem nI32 {n : Nat} (h : n < 4294967296) : (((n : Int)) % 4294967296).toNat = n := by omega
theorem nI64 {n : Nat} (h : n < 18446744073709551616) : (((n : Int)) % 18446744073709551616).toNat = n := by omega
theorem oI_and (x y : Int) : Int32.ofInt x &&& Int32.ofInt y = Int32.ofInt (bA x y) := by
  apply oI_bvx
  show ((Int32.ofInt x).toBitVec &&& (Int32.ofInt y).toBitVec).toNat = _
  rw [BitVec.toNat_and, oI_bv, oI_bv]
  unfold bA
  rw [nI32 (Nat.lt_of_le_of_lt Nat.and_le_left (nm32 x))]
theorem oI_or (x y : Int) : Int32.ofInt x ||| Int32.ofInt y = Int32.ofInt (bO x y) := by
  apply oI_bvx
  show ((Int32.ofInt x).toBitVec ||| (Int32.ofInt y).toBitVec).toNat = _
  rw [BitVec.toNat_or, oI_bv, oI_bv]
  unfold bO
  rw [nI32 (Nat.or_lt_two_pow (n := 32) (nm32 x) (nm32 y))]
theorem oI_xor (x y : Int) : Int32.ofInt x ^^^ Int32.ofInt y = Int32.ofInt (bX x y) := by
  apply oI_bvx
  show ((Int32.ofInt x).toBitVec ^^^ (Int32.ofInt y).toBitVec).toNat = _
  rw [BitVec.toNat_xor, oI_bv, oI_bv]
  unfold bX
  rw [nI32 (Nat.xor_lt_two_pow (n := 32) (nm32 x) (nm32 y))]
theorem oL_and (x y : Int) : Int64.ofInt x &&& Int64.ofInt y = Int64.ofInt (lA x y) := by
  apply oL_bvx
  show ((Int64.ofInt x).toBitVec &&& (Int64.ofInt y).toBitVec).toNat = _
  rw [BitVec.toNat_and, oL_bv, oL_bv]
  unfold lA
  rw [nI64 (Nat.lt_of_le_of_lt Nat.and_le_left (nm64 x))]
theorem oL_or (x y : Int) : Int64.ofInt x ||| Int64.ofInt y = Int64.ofInt (lO x y) := by
  apply oL_bvx
  show ((Int64.ofInt x).toBitVec ||| (Int64.ofInt y).toBitVec).toNat = _
  rw [BitVec.toNat_or, oL_bv, oL_bv]
  unfold lO
  rw [nI64 (Nat.or_lt_two_pow (n := 64) (nm64 x) (nm64 y))]
theorem oL_xor (x y : Int) : Int64.ofInt x ^^^ Int64.ofInt y = Int64.ofInt (lX x y) := by
  apply oL_bvx
  show ((Int64.ofInt x).toBitVec ^^^ (Int64.ofInt y).toBitVec).toNat = _
  rw [BitVec.toNat_xor, oL_bv, oL_bv]
  unfold lX
  rw [nI64 (Nat.xor_lt_two_pow (n := 64) (nm64 x) (nm64 y))]
/-- a mask of ones: the rest -/
theorem bA_m (x : Int) (k : Nat) (hk : k ≤ 32) : bA x (2 ^ k - 1) = x % 2 ^ k := by
  unfold bA
  have hp : (2 : Nat) ^ k ≤ 4294967296 := Nat.pow_le_pow_right (n := 2) (by decide) hk
  have hq : 0 < (2 : Nat) ^ k := Nat.two_pow_pos k
  have h1 : (((2 : Int) ^ k - 1) % 4294967296).toNat = 2 ^ k - 1 := by
    have : ((2 : Int) ^ k) = (((2 : Nat) ^ k : Nat) : Int) := by rw [Int.natCast_pow]; rfl
    rw [this]
    omega
  rw [h1, Nat.and_two_pow_sub_one_eq_mod]
  have h2 : (4294967296 : Int) = 2 ^ k * 2 ^ (32 - k) := by
    rw [← Int.pow_add, show k + (32 - k) = 32 by omega]
    rfl
  have h3 : x % 2 ^ k = (x % 4294967296) % 2 ^ k := (Int.emod_emod_of_dvd x ⟨2 ^ (32 - k), h2⟩).symm
  rw [h3, Int.natCast_emod, Int.natCast_pow, Int.toNat_of_nonneg (Int.emod_nonneg _ (by decide))]
  rfl
theorem lA_m (x : Int) (k : Nat) (hk : k ≤ 64) : lA x (2 ^ k - 1) = x % 2 ^ k := by
  unfold lA
  have hp : (2 : Nat) ^ k ≤ 18446744073709551616 := Nat.pow_le_pow_right (n := 2) (by decide) hk
  have hq : 0 < (2 : Nat) ^ k := Nat.two_pow_pos k
  have h1 : (((2 : Int) ^ k - 1) % 18446744073709551616).toNat = 2 ^ k - 1 := by
    have : ((2 : Int) ^ k) = (((2 : Nat) ^ k : Nat) : Int) := by rw [Int.natCast_pow]; rfl
    rw [this]
    omega
  rw [h1, Nat.and_two_pow_sub_one_eq_mod]
  have h2 : (18446744073709551616 : Int) = 2 ^ k * 2 ^ (64 - k) := by
    rw [← Int.pow_add, show k + (64 - k) = 64 by omega]
    rfl
  have h3 : x % 2 ^ k = (x % 18446744073709551616) % 2 ^ k := (Int.emod_emod_of_dvd x ⟨2 ^ (64 - k), h2⟩).symm
  rw [h3, Int.natCast_emod, Int.natCast_pow, Int.toNat_of_nonneg (Int.emod_nonneg _ (by decide))]
  rfl
/-! shifts -/
theorem sk31 : ∀ k, k < 32 → ((Int32.ofNat k).toBitVec.smod 32).toNat = k := by decide +kernel
theorem sk63 : ∀ k, k < 64 → ((Int64.ofNat k).toBitVec.smod 64).toNat = k := by decide +kernel
theorem sm31 (y : Int) : Int32.ofInt y &&& 31 = Int32.ofNat (y % 32).toNat := by
  have := oI_and y 31
  rw [show bA y 31 = y % 32 from bA_m y 5 (by decide)] at this
  rw [show (31 : Int32) = Int32.ofInt 31 from rfl, this, ← Int32.ofInt_eq_ofNat]
  congr 1
  omega
theorem sm63 (y : Int) : (Int32.ofInt y).toInt64 &&& 63 = Int64.ofNat (y % 64).toNat := by
  have h0 : (Int32.ofInt y).toInt64 = Int64.ofInt (w32 y) := by
    apply oL_of
    rw [Int32.toInt_toInt64, w32_toInt]
    have := w32_rg y
    unfold w64
    omega
  have := oL_and (w32 y) 63
  rw [show lA (w32 y) 63 = w32 y % 64 from lA_m (w32 y) 6 (by decide)] at this
  rw [show (63 : Int64) = Int64.ofInt 63 from rfl, h0, this, ← Int64.ofInt_eq_ofNat]
  congr 1
  unfold w32
  omega
theorem sh_mul (x p M : Int) : (x % M * p) % M = (x * p) % M := by
  rw [Int.mul_emod, Int.emod_emod, ← Int.mul_emod]
theorem oI_shl (x y : Int) : Int32.ofInt x <<< (Int32.ofInt y &&& 31) = Int32.ofInt (x * 2 ^ (y % 32).toNat) := by
  rw [sm31]
  generalize hk : (y % 32).toNat = k
  have hk : k < 32 := by omega
  apply oI_bvx
  show ((Int32.ofInt x).toBitVec <<< ((Int32.ofNat k).toBitVec.smod 32)).toNat = _
  rw [BitVec.shiftLeft_eq', sk31 k hk, BitVec.toNat_shiftLeft, oI_bv, Nat.shiftLeft_eq]
  have h := sh_mul x (2 ^ k) 4294967296
  rw [← h]
  have e : ((x % 4294967296).toNat : Int) = x % 4294967296 := Int.toNat_of_nonneg (Int.emod_nonneg _ (by decide))
  have : ((((x % 4294967296).toNat * 2 ^ k % 2 ^ 32 : Nat)) : Int) = x % 4294967296 * 2 ^ k % 4294967296 := by
    rw [Int.natCast_emod, Int.natCast_mul, e, Int.natCast_pow]
    rfl
  omega
theorem oL_shl (x y : Int) : Int64.ofInt x <<< ((Int32.ofInt y).toInt64 &&& 63) = Int64.ofInt (x * 2 ^ (y % 64).toNat) := by
  rw [sm63]
  generalize hk : (y % 64).toNat = k
  have hk : k < 64 := by omega
  apply oL_bvx
  show ((Int64.ofInt x).toBitVec <<< ((Int64.ofNat k).toBitVec.smod 64)).toNat = _
  rw [BitVec.shiftLeft_eq', sk63 k hk, BitVec.toNat_shiftLeft, oL_bv, Nat.shiftLeft_eq]
  have h := sh_mul x (2 ^ k) 18446744073709551616
  rw [← h]
  have e : ((x % 18446744073709551616).toNat : Int) = x % 18446744073709551616 := Int.toNat_of_nonneg (Int.emod_nonneg _ (by decide))
  have : ((((x % 18446744073709551616).toNat * 2 ^ k % 2 ^ 64 : Nat)) : Int) = x % 18446744073709551616 * 2 ^ k % 18446744073709551616 := by
    rw [Int.natCast_emod, Int.natCast_mul, e, Int.natCast_pow]
    rfl
  omega
theorem oI_shr (x y : Int) : Int32.ofInt x >>> (Int32.ofInt y &&& 31) = Int32.ofInt (w32 x / 2 ^ (y % 32).toNat) := by
  rw [sm31]
  generalize hk : (y % 32).toNat = k
  have hk : k < 32 := by omega
  apply oI_of
  show ((Int32.ofInt x).toBitVec.sshiftRight' ((Int32.ofNat k).toBitVec.smod 32)).toInt = _
  have h1 : (Int32.ofInt x).toBitVec.sshiftRight' ((Int32.ofNat k).toBitVec.smod 32) = (Int32.ofInt x).toBitVec.sshiftRight k := by
    show (Int32.ofInt x).toBitVec.sshiftRight ((Int32.ofNat k).toBitVec.smod 32).toNat = _
    rw [sk31 k hk]
  rw [h1, BitVec.toInt_sshiftRight]
  show (Int32.ofInt x).toInt >>> k = _
  rw [w32_toInt, Int.shiftRight_eq_div_pow]
  have hr := w32_rg x
  have hp : (1 : Int) ≤ 2 ^ k := by
    have : 0 < (2 : Nat) ^ k := Nat.two_pow_pos k
    have e : ((2 : Int) ^ k) = (((2 : Nat) ^ k : Nat) : Int) := by rw [Int.natCast_pow]; rfl
    omega
  have e : w32 (w32 x / 2 ^ k) = w32 x / 2 ^ k := by
    apply w32_of
    constructor
    · have h2 : -2147483648 * 2 ^ k ≤ w32 x := by
        have : -2147483648 * (2 : Int) ^ k ≤ -2147483648 * 1 := Int.mul_le_mul_of_nonpos_left (by decide) hp
        omega
      exact Int.le_ediv_of_mul_le (by omega) h2
    · apply Int.ediv_lt_of_lt_mul (by omega)
      have : 2147483648 * 1 ≤ 2147483648 * (2 : Int) ^ k := Int.mul_le_mul_of_nonneg_left hp (by decide)
      omega
  rw [e]
  rfl
theorem oI_ushr (x y : Int) : ((Int32.ofInt x).toUInt32 >>> ((Int32.ofInt y).toUInt32 &&& Int32.toUInt32 31)).toInt32 = Int32.ofInt (x % 4294967296 / 2 ^ (y % 32).toNat) := by
  have h0 : (Int32.ofInt y).toUInt32 &&& Int32.toUInt32 31 = (Int32.ofInt y &&& 31).toUInt32 := rfl
  rw [h0, sm31]
  generalize hk : (y % 32).toNat = k
  have hk : k < 32 := by omega
  apply oI_bvx
  have hu : ∀ k, k < 32 → ((Int32.ofNat k).toUInt32 % 32).toBitVec.toNat = k := by decide +kernel
  show ((Int32.ofInt x).toBitVec >>> ((Int32.ofNat k).toUInt32 % 32).toBitVec).toNat = _
  rw [BitVec.ushiftRight_eq', hu k hk, BitVec.toNat_ushiftRight, oI_bv, Nat.shiftRight_eq_div_pow]
  have e : ((x % 4294967296).toNat : Int) = x % 4294967296 := Int.toNat_of_nonneg (Int.emod_nonneg _ (by decide))
  have h2 : ((((x % 4294967296).toNat / 2 ^ k : Nat)) : Int) = x % 4294967296 / 2 ^ k := by
    rw [Int.natCast_ediv, e, Int.natCast_pow]
    rfl
  have h3 : (x % 4294967296).toNat / 2 ^ k ≤ (x % 4294967296).toNat := Nat.div_le_self _ _
  have := nm32 x
  rw [← h2, nI32 (by omega)]
theorem oL_ushr (x y : Int) : ((Int64.ofInt x).toUInt64 >>> ((Int32.ofInt y).toInt64.toUInt64 &&& Int64.toUInt64 63)).toInt64 = Int64.ofInt (x % 18446744073709551616 / 2 ^ (y % 64).toNat) := by
  have h0 : (Int32.ofInt y).toInt64.toUInt64 &&& Int64.toUInt64 63 = ((Int32.ofInt y).toInt64 &&& 63).toUInt64 := rfl
  rw [h0, sm63]
  generalize hk : (y % 64).toNat = k
  have hk : k < 64 := by omega
  apply oL_bvx
  have hu : ∀ k, k < 64 → ((Int64.ofNat k).toUInt64 % 64).toBitVec.toNat = k := by decide +kernel
  show ((Int64.ofInt x).toBitVec >>> ((Int64.ofNat k).toUInt64 % 64).toBitVec).toNat = _
  rw [BitVec.ushiftRight_eq', hu k hk, BitVec.toNat_ushiftRight, oL_bv, Nat.shiftRight_eq_div_pow]
  have e : ((x % 18446744073709551616).toNat : Int) = x % 18446744073709551616 := Int.toNat_of_nonneg (Int.emod_nonneg _ (by decide))
  have h2 : ((((x % 18446744073709551616).toNat / 2 ^ k : Nat)) : Int) = x % 18446744073709551616 / 2 ^ k := by
    rw [Int.natCast_ediv, e, Int.natCast_pow]
    rfl
  have h3 : (x % 18446744073709551616).toNat / 2 ^ k ≤ (x % 18446744073709551616).toNat := Nat.div_le_self _ _
  have := nm64 x
  rw [← h2, nI64 (by omega)]
theorem oL_shr (x y : Int) : Int64.ofInt x >>> ((Int32.ofInt y).toInt64 &&& 63) = Int64.ofInt (w64 x / 2 ^ (y % 64).toNat) := by
  rw [sm63]
  generalize hk : (y % 64).toNat = k
  have hk : k < 64 := by omega
  apply oL_of
  have h1 : (Int64.ofInt x).toBitVec.sshiftRight' ((Int64.ofNat k).toBitVec.smod 64) = (Int64.ofInt x).toBitVec.sshiftRight k := by
    show (Int64.ofInt x).toBitVec.sshiftRight ((Int64.ofNat k).toBitVec.smod 64).toNat = _
    rw [sk63 k hk]
  show ((Int64.ofInt x).toBitVec.sshiftRight' ((Int64.ofNat k).toBitVec.smod 64)).toInt = _
  rw [h1, BitVec.toInt_sshiftRight]
  show (Int64.ofInt x).toInt >>> k = _
  rw [w64_toInt, Int.shiftRight_eq_div_pow]
  have hr := w64_rg x
  have hp : (1 : Int) ≤ 2 ^ k := by
    have : 0 < (2 : Nat) ^ k := Nat.two_pow_pos k
    have e : ((2 : Int) ^ k) = (((2 : Nat) ^ k : Nat) : Int) := by rw [Int.natCast_pow]; rfl
    omega
  have e : w64 (w64 x / 2 ^ k) = w64 x / 2 ^ k := by
    apply w64_of
    constructor
    · have h2 : -9223372036854775808 * 2 ^ k ≤ w64 x := by
        have : -9223372036854775808 * (2 : Int) ^ k ≤ -9223372036854775808 * 1 := Int.mul_le_mul_of_nonpos_left (by decide) hp
        omega
      exact Int.le_ediv_of_mul_le (by omega) h2
    · apply Int.ediv_lt_of_lt_mul (by omega)
      have : 9223372036854775808 * 1 ≤ 9223372036854775808 * (2 : Int) ^ k := Int.mul_le_mul_of_nonneg_left hp (by decide)
      omega
  rw [e]
  rfl
/-! widths, quotients -/
theorem oI_l (x : Int) : (Int32.ofInt x).toInt64 = Int64.ofInt (w32 x) := by
  apply oL_of
  rw [Int32.toInt_toInt64, w32_toInt]
  have := w32_rg x
  unfold w64
  omega
theorem oL_i (x : Int) : (Int64.ofInt x).toInt32 = Int32.ofInt x := by
  apply oI_of
  rw [Int64.toInt_toInt32, w64_toInt]
  show Int.bmod (w64 x) 4294967296 = _
  rw [Int.bmod_def]
  unfold w64 w32
  split <;> omega
theorem oI_b (x : Int) : (Int32.ofInt x).toInt8.toInt32 = Int32.ofInt (b8 x) := by
  apply oI_of
  rw [Int8.toInt_toInt32, Int32.toInt_toInt8, w32_toInt]
  show Int.bmod (w32 x) 256 = _
  rw [Int.bmod_def]
  unfold b8 w32
  split <;> omega
theorem oI_div (x y : Int) : Int32.ofInt x / Int32.ofInt y = Int32.ofInt (Int.tdiv (w32 x) (w32 y)) := by
  rw [← Int32.toInt_inj, Int32.toInt_div, w32_toInt, w32_toInt, Int32.toInt_ofInt]
theorem oI_rem (x y : Int) : Int32.ofInt x - Int32.ofInt x / Int32.ofInt y * Int32.ofInt y = Int32.ofInt (Int.tmod (w32 x) (w32 y)) := by
  rw [oI_div, ← Int32.ofInt_mul, ← Int32.ofInt_sub, oI_eq]
  have h := Int.tmod_add_mul_tdiv (w32 x) (w32 y)
  generalize Int.tdiv (w32 x) (w32 y) = d at *
  generalize Int.tmod (w32 x) (w32 y) = m at *
  have h1 : m = w32 x - w32 y * d := by omega
  subst h1
  have hx : ∃ a, w32 x = x + a * 4294967296 := ⟨-((x + 2147483648) / 4294967296), by unfold w32; omega⟩
  have hy : ∃ a, w32 y = y + a * 4294967296 := ⟨-((y + 2147483648) / 4294967296), by unfold w32; omega⟩
  obtain ⟨a, ha⟩ := hx
  obtain ⟨b, hb⟩ := hy
  rw [ha, hb]
  have e : x + a * 4294967296 - (y + b * 4294967296) * d = (x - d * y) + (a - b * d) * 4294967296 := by
    rw [Int.add_mul, Int.sub_mul, Int.mul_comm y d, Int.mul_assoc b, Int.mul_comm 4294967296 d, ← Int.mul_assoc]
    omega
  rw [e]
  unfold w32
  omega
theorem oL_div (x y : Int) : Int64.ofInt x / Int64.ofInt y = Int64.ofInt (Int.tdiv (w64 x) (w64 y)) := by
  rw [← Int64.toInt_inj, Int64.toInt_div, w64_toInt, w64_toInt, Int64.toInt_ofInt]
theorem oL_rem (x y : Int) : Int64.ofInt x - Int64.ofInt x / Int64.ofInt y * Int64.ofInt y = Int64.ofInt (Int.tmod (w64 x) (w64 y)) := by
  rw [oL_div, ← Int64.ofInt_mul, ← Int64.ofInt_sub, oL_eq]
  have h := Int.tmod_add_mul_tdiv (w64 x) (w64 y)
  generalize Int.tdiv (w64 x) (w64 y) = d at *
  generalize Int.tmod (w64 x) (w64 y) = m at *
  have h1 : m = w64 x - w64 y * d := by omega
  subst h1
  have hx : ∃ a, w64 x = x + a * 18446744073709551616 := ⟨-((x + 9223372036854775808) / 18446744073709551616), by unfold w64; omega⟩
  have hy : ∃ a, w64 y = y + a * 18446744073709551616 := ⟨-((y + 9223372036854775808) / 18446744073709551616), by unfold w64; omega⟩
  obtain ⟨a, ha⟩ := hx
  obtain ⟨b, hb⟩ := hy
  rw [ha, hb]
  have e : x + a * 18446744073709551616 - (y + b * 18446744073709551616) * d = (x - d * y) + (a - b * d) * 18446744073709551616 := by
    rw [Int.add_mul, Int.sub_mul, Int.mul_comm y d, Int.mul_assoc b, Int.mul_comm 18446744073709551616 d, ← Int.mul_assoc]
    omega
  rw [e]
  unfold w64
  omega
