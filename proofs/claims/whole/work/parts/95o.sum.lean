/-! sums: kinds 1 (round) and 2 (turned): two steps of the class's table of 16 are one of the reference's table of 256 -/
theorem xsp (y : Nat) : y = (y / 256 * 256) ^^^ (y % 256) := by
  have h : y ^^^ (y % 256) = y / 256 * 256 := by
    have h1 : (y ^^^ (y % 256)) % 2 ^ 8 = 0 := by
      rw [Nat.xor_mod_two_pow]
      show y % 256 ^^^ y % 256 % 256 = 0
      rw [Nat.mod_mod, Nat.xor_self]
    have h2 : (y ^^^ (y % 256)) / 2 ^ 8 = y / 2 ^ 8 := by
      rw [← Nat.shiftRight_eq_div_pow, ← Nat.shiftRight_eq_div_pow, Nat.shiftRight_xor_distrib, Nat.shiftRight_eq_div_pow (y % 256)]
      rw [show y % 256 / 2 ^ 8 = 0 by omega, Nat.xor_zero]
    omega
  rw [← h, Nat.xor_assoc, Nat.xor_self, Nat.xor_zero]
theorem xdv (a b k : Nat) : (a ^^^ b) / 2 ^ k = a / 2 ^ k ^^^ b / 2 ^ k := by
  rw [← Nat.shiftRight_eq_div_pow, Nat.shiftRight_xor_distrib, Nat.shiftRight_eq_div_pow, Nat.shiftRight_eq_div_pow]
theorem xml (a b k : Nat) : (a ^^^ b) * 2 ^ k = a * 2 ^ k ^^^ b * 2 ^ k := by
  rw [← Nat.shiftLeft_eq, Nat.shiftLeft_xor_distrib, Nat.shiftLeft_eq, Nat.shiftLeft_eq]
def rs1 (rT : Nat → Nat) (y : Nat) : Nat := y / 16 ^^^ rT (y % 16)
def ts1 (rT : Nat → Nat) (y : Nat) : Nat := (y * 16 % 4294967296) ^^^ rT (y / 268435456)
theorem rs2_eq (rT : Nat → Nat) (y : Nat) : rs1 rT (rs1 rT y) = y / 256 ^^^ rs1 rT (rs1 rT (y % 256)) := by
  have e1 : rs1 rT y = y / 256 * 16 ^^^ rs1 rT (y % 256) := by
    have e : y / 16 = y / 256 * 16 ^^^ y % 256 / 16 := by
      have := congrArg (· / 2 ^ 4) (xsp y)
      simp only [xdv] at this
      rw [show y / 256 * 256 / 2 ^ 4 = y / 256 * 16 by omega] at this
      exact this
    unfold rs1
    rw [show y % 256 % 16 = y % 16 by omega, ← Nat.xor_assoc, ← e]
  generalize rs1 rT (y % 256) = t at e1
  rw [e1]
  unfold rs1
  have e2 : (y / 256 * 16 ^^^ t) / 16 = y / 256 ^^^ t / 16 := by
    have := xdv (y / 256 * 16) t 4
    rw [show y / 256 * 16 / 2 ^ 4 = y / 256 by omega] at this
    exact this
  have e3 : (y / 256 * 16 ^^^ t) % 16 = t % 16 := by
    have := Nat.xor_mod_two_pow (a := y / 256 * 16) (b := t) (n := 4)
    rw [show y / 256 * 16 % 2 ^ 4 = 0 by omega, Nat.zero_xor] at this
    exact this
  rw [e2, e3, Nat.xor_assoc]
theorem xsq (y : Nat) : y = (y / 16777216 * 16777216) ^^^ (y % 16777216) := by
  have h : y ^^^ (y % 16777216) = y / 16777216 * 16777216 := by
    have h1 : (y ^^^ (y % 16777216)) % 2 ^ 24 = 0 := by
      rw [Nat.xor_mod_two_pow]
      show y % 16777216 ^^^ y % 16777216 % 16777216 = 0
      rw [Nat.mod_mod, Nat.xor_self]
    have h2 : (y ^^^ (y % 16777216)) / 2 ^ 24 = y / 2 ^ 24 := by
      rw [xdv, show y % 16777216 / 2 ^ 24 = 0 by omega, Nat.xor_zero]
    omega
  rw [← h, Nat.xor_assoc, Nat.xor_self, Nat.xor_zero]
theorem xmm (a b : Nat) : (a ^^^ b) * 16 % 4294967296 = a * 16 % 4294967296 ^^^ b * 16 % 4294967296 := by
  have := xml a b 4
  rw [show (16 : Nat) = 2 ^ 4 from rfl, this, show (4294967296 : Nat) = 2 ^ 32 from rfl, Nat.xor_mod_two_pow]
theorem ts2_eq (rT : Nat → Nat) (y : Nat) : ts1 rT (ts1 rT y) = y * 256 % 4294967296 ^^^ ts1 rT (ts1 rT (y / 16777216 * 16777216)) := by
  have e1 : ts1 rT y = y % 16777216 * 16 ^^^ ts1 rT (y / 16777216 * 16777216) := by
    have e : y * 16 % 4294967296 = y % 16777216 * 16 ^^^ y / 16777216 * 16777216 * 16 % 4294967296 := by
      have := congrArg (· * 16 % 4294967296) (xsq y)
      simp only [xmm] at this
      rw [show y % 16777216 * 16 % 4294967296 = y % 16777216 * 16 by omega] at this
      rw [this, Nat.xor_comm]
    unfold ts1
    rw [show y / 16777216 * 16777216 / 268435456 = y / 268435456 by omega, ← Nat.xor_assoc, ← e]
  generalize ts1 rT (y / 16777216 * 16777216) = t at e1
  rw [e1]
  unfold ts1
  have e2 : (y % 16777216 * 16 ^^^ t) / 268435456 = t / 268435456 := by
    have := xdv (y % 16777216 * 16) t 28
    rw [show y % 16777216 * 16 / 2 ^ 28 = 0 by omega, Nat.zero_xor] at this
    exact this
  rw [xmm, e2, Nat.xor_assoc, show y % 16777216 * 16 * 16 % 4294967296 = y * 256 % 4294967296 by omega]
section Sum1
variable {q : Nat × (Nat → Int32)} {S : ms}
def rdT (i : Nat) : Nat := (sS 2 i % 4294967296).toNat
def tnT (i : Nat) : Nat := (sS 3 i % 4294967296).toNat
def rdN (l : Nat) : Nat := (rdF 8 l % 4294967296).toNat
def tnN (l : Nat) : Nat := (tnF 8 ((l : Int) * 16777216) % 4294967296).toNat
theorem rd_lo : ∀ l, l < 256 → rs1 rdT (rs1 rdT l) = rdN l := by decide +kernel
theorem tn_lo : ∀ l, l < 256 → ts1 tnT (ts1 tnT (l * 16777216)) = tnN l := by decide +kernel
def rS (y : Nat) : Nat := rs1 rdT (rs1 rdT y)
def tS (y : Nat) : Nat := ts1 tnT (ts1 tnT y)
theorem rS_eq (y : Nat) : rS y = y / 256 ^^^ rdN (y % 256) := by
  unfold rS
  rw [rs2_eq, rd_lo _ (by omega)]
theorem tS_eq (y : Nat) (hy : y < 4294967296) : tS y = y * 256 % 4294967296 ^^^ tnN (y / 16777216) := by
  unfold tS
  rw [ts2_eq, tn_lo _ (by omega)]
theorem x32 {a b : Nat} (ha : a < 4294967296) (hb : b < 4294967296) : a ^^^ b < 4294967296 := Nat.xor_lt_two_pow (n := 32) ha hb
theorem rs1_lt {y : Nat} (hy : y < 4294967296) : rs1 rdT y < 4294967296 := x32 (by omega) (by unfold rdT; omega)
theorem ts1_lt (y : Nat) : ts1 tnT y < 4294967296 := x32 (by omega) (by unfold tnT; omega)
theorem bX_n {a b : Nat} (ha : a < 4294967296) (hb : b < 4294967296) : bX (a : Int) (b : Int) = ((a ^^^ b : Nat) : Int) := by
  unfold bX
  rw [nI32 ha, nI32 hb]
theorem bX_nr {a : Nat} (ha : a < 4294967296) (x : Int) : bX (a : Int) x = ((a ^^^ (x % 4294967296).toNat : Nat) : Int) := by
  unfold bX
  rw [nI32 ha]
theorem bX_nl {b : Nat} (hb : b < 4294967296) (x : Int) : bX x (b : Int) = (((x % 4294967296).toNat ^^^ b : Nat) : Int) := by
  unfold bX
  rw [nI32 hb]
theorem rs_ev {y : Nat} (hy : y < 4294967296) : bX ((y : Int) % 4294967296 / 16) (sS 2 (w32 ((y : Int) % 16))) = ((rs1 rdT y : Nat) : Int) := by
  have e1 : (y : Int) % 4294967296 / 16 = ((y / 16 : Nat) : Int) := by omega
  have e2 : w32 ((y : Int) % 16) = ((y % 16 : Nat) : Int) := by
    rw [w32_of (by omega)]
    omega
  rw [e1, e2, bX_nr (by omega)]
  rfl
theorem ts_ev {y : Nat} (hy : y < 4294967296) : bX ((y : Int) * 16) (sS 3 (w32 ((y : Int) % 4294967296 / 268435456))) = ((ts1 tnT y : Nat) : Int) := by
  have e2 : w32 ((y : Int) % 4294967296 / 268435456) = ((y / 268435456 : Nat) : Int) := by
    rw [w32_of (by omega)]
    omega
  have e3 : ((y : Int) * 16 % 4294967296).toNat = y * 16 % 4294967296 := by omega
  rw [e2]
  unfold bX
  rw [e3]
  rfl
/-- the sums over k octets -/
def crR (g : Nat → Int) : Nat → Nat
  | 0 => 4294967295
  | k + 1 => rS (crR g k ^^^ (g k).toNat)
def crT (g : Nat → Int) : Nat → Nat
  | 0 => 4294967295
  | k + 1 => tS (crT g k ^^^ (g k).toNat * 16777216)
theorem crR_s (g : Nat → Int) (k : Nat) : crR g (k + 1) = rs1 rdT (rs1 rdT (crR g k ^^^ (g k).toNat)) := rfl
theorem crT_s (g : Nat → Int) (k : Nat) : crT g (k + 1) = ts1 tnT (ts1 tnT (crT g k ^^^ (g k).toNat * 16777216)) := rfl
theorem crR_S (g : Nat → Int) (k : Nat) : crR g (k + 1) = rS (crR g k ^^^ (g k).toNat) := rfl
theorem crT_S (g : Nat → Int) (k : Nat) : crT g (k + 1) = tS (crT g k ^^^ (g k).toNat * 16777216) := rfl
theorem crR_0 (g : Nat → Int) : crR g 0 = 4294967295 := rfl
theorem crT_0 (g : Nat → Int) : crT g 0 = 4294967295 := rfl
theorem crR_lt {g : Nat → Int} {n : Nat} (hg : ∀ k : Nat, k < n → 0 ≤ g k ∧ g k < 256) : ∀ k, k ≤ n → crR g k < 4294967296
  | 0, _ => by
    show (4294967295 : Nat) < 4294967296
    omega
  | k + 1, h => rs1_lt (rs1_lt (x32 (crR_lt hg k (by omega)) (by have := hg k (by omega); omega)))
theorem crT_lt (g : Nat → Int) : ∀ k, crT g k < 4294967296
  | 0 => by
    show (4294967295 : Nat) < 4294967296
    omega
  | _ + 1 => ts1_lt _
theorem lp_crd {c n1 n : Nat} {fr : Int} {g : Nat → Int} (hc : SH c = (0, n1, [])) (hn1 : n1 < 1000000) (h0 : 0 ≤ fr) (hn : fr + n ≤ n1) (hg : ∀ k : Nat, k < n → (0 ≤ g k ∧ g k < 256) ∧ S.1 c (fr + k) = g k) : ∀ (t k : Nat), k + t = n → EV q 28 5 [some (.ref c), some (vI fr), some (vI (fr + n)), some (vI (crR g k)), some (vI (fr + k))] [] S (some (vI (-(crR g n : Nat) - 1))) S := by
  intro t
  induction t with
  | zero =>
    intro k hk
    have e : k = n := by omega
    subst e
    exact vc_Row_round_5 _ _ _ _ c n1 hc ⟨fun _ => ⟨rfl, rfl⟩, fun z => absurd (Int.le_refl _) z⟩
  | succ t ih =>
    intro k hk
    obtain ⟨g1, g2⟩ := hg k (by omega)
    have lt := crR_lt (fun k hk => (hg k hk).1) k (by omega)
    have z0 : ¬ fr + (n : Int) ≤ fr + k := by omega
    have z1 : 0 ≤ fr + (k : Int) ∧ fr + (k : Int) < n1 := by omega
    have kt : k + 1 + t = n := by omega
    have ek : fr + (k : Int) + 1 = fr + ((k + 1 : Nat) : Int) := by omega
    have eg : g k = (((g k).toNat : Nat) : Int) := by omega
    have gl : (g k).toNat < 4294967296 := by omega
    have w1 : w32 (fr + n) = fr + n := w32_of (by omega)
    have w2 : w32 (fr + k) = fr + k := w32_of (by omega)
    have yl := x32 lt gl
    have e1 : bX (crR g k : Nat) (g k) = ((crR g k ^^^ (g k).toNat : Nat) : Int) := by
      rw [eg]
      exact bX_n lt gl
    have m16 : ∀ y : Nat, 0 ≤ w32 ((y : Int) % 16) ∧ w32 ((y : Int) % 16) < (16 : Nat) := by
      intro y
      rw [w32_of (by omega)]
      omega
    refine vc_Row_round_5 _ _ _ _ c n1 hc ?_
    rw [w1, w2, g2, e1, rs_ev yl, rs_ev (rs1_lt yl), ek, ← crR_s]
    exact ⟨fun z => absurd z z0, fun _ => ⟨z1, m16 _, m16 _, ih (k + 1) kt⟩⟩
theorem vI_m1 : vI (-1) = vI ((4294967295 : Nat) : Int) := vI_of (by decide)
theorem sp_crd {c n1 n : Nat} {fr : Int} {g : Nat → Int} (hc : SH c = (0, n1, [])) (hn1 : n1 < 1000000) (h0 : 0 ≤ fr) (hn : fr + n ≤ n1) (hg : ∀ k : Nat, k < n → (0 ≤ g k ∧ g k < 256) ∧ S.1 c (fr + k) = g k) : EV q 28 0 [some (.ref c), some (vI fr), some (vI (fr + n)), none, none] [] S (some (vI (-(crR g n : Nat) - 1))) S := by
  have key := lp_crd (q := q) hc hn1 h0 hn hg n 0 (by omega)
  rw [show fr + ((0 : Nat) : Int) = fr by omega, crR_0] at key
  refine vc_Row_round _ _ c n1 hc ?_
  rw [vI_m1]
  exact key
theorem lp_mrd {c n1 n : Nat} {fr : Int} {g : Nat → Int} (hc : SH c = (1, n1, [])) (hn1 : n1 < 1000000) (h0 : 0 ≤ fr) (hn : fr + n ≤ n1) (hg : ∀ k : Nat, k < n → (0 ≤ g k ∧ g k < 256) ∧ S.1 c (fr + k) % 256 = g k) (ht : ∀ t : Nat, t < 256 → S.1 372 t = rdF 8 t) : ∀ (t k : Nat), k + t = n → EV q 264 6 [some (.ref 367), some (.ref c), some (vI fr), some (vI n), some (vI (crR g k)), some (vI k)] [] S (some (vI (-(crR g n : Nat) - 1))) S := by
  intro t
  induction t with
  | zero =>
    intro k hk
    have e : k = n := by omega
    subst e
    exact vc_MD_round_6 _ _ _ _ c n1 hc ⟨fun _ => ⟨rfl, rfl⟩, fun z => absurd (Int.le_refl _) z⟩
  | succ t ih =>
    intro k hk
    obtain ⟨g1, g2⟩ := hg k (by omega)
    have lt := crR_lt (fun k hk => (hg k hk).1) k (by omega)
    have z0 : ¬ (n : Int) ≤ k := by omega
    have z1 : 0 ≤ fr + (k : Int) ∧ fr + (k : Int) < n1 := by omega
    have kt : k + 1 + t = n := by omega
    have gl : (g k).toNat < 4294967296 := by omega
    have w0 : Unit → w32 (n : Int) = n := fun _ => w32_of (by omega)
    have w1 : Unit → w32 (k : Int) = k := fun _ => w32_of (by omega)
    have w2 : w32 (fr + k) = fr + k := w32_of (by omega)
    have yl := x32 lt gl
    have e1 : Unit → w32 (bX (crR g k : Nat) (S.1 c (fr + k)) % 256) = (((crR g k ^^^ (g k).toNat) % 256 : Nat) : Int) := fun _ => by
      rw [bX_nr lt]
      have m1 := Nat.xor_mod_two_pow (a := crR g k) (b := (S.1 c (fr + k) % 4294967296).toNat) (n := 8)
      have m2 := Nat.xor_mod_two_pow (a := crR g k) (b := (g k).toNat) (n := 8)
      rw [show (S.1 c (fr + k) % 4294967296).toNat % 2 ^ 8 = (g k).toNat % 2 ^ 8 by omega, ← m2] at m1
      rw [w32_of (by omega)]
      omega
    have e2 : bX (rdF 8 (((crR g k ^^^ (g k).toNat) % 256 : Nat) : Int)) ((crR g k : Nat) % 4294967296 / 256) = ((crR g (k + 1) : Nat) : Int) := by
      rw [show ((crR g k : Nat) : Int) % 4294967296 / 256 = ((crR g k / 256 : Nat) : Int) by omega, bX_nl (by omega)]
      have m3 := xdv (crR g k) (g k).toNat 8
      rw [show (g k).toNat / 2 ^ 8 = 0 by omega, Nat.xor_zero] at m3
      have m4 : (crR g k ^^^ (g k).toNat) / 256 = crR g k / 256 := m3
      rw [crR_S, rS_eq, m4, Nat.xor_comm (crR g k / 256)]
      unfold rdN
      rfl
    have i2 : 0 ≤ (((crR g k ^^^ (g k).toNat) % 256 : Nat) : Int) ∧ (((crR g k ^^^ (g k).toNat) % 256 : Nat) : Int) < (256 : Nat) := by omega
    refine vc_MD_round_6 _ _ _ _ c n1 hc ?_
    rw [w0 (), w1 (), w2, e1 (), ht _ (by omega), e2]
    exact ⟨fun z => absurd z z0, fun _ => ⟨z1, i2, ih (k + 1) kt⟩⟩
theorem sp_mrd {c n1 n : Nat} {fr : Int} {g : Nat → Int} (hc : SH c = (1, n1, [])) (hn1 : n1 < 1000000) (h0 : 0 ≤ fr) (hn : fr + n ≤ n1) (hg : ∀ k : Nat, k < n → (0 ≤ g k ∧ g k < 256) ∧ S.1 c (fr + k) % 256 = g k) (ht : ∀ t : Nat, t < 256 → S.1 372 t = rdF 8 t) : EV q 264 0 [some (.ref 367), some (.ref c), some (vI fr), some (vI n), none, none] [] S (some (vI (-(crR g n : Nat) - 1))) S := by
  refine vc_MD_round _ _ c n1 hc ?_
  rw [vI_m1]
  have key := lp_mrd (q := q) hc hn1 h0 hn hg ht n 0 (by omega)
  rw [crR_0] at key
  exact key
theorem lp_ctn {c n1 n : Nat} {fr : Int} {g : Nat → Int} (hc : SH c = (0, n1, [])) (hn1 : n1 < 1000000) (h0 : 0 ≤ fr) (hn : fr + n ≤ n1) (hg : ∀ k : Nat, k < n → (0 ≤ g k ∧ g k < 256) ∧ S.1 c (fr + k) = g k) : ∀ (t k : Nat), k + t = n → EV q 29 5 [some (.ref c), some (vI fr), some (vI (fr + n)), some (vI (crT g k)), some (vI (fr + k))] [] S (some (vI (-(crT g n : Nat) - 1))) S := by
  intro t
  induction t with
  | zero =>
    intro k hk
    have e : k = n := by omega
    subst e
    exact vc_Row_turned_5 _ _ _ _ c n1 hc ⟨fun _ => ⟨rfl, rfl⟩, fun z => absurd (Int.le_refl _) z⟩
  | succ t ih =>
    intro k hk
    obtain ⟨g1, g2⟩ := hg k (by omega)
    have lt := crT_lt g k
    have z0 : ¬ fr + (n : Int) ≤ fr + k := by omega
    have z1 : 0 ≤ fr + (k : Int) ∧ fr + (k : Int) < n1 := by omega
    have kt : k + 1 + t = n := by omega
    have ek : fr + (k : Int) + 1 = fr + ((k + 1 : Nat) : Int) := by omega
    have eg : g k * 16777216 = (((g k).toNat * 16777216 : Nat) : Int) := by omega
    have gl : (g k).toNat * 16777216 < 4294967296 := by omega
    have w1 : w32 (fr + n) = fr + n := w32_of (by omega)
    have w2 : w32 (fr + k) = fr + k := w32_of (by omega)
    have yl := x32 lt gl
    have e1 : bX (crT g k : Nat) (g k * 16777216) = ((crT g k ^^^ (g k).toNat * 16777216 : Nat) : Int) := by
      rw [eg]
      exact bX_n lt gl
    have m16 : ∀ y : Nat, 0 ≤ w32 ((y : Int) % 4294967296 / 268435456) ∧ w32 ((y : Int) % 4294967296 / 268435456) < (16 : Nat) := by
      intro y
      rw [w32_of (by omega)]
      omega
    refine vc_Row_turned_5 _ _ _ _ c n1 hc ?_
    rw [w1, w2, g2, e1, ts_ev yl, ts_ev (ts1_lt _), ek, ← crT_s]
    exact ⟨fun z => absurd z z0, fun _ => ⟨z1, m16 _, m16 _, ih (k + 1) kt⟩⟩
theorem sp_ctn {c n1 n : Nat} {fr : Int} {g : Nat → Int} (hc : SH c = (0, n1, [])) (hn1 : n1 < 1000000) (h0 : 0 ≤ fr) (hn : fr + n ≤ n1) (hg : ∀ k : Nat, k < n → (0 ≤ g k ∧ g k < 256) ∧ S.1 c (fr + k) = g k) : EV q 29 0 [some (.ref c), some (vI fr), some (vI (fr + n)), none, none] [] S (some (vI (-(crT g n : Nat) - 1))) S := by
  have key := lp_ctn (q := q) hc hn1 h0 hn hg n 0 (by omega)
  rw [show fr + ((0 : Nat) : Int) = fr by omega, crT_0] at key
  refine vc_Row_turned _ _ c n1 hc ?_
  rw [vI_m1]
  exact key
theorem lp_mtn {c n1 n : Nat} {fr : Int} {g : Nat → Int} (hc : SH c = (1, n1, [])) (hn1 : n1 < 1000000) (h0 : 0 ≤ fr) (hn : fr + n ≤ n1) (hg : ∀ k : Nat, k < n → (0 ≤ g k ∧ g k < 256) ∧ S.1 c (fr + k) % 256 = g k) (ht : ∀ t : Nat, t < 256 → S.1 373 t = tnF 8 (((t : Nat) : Int) * 16777216)) : ∀ (t k : Nat), k + t = n → EV q 265 6 [some (.ref 367), some (.ref c), some (vI fr), some (vI n), some (vI (crT g k)), some (vI k)] [] S (some (vI (-(crT g n : Nat) - 1))) S := by
  intro t
  induction t with
  | zero =>
    intro k hk
    have e : k = n := by omega
    subst e
    exact vc_MD_turned_6 _ _ _ _ c n1 hc ⟨fun _ => ⟨rfl, rfl⟩, fun z => absurd (Int.le_refl _) z⟩
  | succ t ih =>
    intro k hk
    obtain ⟨g1, g2⟩ := hg k (by omega)
    have lt := crT_lt g k
    have z0 : ¬ (n : Int) ≤ k := by omega
    have z1 : 0 ≤ fr + (k : Int) ∧ fr + (k : Int) < n1 := by omega
    have kt : k + 1 + t = n := by omega
    have gl : (g k).toNat * 16777216 < 4294967296 := by omega
    have w0 : Unit → w32 (n : Int) = n := fun _ => w32_of (by omega)
    have w1 : Unit → w32 (k : Int) = k := fun _ => w32_of (by omega)
    have w2 : w32 (fr + k) = fr + k := w32_of (by omega)
    have yl := x32 lt gl
    have dv : (crT g k ^^^ (g k).toNat * 16777216) / 16777216 = crT g k / 16777216 ^^^ (g k).toNat := by
      have m3 := xdv (crT g k) ((g k).toNat * 16777216) 24
      rw [show (g k).toNat * 16777216 / 2 ^ 24 = (g k).toNat by omega] at m3
      exact m3
    have e1 : Unit → w32 (bX ((crT g k : Nat) % 4294967296 / 16777216) (S.1 c (fr + k)) % 256) = (((crT g k ^^^ (g k).toNat * 16777216) / 16777216 : Nat) : Int) := fun _ => by
      rw [show ((crT g k : Nat) : Int) % 4294967296 / 16777216 = ((crT g k / 16777216 : Nat) : Int) by omega, bX_nr (by omega), dv]
      have m1 := Nat.xor_mod_two_pow (a := crT g k / 16777216) (b := (S.1 c (fr + k) % 4294967296).toNat) (n := 8)
      have m2 := Nat.xor_mod_two_pow (a := crT g k / 16777216) (b := (g k).toNat) (n := 8)
      rw [show (S.1 c (fr + k) % 4294967296).toNat % 2 ^ 8 = (g k).toNat % 2 ^ 8 by omega, ← m2] at m1
      have m4 : crT g k / 16777216 ^^^ (g k).toNat < 2 ^ 8 := Nat.xor_lt_two_pow (by omega) (by omega)
      rw [w32_of (by omega)]
      omega
    have e2 : bX (tnF 8 ((((crT g k ^^^ (g k).toNat * 16777216) / 16777216 : Nat) : Int) * 16777216)) ((crT g k : Nat) * 256) = ((crT g (k + 1) : Nat) : Int) := by
      have m5 : ((crT g k : Nat) : Int) * 256 % 4294967296 = (((crT g k ^^^ (g k).toNat * 16777216) * 256 % 4294967296 : Nat) : Int) := by
        have m6 := Nat.xor_mod_two_pow (a := crT g k) (b := (g k).toNat * 16777216) (n := 24)
        rw [show (g k).toNat * 16777216 % 2 ^ 24 = 0 by omega, Nat.xor_zero] at m6
        omega
      unfold bX
      rw [m5, show ((((crT g k ^^^ (g k).toNat * 16777216) * 256 % 4294967296 : Nat) : Int)).toNat = (crT g k ^^^ (g k).toNat * 16777216) * 256 % 4294967296 by omega]
      rw [crT_S, tS_eq _ yl, Nat.xor_comm ((crT g k ^^^ (g k).toNat * 16777216) * 256 % 4294967296)]
      unfold tnN
      rfl
    have i2 : 0 ≤ (((crT g k ^^^ (g k).toNat * 16777216) / 16777216 : Nat) : Int) ∧ (((crT g k ^^^ (g k).toNat * 16777216) / 16777216 : Nat) : Int) < (256 : Nat) := by omega
    refine vc_MD_turned_6 _ _ _ _ c n1 hc ?_
    rw [w0 (), w1 (), w2, e1 (), ht _ (by omega), e2]
    exact ⟨fun z => absurd z z0, fun _ => ⟨z1, i2, ih (k + 1) kt⟩⟩
theorem sp_mtn {c n1 n : Nat} {fr : Int} {g : Nat → Int} (hc : SH c = (1, n1, [])) (hn1 : n1 < 1000000) (h0 : 0 ≤ fr) (hn : fr + n ≤ n1) (hg : ∀ k : Nat, k < n → (0 ≤ g k ∧ g k < 256) ∧ S.1 c (fr + k) % 256 = g k) (ht : ∀ t : Nat, t < 256 → S.1 373 t = tnF 8 (((t : Nat) : Int) * 16777216)) : EV q 265 0 [some (.ref 367), some (.ref c), some (vI fr), some (vI n), none, none] [] S (some (vI (-(crT g n : Nat) - 1))) S := by
  refine vc_MD_turned _ _ c n1 hc ?_
  rw [vI_m1]
  have key := lp_mtn (q := q) hc hn1 h0 hn hg ht n 0 (by omega)
  rw [crT_0] at key
  exact key
end Sum1
