/-! sums: kind 3 (mixed) on both sides, and sum -/
section Sum3
variable {q : Nat × (Nat → Int32)} {S : ms} {a b d : Int}
def rot (x s : Int) : Int := bO (x * ((2 : Int) ^ (s % 32).toNat)) (x % 4294967296 / ((2 : Int) ^ ((32 - s) % 32).toNat))
theorem sp_crot (x s : Int) : EV q 32 0 [some (vI x), some (vI s)] [] S (some (vI (rot x s))) S := vc_Row_rotated x s ⟨rfl, rfl⟩
theorem sp_mrot (x s : Int) : EV q 269 0 [some (vI x), some (vI s)] [] S (some (vI (rot x s))) S := vc_MD_rotated x s ⟨rfl, rfl⟩
theorem sp_mlane (x y : Int) : EV q 268 0 [some (vI x), some (vI y)] [] S (some (vI (rot (x + y * (-2048144777)) 13 * (-1640531535)))) S := vc_MD_lane x y ⟨_, _, sp_mrot _ _, rfl, rfl⟩
def wd (g : Nat → Int) (k : Nat) : Int := bO (bO (bO (g k) (g (k + 1) * 256)) (g (k + 2) * 65536)) (g (k + 3) * 16777216)
theorem bO_r {x y z : Int} (h : y % 4294967296 = z % 4294967296) : bO x y = bO x z := by
  unfold bO
  rw [h]
theorem sp_cword {c n1 n : Nat} {fr : Int} {g : Nat → Int} (hc : SH c = (0, n1, [])) (hn1 : n1 < 1000000) (h0 : 0 ≤ fr) (hn : fr + n ≤ n1) (hg : ∀ k : Nat, k < n → (0 ≤ g k ∧ g k < 256) ∧ S.1 c (fr + k) = g k) {k : Nat} {p : Int} (hp : p = fr + k) (hk : k + 4 ≤ n) : EV q 31 0 [some (.ref c), some (vI p)] [] S (some (vI (wd g k))) S := by
  subst hp
  have e0 : w32 (fr + k) = fr + k := w32_of (by omega)
  have e1 : w32 (fr + k + 1) = fr + ((k + 1 : Nat) : Int) := by rw [w32_of (by omega)]; omega
  have e2 : w32 (fr + k + 2) = fr + ((k + 2 : Nat) : Int) := by rw [w32_of (by omega)]; omega
  have e3 : w32 (fr + k + 3) = fr + ((k + 3 : Nat) : Int) := by rw [w32_of (by omega)]; omega
  refine vc_Row_word _ c n1 hc ?_
  rw [e0, e1, e2, e3, (hg k (by omega)).2, (hg (k + 1) (by omega)).2, (hg (k + 2) (by omega)).2, (hg (k + 3) (by omega)).2]
  exact ⟨by omega, by omega, by omega, by omega, rfl, rfl⟩
theorem sp_mfour {c n1 n : Nat} {fr : Int} {g : Nat → Int} (hc : SH c = (1, n1, [])) (hn1 : n1 < 1000000) (h0 : 0 ≤ fr) (hn : fr + n ≤ n1) (hg : ∀ k : Nat, k < n → (0 ≤ g k ∧ g k < 256) ∧ S.1 c (fr + k) % 256 = g k) {k : Nat} {p : Int} (hp : p = fr + k) (hk : k + 4 ≤ n) : EV q 267 0 [some (.ref c), some (vI p)] [] S (some (vI (wd g k))) S := by
  subst hp
  have e0 : w32 (fr + k) = fr + k := w32_of (by omega)
  have e1 : w32 (fr + k + 1) = fr + ((k + 1 : Nat) : Int) := by rw [w32_of (by omega)]; omega
  have e2 : w32 (fr + k + 2) = fr + ((k + 2 : Nat) : Int) := by rw [w32_of (by omega)]; omega
  have e3 : w32 (fr + k + 3) = fr + ((k + 3 : Nat) : Int) := by rw [w32_of (by omega)]; omega
  have g3 := (hg (k + 3) (by omega)).2
  have e4 : S.1 c (fr + ((k + 3 : Nat) : Int)) * 16777216 % 4294967296 = g (k + 3) * 16777216 % 4294967296 := by omega
  refine vc_MD_four _ c n1 hc ?_
  rw [e0, e1, e2, e3, (hg k (by omega)).2, (hg (k + 1) (by omega)).2, (hg (k + 2) (by omega)).2, bO_r e4]
  exact ⟨by omega, by omega, by omega, by omega, rfl, rfl⟩
/-- n octets g stand in the class's array c from fr on -/
def cH (S : ms) (c n1 n : Nat) (fr : Int) (g : Nat → Int) : Prop := SH c = (0, n1, []) ∧ n1 < 1000000 ∧ 0 ≤ fr ∧ fr + n ≤ n1 ∧ ∀ k : Nat, k < n → (0 ≤ g k ∧ g k < 256) ∧ S.1 c (fr + k) = g k
/-- n octets g stand in the reference's array c from fr on -/
def mH (S : ms) (c n1 n : Nat) (fr : Int) (g : Nat → Int) : Prop := SH c = (1, n1, []) ∧ n1 < 1000000 ∧ 0 ≤ fr ∧ fr + n ≤ n1 ∧ ∀ k : Nat, k < n → (0 ≤ g k ∧ g k < 256) ∧ S.1 c (fr + k) % 256 = g k
theorem jx3 {n : Nat} {g : Nat → Int} : ∀ (t k : Nat) (x : Int), k + t = n → ∃ z : Int, (∀ (S : ms) (c n1 : Nat) (fr : Int), cH S c n1 n fr g → EV q 30 209 [some (.ref c), some (vI fr), some (vI (fr + n)), some (vI (fr + k)), some (vI x), none, none, none, none] [] S (some (vI z)) S) ∧ ∀ (S : ms) (c n1 : Nat) (fr : Int), mH S c n1 n fr g → EV q 266 185 [some (.ref c), some (vI fr), some (vI n), some (vI k), some (vI x), none, none, none, none] [] S (some (vI z)) S := by
  intro t
  induction t with
  | zero =>
    intro k x hk
    have e : k = n := by omega
    subst e
    refine ⟨_, fun S c n1 fr h => vc_Row_mixed_209 _ _ _ _ c n1 h.1 ⟨fun _ => ⟨rfl, rfl⟩, fun z => absurd (Int.le_refl _) z⟩, fun S c n1 fr h => vc_MD_mixed_185 _ _ _ _ c n1 h.1 ⟨fun _ => ⟨rfl, rfl⟩, fun z => absurd (Int.le_refl _) z⟩⟩
  | succ t ih =>
    intro k x hk
    obtain ⟨z, k1, k2⟩ := ih (k + 1) (rot (x + g k * 374761393) 11 * (-1640531535)) (by omega)
    refine ⟨z, fun S c n1 fr h => ?_, fun S c n1 fr h => ?_⟩
    · obtain ⟨hc, hn1, h0, hn, hg⟩ := id h
      have g2 := (hg k (by omega)).2
      have nx := k1 S c n1 fr h
      have z0 : ¬ fr + (n : Int) ≤ fr + k := by omega
      have z1 : 0 ≤ fr + (k : Int) ∧ fr + (k : Int) < n1 := by omega
      have ek : fr + ((k + 1 : Nat) : Int) = fr + (k : Int) + 1 := by omega
      have w1 : w32 (fr + n) = fr + n := w32_of (by omega)
      have w2 : w32 (fr + k) = fr + k := w32_of (by omega)
      rw [ek] at nx
      refine vc_Row_mixed_209 _ _ _ _ c n1 hc ?_
      rw [w1, w2, g2]
      exact ⟨fun z => absurd z z0, fun _ => ⟨z1, _, _, sp_crot _ _, nx⟩⟩
    · obtain ⟨hc, hn1, h0, hn, hg⟩ := id h
      have g2 := (hg k (by omega)).2
      have nx := k2 S c n1 fr h
      have z0 : ¬ (n : Int) ≤ k := by omega
      have z1 : 0 ≤ fr + (k : Int) ∧ fr + (k : Int) < n1 := by omega
      have ek : ((k + 1 : Nat) : Int) = (k : Int) + 1 := by omega
      have w2 : w32 (fr + k) = fr + k := w32_of (by omega)
      have w1 : Unit → w32 (n : Int) = n := fun _ => w32_of (by omega)
      have w3 : Unit → w32 (k : Int) = k := fun _ => w32_of (by omega)
      rw [ek] at nx
      refine vc_MD_mixed_185 _ _ _ _ c n1 hc ?_
      rw [w1 (), w2, w3 (), g2]
      exact ⟨fun z => absurd z z0, fun _ => ⟨z1, _, _, sp_mrot _ _, nx⟩⟩
theorem jx2 {n : Nat} {g : Nat → Int} : ∀ (t k : Nat) (x : Int), k ≤ n → (n - k) / 4 = t → ∃ z : Int, (∀ (S : ms) (c n1 : Nat) (fr : Int), cH S c n1 n fr g → EV q 30 175 [some (.ref c), some (vI fr), some (vI (fr + n)), some (vI (fr + k)), some (vI x), none, none, none, none] [] S (some (vI z)) S) ∧ ∀ (S : ms) (c n1 : Nat) (fr : Int), mH S c n1 n fr g → EV q 266 147 [some (.ref c), some (vI fr), some (vI n), some (vI k), some (vI x), none, none, none, none] [] S (some (vI z)) S := by
  intro t
  induction t with
  | zero =>
    intro k x hk ht
    obtain ⟨z, k1, k2⟩ := jx3 (q := q) (n := n) (g := g) (n - k) k x (by omega)
    refine ⟨z, fun S c n1 fr h => ?_, fun S c n1 fr h => ?_⟩
    · obtain ⟨hc, hn1, h0, hn, hg⟩ := id h
      have nx := k1 S c n1 fr h
      have z0 : fr + (n : Int) < fr + k + 4 := by omega
      have w1 : w32 (fr + n) = fr + n := w32_of (by omega)
      have w2 : w32 (fr + k + 4) = fr + k + 4 := w32_of (by omega)
      refine vc_Row_mixed_175 _ _ _ _ c n1 hc ?_
      rw [w1, w2]
      exact ⟨fun _ => nx, fun z => absurd z0 z⟩
    · obtain ⟨hc, hn1, h0, hn, hg⟩ := id h
      have nx := k2 S c n1 fr h
      have z0 : (n : Int) < k + 4 := by omega
      have w1 : Unit → w32 (n : Int) = n := fun _ => w32_of (by omega)
      have w2 : Unit → w32 ((k : Int) + 4) = k + 4 := fun _ => w32_of (by omega)
      refine vc_MD_mixed_147 _ _ _ _ c n1 hc ?_
      rw [w1 (), w2 ()]
      exact ⟨fun _ => nx, fun z => absurd z0 z⟩
  | succ t ih =>
    intro k x hk ht
    obtain ⟨z, k1, k2⟩ := ih (k + 4) (rot (x + wd g k * (-1028477379)) 17 * 668265263) (by omega) (by omega)
    refine ⟨z, fun S c n1 fr h => ?_, fun S c n1 fr h => ?_⟩
    · obtain ⟨hc, hn1, h0, hn, hg⟩ := id h
      have nx := k1 S c n1 fr h
      have z0 : ¬ fr + (n : Int) < fr + k + 4 := by omega
      have ek : fr + ((k + 4 : Nat) : Int) = fr + (k : Int) + 4 := by omega
      have w1 : w32 (fr + n) = fr + n := w32_of (by omega)
      have w2 : w32 (fr + k + 4) = fr + k + 4 := w32_of (by omega)
      rw [ek] at nx
      refine vc_Row_mixed_175 _ _ _ _ c n1 hc ?_
      rw [w1, w2]
      exact ⟨fun z => absurd z z0, fun _ => ⟨_, _, sp_cword hc hn1 h0 hn hg rfl (by omega), _, _, sp_crot _ _, nx⟩⟩
    · obtain ⟨hc, hn1, h0, hn, hg⟩ := id h
      have nx := k2 S c n1 fr h
      have z0 : ¬ (n : Int) < k + 4 := by omega
      have ek : ((k + 4 : Nat) : Int) = (k : Int) + 4 := by omega
      have fo := sp_mfour (q := q) (k := k) hc hn1 h0 hn hg rfl (by omega)
      have w1 : Unit → w32 (n : Int) = n := fun _ => w32_of (by omega)
      have w2 : Unit → w32 ((k : Int) + 4) = k + 4 := fun _ => w32_of (by omega)
      rw [ek] at nx
      refine vc_MD_mixed_147 _ _ _ _ c n1 hc ?_
      rw [w1 (), w2 ()]
      exact ⟨fun z => absurd z z0, fun _ => ⟨_, _, fo, _, _, sp_mrot _ _, nx⟩⟩
theorem jx1 {n : Nat} {g : Nat → Int} : ∀ (t k : Nat) (u v w y : Int), k ≤ n → (n - k) / 16 = t → ∃ z : Int, (∀ (S : ms) (c n1 : Nat) (fr : Int), cH S c n1 n fr g → EV q 30 29 [some (.ref c), some (vI fr), some (vI (fr + n)), some (vI (fr + k)), some (vI 374761393), some (vI u), some (vI v), some (vI w), some (vI y)] [] S (some (vI z)) S) ∧ ∀ (S : ms) (c n1 : Nat) (fr : Int), mH S c n1 n fr g → EV q 266 31 [some (.ref c), some (vI fr), some (vI n), some (vI k), some (vI 374761393), some (vI u), some (vI v), some (vI w), some (vI y)] [] S (some (vI z)) S := by
  intro t
  induction t with
  | zero =>
    intro k u v w y hk ht
    obtain ⟨z, k1, k2⟩ := jx2 (q := q) (g := g) ((n - k) / 4) k (rot u 1 + rot v 7 + rot w 12 + rot y 18 + n) hk rfl
    refine ⟨z, fun S c n1 fr h => ?_, fun S c n1 fr h => ?_⟩
    · obtain ⟨hc, hn1, h0, hn, hg⟩ := id h
      have nx := k1 S c n1 fr h
      have z0 : fr + (n : Int) < fr + k + 16 := by omega
      have en : fr + (n : Int) - fr = n := by omega
      have w1 : w32 (fr + n) = fr + n := w32_of (by omega)
      have w2 : w32 (fr + k + 16) = fr + k + 16 := w32_of (by omega)
      refine vc_Row_mixed_29 _ _ _ _ _ _ _ _ c n1 hc ?_
      rw [w1, w2]
      refine ⟨fun _ => ⟨_, _, sp_crot _ _, _, _, sp_crot _ _, _, _, sp_crot _ _, _, _, sp_crot _ _, vc_Row_mixed_167 _ _ _ _ c n1 hc ?_⟩, fun z => absurd z0 z⟩
      rw [en]
      exact nx
    · obtain ⟨hc, hn1, h0, hn, hg⟩ := id h
      have nx := k2 S c n1 fr h
      have z0 : (n : Int) < k + 16 := by omega
      have w1 : Unit → w32 (n : Int) = n := fun _ => w32_of (by omega)
      have w2 : Unit → w32 ((k : Int) + 16) = k + 16 := fun _ => w32_of (by omega)
      refine vc_MD_mixed_31 _ _ _ _ _ _ _ _ c n1 hc ?_
      rw [w1 (), w2 ()]
      exact ⟨fun _ => ⟨_, _, sp_mrot _ _, _, _, sp_mrot _ _, _, _, sp_mrot _ _, _, _, sp_mrot _ _, vc_MD_mixed_141 _ _ _ _ c n1 hc nx⟩, fun z => absurd z0 z⟩
  | succ t ih =>
    intro k u v w y hk ht
    obtain ⟨z, k1, k2⟩ := ih (k + 16) (rot (u + wd g k * (-2048144777)) 13 * (-1640531535)) (rot (v + wd g (k + 4) * (-2048144777)) 13 * (-1640531535)) (rot (w + wd g (k + 8) * (-2048144777)) 13 * (-1640531535)) (rot (y + wd g (k + 12) * (-2048144777)) 13 * (-1640531535)) (by omega) (by omega)
    refine ⟨z, fun S c n1 fr h => ?_, fun S c n1 fr h => ?_⟩
    · obtain ⟨hc, hn1, h0, hn, hg⟩ := id h
      have nx := k1 S c n1 fr h
      have z0 : ¬ fr + (n : Int) < fr + k + 16 := by omega
      have ek : fr + ((k + 16 : Nat) : Int) = fr + (k : Int) + 16 := by omega
      have c0 := sp_cword (q := q) (k := k) hc hn1 h0 hn hg rfl (by omega)
      have c4 := sp_cword (q := q) (k := k + 4) (p := fr + k + 4) hc hn1 h0 hn hg (by omega) (by omega)
      have c8 := sp_cword (q := q) (k := k + 8) (p := fr + k + 8) hc hn1 h0 hn hg (by omega) (by omega)
      have c12 := sp_cword (q := q) (k := k + 12) (p := fr + k + 12) hc hn1 h0 hn hg (by omega) (by omega)
      have w1 : w32 (fr + n) = fr + n := w32_of (by omega)
      have w2 : w32 (fr + k + 16) = fr + k + 16 := w32_of (by omega)
      rw [ek] at nx
      refine vc_Row_mixed_29 _ _ _ _ _ _ _ _ c n1 hc ?_
      rw [w1, w2]
      exact ⟨fun z => absurd z z0, fun _ => ⟨_, _, c0, _, _, sp_crot _ _, _, _, c4, _, _, sp_crot _ _, _, _, c8, _, _, sp_crot _ _, _, _, c12, _, _, sp_crot _ _, nx⟩⟩
    · obtain ⟨hc, hn1, h0, hn, hg⟩ := id h
      have nx := k2 S c n1 fr h
      have z0 : ¬ (n : Int) < k + 16 := by omega
      have ek : ((k + 16 : Nat) : Int) = (k : Int) + 16 := by omega
      have c0 := sp_mfour (q := q) (k := k) hc hn1 h0 hn hg rfl (by omega)
      have c4 := sp_mfour (q := q) (k := k + 4) (p := fr + k + 4) hc hn1 h0 hn hg (by omega) (by omega)
      have c8 := sp_mfour (q := q) (k := k + 8) (p := fr + k + 8) hc hn1 h0 hn hg (by omega) (by omega)
      have c12 := sp_mfour (q := q) (k := k + 12) (p := fr + k + 12) hc hn1 h0 hn hg (by omega) (by omega)
      have w1 : Unit → w32 (n : Int) = n := fun _ => w32_of (by omega)
      have w2 : Unit → w32 ((k : Int) + 16) = k + 16 := fun _ => w32_of (by omega)
      rw [ek] at nx
      refine vc_MD_mixed_31 _ _ _ _ _ _ _ _ c n1 hc ?_
      rw [w1 (), w2 ()]
      exact ⟨fun z => absurd z z0, fun _ => ⟨_, _, c0, _, _, sp_mlane _ _, _, _, c4, _, _, sp_mlane _ _, _, _, c8, _, _, sp_mlane _ _, _, _, c12, _, _, sp_mlane _ _, nx⟩⟩
/-- mixed: both come to the same -/
theorem jx (n : Nat) (g : Nat → Int) : ∃ z : Int, (∀ (S : ms) (c n1 : Nat) (fr : Int), cH S c n1 n fr g → EV q 30 0 [some (.ref c), some (vI fr), some (vI (fr + n)), none, none, none, none, none, none] [] S (some (vI z)) S) ∧ ∀ (S : ms) (c n1 : Nat) (fr : Int), mH S c n1 n fr g → EV q 266 0 [some (.ref c), some (vI fr), some (vI n), none, none, none, none, none, none] [] S (some (vI z)) S := by
  by_cases l : n < 16
  · obtain ⟨z, k1, k2⟩ := jx2 (q := q) (g := g) (n := n) (n / 4) 0 (374761393 + n) (by omega) (by omega)
    refine ⟨z, fun S c n1 fr h => ?_, fun S c n1 fr h => ?_⟩
    · obtain ⟨hc, hn1, h0, hn, hg⟩ := id h
      have nx := k1 S c n1 fr h
      have f0 : fr + ((0 : Nat) : Int) = fr := by omega
      have e : fr + (n : Int) - fr = n := by omega
      have l' : (n : Int) < 16 := by omega
      have w : Unit → w32 (n : Int) = n := fun _ => w32_of (by omega)
      rw [f0] at nx
      refine vc_Row_mixed _ _ c n1 hc ?_
      rw [e, w ()]
      refine ⟨fun _ => vc_Row_mixed_167 _ _ _ _ c n1 hc ?_, fun n => absurd l' n⟩
      rw [e]
      exact nx
    · obtain ⟨hc, hn1, h0, hn, hg⟩ := id h
      have nx := k2 S c n1 fr h
      have l' : (n : Int) < 16 := by omega
      have w : Unit → w32 (n : Int) = n := fun _ => w32_of (by omega)
      refine vc_MD_mixed _ _ c n1 hc ?_
      rw [w ()]
      exact ⟨fun _ => vc_MD_mixed_141 _ _ _ _ c n1 hc nx, fun n => absurd l' n⟩
  · obtain ⟨z, k1, k2⟩ := jx1 (q := q) (g := g) (n := n) (n / 16) 0 606290984 (-2048144777) 0 1640531535 (by omega) (by omega)
    refine ⟨z, fun S c n1 fr h => ?_, fun S c n1 fr h => ?_⟩
    · obtain ⟨hc, hn1, h0, hn, hg⟩ := id h
      have nx := k1 S c n1 fr h
      have f0 : fr + ((0 : Nat) : Int) = fr := by omega
      have e : fr + (n : Int) - fr = n := by omega
      have l' : ¬ (n : Int) < 16 := by omega
      have w : Unit → w32 (n : Int) = n := fun _ => w32_of (by omega)
      rw [f0] at nx
      refine vc_Row_mixed _ _ c n1 hc ?_
      rw [e, w ()]
      exact ⟨fun n => absurd n l', fun _ => nx⟩
    · obtain ⟨hc, hn1, h0, hn, hg⟩ := id h
      have nx := k2 S c n1 fr h
      have l' : ¬ (n : Int) < 16 := by omega
      have w : Unit → w32 (n : Int) = n := fun _ => w32_of (by omega)
      refine vc_MD_mixed _ _ c n1 hc ?_
      rw [w ()]
      exact ⟨fun n => absurd n l', fun _ => nx⟩
/-- the reference's two tables -/
def RQ (S : ms) : Prop := (∀ t : Nat, t < 256 → S.1 372 t = rdF 8 t) ∧ ∀ t : Nat, t < 256 → S.1 373 t = tnF 8 (((t : Nat) : Int) * 16777216)
/-- sum(kind) -/
theorem op5_ok (h : RT S) (hq : RQ S) : op_5 q a b d S (fun T => T = wI S 367 0 0) := by
  obtain ⟨h1, h2, h3⟩ := h
  have en : (((S.1 1 1).toNat : Nat) : Int) = S.1 1 1 := by omega
  have e2 : (wI S 367 0 0).1 367 2 = S.1 1 1 := by rw [r0 2 (by decide), h2]
  have k0 : (0 : Int) + (((S.1 1 1).toNat : Nat) : Int) ≤ (6000 : Nat) := by omega
  have gc : ∀ k : Nat, k < (S.1 1 1).toNat → (0 ≤ S.1 2 k ∧ S.1 2 k < 256) ∧ S.1 2 (0 + k) = S.1 2 k := fun k hk => ⟨(h3 k (by omega) (by omega)).1, by rw [Int.zero_add]⟩
  have gm : ∀ k : Nat, k < (S.1 1 1).toNat → (0 ≤ S.1 2 k ∧ S.1 2 k < 256) ∧ (wI S 367 0 0).1 368 (0 + k) % 256 = S.1 2 k := by
    intro k hk
    obtain ⟨g1, g2⟩ := h3 k (by omega) (by omega)
    exact ⟨g1, by rw [Int.zero_add, r0a _ _ (by decide)]; exact oct_eq g1 g2⟩
  have t1 : ∀ t : Nat, t < 256 → (wI S 367 0 0).1 372 t = rdF 8 t := fun t ht => by rw [r0a _ _ (by decide)]; exact hq.1 t ht
  have t2 : ∀ t : Nat, t < 256 → (wI S 367 0 0).1 373 t = tnF 8 (((t : Nat) : Int) * 16777216) := fun t ht => by rw [r0a _ _ (by decide)]; exact hq.2 t ht
  by_cases c0 : w32 a = 0
  · have k1 := sp_cad (q := q) (c := 2) (n1 := 6000) (fr := 0) rfl (by decide) (by decide) k0 gc
    have k2 := sp_mad (q := q) (c := 368) (n1 := 6000) (fr := 0) rfl (by decide) (by decide) k0 gm
    obtain ⟨r1, r2⟩ := adA_rg (fun k => S.1 2 k) (S.1 1 1).toNat
    rw [Int.zero_add, en] at k1
    rw [en] at k2
    refine ⟨_, S, (adA (fun k => S.1 2 k) (S.1 1 1).toNat).2 * 65536 + (adA (fun k => S.1 2 k) (S.1 1 1).toNat).1, wI S 367 0 0, vc_PH_sum a ⟨fun _ => ⟨_, _, k1, rfl, rfl⟩, fun n => absurd n (by omega), fun n => absurd n (by omega), fun n => absurd n (by omega), fun n => absurd c0 n⟩, vc_MD_sum a (fun S1 f => ?_), ?_, rfl⟩
    · subst f
      rw [e2]
      exact ⟨fun _ => ⟨_, _, k2, rfl, rfl⟩, fun n => absurd n (by omega), fun n => absurd n (by omega), fun n => absurd n (by omega), fun n => absurd c0 n⟩
    · generalize adA (fun k : Nat => S.1 2 (k : Int)) (S.1 1 1).toNat = A at r1 r2 ⊢
      have e : w32 (A.2 * 65536 + A.1) % 4294967296 = A.2 * 65536 + A.1 := by
        unfold w32
        omega
      rw [e]
  by_cases c1 : w32 a = 1
  · have k1 := sp_crd (q := q) (c := 2) (n1 := 6000) (fr := 0) rfl (by decide) (by decide) k0 gc
    have k2 := sp_mrd (q := q) (c := 368) (n1 := 6000) (fr := 0) rfl (by decide) (by decide) k0 gm t1
    rw [Int.zero_add, en] at k1
    rw [en] at k2
    refine ⟨_, S, _, wI S 367 0 0, vc_PH_sum a ⟨fun n => absurd n (by omega), fun _ => ⟨_, _, k1, rfl, rfl⟩, fun n => absurd n (by omega), fun n => absurd n (by omega), fun _ n => absurd c1 n⟩, vc_MD_sum a (fun S1 f => ?_), rfl, rfl⟩
    subst f
    rw [e2]
    exact ⟨fun n => absurd n (by omega), fun _ => ⟨_, _, k2, rfl, rfl⟩, fun n => absurd n (by omega), fun n => absurd n (by omega), fun _ n => absurd c1 n⟩
  by_cases c2 : w32 a = 2
  · have k1 := sp_ctn (q := q) (c := 2) (n1 := 6000) (fr := 0) rfl (by decide) (by decide) k0 gc
    have k2 := sp_mtn (q := q) (c := 368) (n1 := 6000) (fr := 0) rfl (by decide) (by decide) k0 gm t2
    rw [Int.zero_add, en] at k1
    rw [en] at k2
    refine ⟨_, S, _, wI S 367 0 0, vc_PH_sum a ⟨fun n => absurd n (by omega), fun n => absurd n (by omega), fun _ => ⟨_, _, k1, rfl, rfl⟩, fun n => absurd n (by omega), fun _ _ n => absurd c2 n⟩, vc_MD_sum a (fun S1 f => ?_), rfl, rfl⟩
    subst f
    rw [e2]
    exact ⟨fun n => absurd n (by omega), fun n => absurd n (by omega), fun _ => ⟨_, _, k2, rfl, rfl⟩, fun n => absurd n (by omega), fun _ _ n => absurd c2 n⟩
  by_cases c3 : w32 a = 3
  · obtain ⟨z, y1, y2⟩ := jx (q := q) (S.1 1 1).toNat (fun k => S.1 2 k)
    have k1 := y1 S 2 6000 0 ⟨rfl, by decide, by decide, k0, gc⟩
    have k2 := y2 (wI S 367 0 0) 368 6000 0 ⟨rfl, by decide, by decide, k0, gm⟩
    rw [Int.zero_add, en] at k1
    rw [en] at k2
    refine ⟨_, S, _, wI S 367 0 0, vc_PH_sum a ⟨fun n => absurd n (by omega), fun n => absurd n (by omega), fun n => absurd n (by omega), fun _ => ⟨_, _, k1, rfl, rfl⟩, fun _ _ _ n => absurd c3 n⟩, vc_MD_sum a (fun S1 f => ?_), rfl, rfl⟩
    subst f
    rw [e2]
    exact ⟨fun n => absurd n (by omega), fun n => absurd n (by omega), fun n => absurd n (by omega), fun _ => ⟨_, _, k2, rfl, rfl⟩, fun _ _ _ n => absurd c3 n⟩
  · refine ⟨-2, S, -2, wI S 367 0 0, vc_PH_sum a ⟨fun n => absurd n c0, fun n => absurd n c1, fun n => absurd n c2, fun n => absurd n c3, fun _ _ _ _ => ⟨rfl, rfl⟩⟩, vc_MD_sum a (fun S1 f => ?_), rfl, rfl⟩
    subst f
    exact ⟨fun n => absurd n c0, fun n => absurd n c1, fun n => absurd n c2, fun n => absurd n c3, fun _ _ _ _ => ⟨rfl, rfl⟩⟩
end Sum3
