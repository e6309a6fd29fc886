/-! pack: BLOCKS; a symbol of a code is written -/
section PBlkA
variable {q : Nat × (Nat → Int32)}
/-- the lowest n bits of v, the high one first -/
def wbCode (v : Int) : Nat → Wb → Wb
  | 0, s => s
  | n + 1, s => wbCode v n (wbPc 1 ((w32 v / ((2 : Int) ^ ((n : Int) % 32).toNat)) % 2) s)
theorem wbCode_s (v : Int) (n : Nat) (s : Wb) : wbCode v (n + 1) s = wbCode v n (wbPc 1 ((w32 v / ((2 : Int) ^ ((n : Int) % 32).toNat)) % 2) s) := rfl
theorem wbPc1_r {b : Int} {s : Wb} (hb : 0 ≤ b ∧ b < 2) (h : wbR 0 s) : wbR 0 (wbPc 1 b s) := wbPc_r h ⟨by decide, by have := h.2.1; omega⟩ ⟨hb.1, by show b < 2; omega⟩
theorem wbCode_r (v : Int) : ∀ (n : Nat) (s : Wb), wbR 0 s → wbR 0 (wbCode v n s)
  | 0, s, h => h
  | n + 1, s, h => by
    rw [wbCode_s]
    exact wbCode_r v n _ (wbPc1_r (by omega) h)
theorem wbCode_n (v : Int) : ∀ (n : Nat) (s : Wb), s.1.1 ≤ (wbCode v n s).1.1 ∧ (wbCode v n s).1.1 ≤ s.1.1 + n
  | 0, s => by
    show s.1.1 ≤ s.1.1 ∧ s.1.1 ≤ s.1.1 + ((0 : Nat) : Int)
    omega
  | n + 1, s => by
    rw [wbCode_s]
    have h1 := wbCode_n v n (wbPc 1 ((w32 v / ((2 : Int) ^ ((n : Int) % 32).toNat)) % 2) s)
    have h2 := wbPc_n ((w32 v / ((2 : Int) ^ ((n : Int) % 32).toNat)) % 2) s
    omega
/-- how many bits were written -/
def wbB (s : Wb) : Int := 8 * s.1.1 - if s.2 = 0 then 0 else 8 - (s.2 : Int)
theorem wbB_pc (b : Int) {s : Wb} (h : s.2 < 8) : wbB (wbPc 1 b s) = wbB s + 1 := by
  have e1 : (wbPc 1 b s).1.1 = s.1.1 + if s.2 = 0 then 1 else 0 := wbO_1 s
  have e2 : (wbPc 1 b s).2 = (s.2 + 1) % 8 := rfl
  unfold wbB
  rw [e1, e2]
  by_cases c : s.2 = 0
  · rw [if_pos c, if_pos c, c]
    show 8 * (s.1.1 + 1) - (8 - ((1 : Nat) : Int)) = 8 * s.1.1 - 0 + 1
    omega
  · rw [if_neg c, if_neg c]
    by_cases d : s.2 = 7
    · rw [d]
      show 8 * (s.1.1 + 0) - 0 = 8 * s.1.1 - (8 - ((7 : Nat) : Int)) + 1
      omega
    · rw [if_neg (by omega)]
      omega
theorem wbB_low : ∀ (n : Nat) (v : Int) (s : Wb), s.2 < 8 → wbB (wbLow n v s) = wbB s + n
  | 0, v, s, _ => by rw [wbLow_0]; omega
  | n + 1, v, s, h => by
    rw [wbLow_s, wbB_low n _ _ (by show (s.2 + 1) % 8 < 8; omega), wbB_pc _ h]
    omega
theorem wbB_code (v : Int) : ∀ (n : Nat) (s : Wb), s.2 < 8 → wbB (wbCode v n s) = wbB s + n
  | 0, s, _ => by
    show wbB s = wbB s + ((0 : Nat) : Int)
    omega
  | n + 1, s, h => by
    rw [wbCode_s, wbB_code v n _ (by show (s.2 + 1) % 8 < 8; omega), wbB_pc _ h]
    omega
theorem mirG_s (v : Int) : ∀ (t : Nat) (i acc : Int), mirG v (t + 1) i acc = bO (mirG v t i acc * 2) ((w32 v / ((2 : Int) ^ ((i + t) % 32).toNat)) % 2)
  | 0, i, acc => by
    show bO (acc * 2) ((w32 v / ((2 : Int) ^ (i % 32).toNat)) % 2) = bO (acc * 2) ((w32 v / ((2 : Int) ^ ((i + ((0 : Nat) : Int)) % 32).toNat)) % 2)
    rw [show i + ((0 : Nat) : Int) = i by omega]
  | t + 1, i, acc => by
    have h := mirG_s v t (i + 1) (bO (acc * 2) ((w32 v / ((2 : Int) ^ (i % 32).toNat)) % 2))
    rw [show i + 1 + (t : Int) = i + ((t + 1 : Nat) : Int) by omega] at h
    exact h
theorem mir_r (v : Int) : ∀ n : Nat, n ≤ 29 → 0 ≤ mirG v n 0 0 ∧ mirG v n 0 0 < (2 : Int) ^ n
  | 0, _ => by
    show (0 : Int) ≤ 0 ∧ (0 : Int) < 1
    decide
  | n + 1, h => by
    have i := mir_r v n (by omega)
    have p : (2 : Int) ^ n ≤ (2 : Int) ^ 28 := by
      obtain ⟨e, he⟩ : ∃ e, 28 = n + e := ⟨28 - n, by omega⟩
      rw [he, Int.pow_add]
      have a1 : (0 : Int) < (2 : Int) ^ n := Int.pow_pos (by decide)
      have a2 : (0 : Int) < (2 : Int) ^ e := Int.pow_pos (by decide)
      have := Int.mul_le_mul_of_nonneg_left (show (1 : Int) ≤ (2 : Int) ^ e by omega) (show 0 ≤ (2 : Int) ^ n by omega)
      omega
    have p8 : (2 : Int) ^ 28 = 268435456 := by decide
    rw [mirG_s, bO_v (by omega) (by omega), Int.pow_succ]
    omega
theorem mir_low (v : Int) : ∀ (n : Nat) (s : Wb), n ≤ 29 → wbLow n (mirG v n 0 0) s = wbCode v n s
  | 0, s, _ => rfl
  | n + 1, s, h => by
    have i := mir_r v n (by omega)
    have j := mir_r v (n + 1) h
    have p : (2 : Int) ^ n ≤ 268435456 := by
      obtain ⟨e, he⟩ : ∃ e, 28 = n + e := ⟨28 - n, by omega⟩
      have p8 : (2 : Int) ^ 28 = 268435456 := by decide
      rw [← p8, he, Int.pow_add]
      have a1 : (0 : Int) < (2 : Int) ^ n := Int.pow_pos (by decide)
      have a2 : (0 : Int) < (2 : Int) ^ e := Int.pow_pos (by decide)
      have := Int.mul_le_mul_of_nonneg_left (show (1 : Int) ≤ (2 : Int) ^ e by omega) (show 0 ≤ (2 : Int) ^ n by omega)
      omega
    rw [wbLow_s, wbCode_s, mirG_s, bO_v (by omega) (by omega), show (0 : Int) + (n : Int) = n by omega]
    obtain ⟨b, eb⟩ : ∃ b, b = (w32 v / ((2 : Int) ^ ((n : Int) % 32).toNat)) % 2 := ⟨_, rfl⟩
    rw [← eb]
    rw [show (mirG v n 0 0 * 2 + b) / 2 = mirG v n 0 0 by omega, show (mirG v n 0 0 * 2 + b) % 2 = b by omega]
    exact mir_low v n _ (by omega)
/-- a code for writing: the class's (at b), the reference's (lengths a1, values a2) -/
def CodW (A : ms) (b n : Nat) (l : Int → Int) : Prop := isCode b ∧ n ≤ 288 ∧ (∀ s : Nat, s < n → (0 ≤ l s ∧ l s ≤ 20) ∧ A.1 (b + 1) s = l s) ∧ ∀ s : Nat, s < n → 0 < l s → A.1 (b + 3) s = mirG (cdOf l n s) (l s).toNat 0 0
def CodN (B : ms) (a1 a2 n : Nat) (l : Int → Int) : Prop := (∀ s : Nat, s < n → (0 ≤ l s ∧ l s ≤ 20) ∧ B.1 a1 s = l s) ∧ ∀ s : Nat, s < n → 0 < l s → B.1 a2 s = cdOf l n s
def wbSym (l : Int → Int) (n : Nat) (k : Int) (s : Wb) : Wb := wbCode (cdOf l n k.toNat) (l k).toNat s
theorem wbSym_r (l : Int → Int) (n : Nat) (k : Int) {s : Wb} (h : wbR 0 s) : wbR 0 (wbSym l n k s) := wbCode_r _ _ _ h
theorem wbSym_n {l : Int → Int} {n : Nat} {k : Int} {s : Wb} (h : l k ≤ 20) : s.1.1 ≤ (wbSym l n k s).1.1 ∧ (wbSym l n k s).1.1 ≤ s.1.1 + 20 := by
  have := wbCode_n (cdOf l n k.toNat) (l k).toNat s
  unfold wbSym
  omega
theorem cw_sym {A : ms} {o N b n : Nat} {l : Int → Int} {k : Int} {s : Wb} (hk : 0 ≤ k ∧ k < n) (hW : CodW A b n l) (ho : isRow o N) (hN : N < 1000000) (hr : wbR 0 s) (hs : s.1.1 < 800000000) (h : CBt A o N s) : ∃ A', EV q 49 0 [some (.ref o), some (vI (A.1 (b + 3) k)), some (vI (A.1 (b + 1) k)), none, none, none, none, none] [] A none A' ∧ EX (XRb o) A A' ∧ CBt A' o N (wbSym l n k s) := by
  obtain ⟨kk, ek⟩ : ∃ kk : Nat, k = kk := ⟨k.toNat, by omega⟩
  subst ek
  obtain ⟨r, e1⟩ := hW.2.2.1 kk (by omega)
  unfold wbSym
  rw [e1, show ((kk : Int)).toNat = kk by omega]
  by_cases c : l kk = 0
  · rw [c]
    refine ⟨A, vc_Row_lowBits _ _ _ _ ho (vc_Row_lowBits_8 _ _ _ _ _ _ _ ho (cNo (by decide) (cY (by decide) ⟨rfl, rfl⟩))), EX.refl _ A, h⟩
  · rw [hW.2.2.2 kk (by omega) (by omega)]
    have m := mir_r (cdOf l n kk) (l kk).toNat (by omega)
    have p : (2 : Int) ^ (l kk).toNat ≤ 1048576 := by
      obtain ⟨e, he⟩ : ∃ e, 20 = (l kk).toNat + e := ⟨20 - (l kk).toNat, by omega⟩
      have p8 : (2 : Int) ^ 20 = 1048576 := by decide
      rw [← p8, he, Int.pow_add]
      have a1 : (0 : Int) < (2 : Int) ^ (l kk).toNat := Int.pow_pos (by decide)
      have a2 : (0 : Int) < (2 : Int) ^ e := Int.pow_pos (by decide)
      have := Int.mul_le_mul_of_nonneg_left (show (1 : Int) ≤ (2 : Int) ^ e by omega) (show 0 ≤ (2 : Int) ^ (l kk).toNat by omega)
      omega
    obtain ⟨A', k1, k2, k3⟩ := cw_low_bits (q := q) (v := mirG (cdOf l n kk) (l kk).toNat 0 0) (n := (l kk).toNat) ⟨m.1, by omega⟩ (by omega) ho hN hr hs h
    rw [mir_low _ _ _ (by omega)] at k3
    rw [show (((l kk).toNat : Nat) : Int) = l kk by omega] at k1
    exact ⟨A', k1, k2, k3⟩
theorem mw_code {v x2 : Int} : ∀ (n : Nat) (B : ms) (s : Wb), n ≤ 29 → wbR 0 s → s.1.1 < 800000000 - n → MBt B 0 s → ∃ B', EV q 304 4 [some (.ref 367), some (vI v), some (vI x2), some (vI ((n : Int) - 1))] [] B none B' ∧ EX XWb B B' ∧ MBt B' 0 (wbCode v n s) ∧ B'.1 367 12 = B.1 367 12 + n := by
  intro n
  induction n with
  | zero =>
    intro B s _ hr hs h
    exact ⟨B, vc_MD_codeOf_4 _ _ _ (cY (by decide) ⟨rfl, rfl⟩), EX.refl _ B, h, by omega⟩
  | succ n ih =>
    intro B s hn hr hs h
    obtain ⟨b, eb⟩ : ∃ b, b = (w32 v / ((2 : Int) ^ ((n : Int) % 32).toNat)) % 2 := ⟨_, rfl⟩
    obtain ⟨B1, k1, k2, k3, k4⟩ := mw_bit (q := q) (b := b) (hi := 0) (by omega) (by omega) hr (by omega) h
    rw [if_pos rfl] at k3
    have n1 := wbPc_n b s
    obtain ⟨B', g1, g2, g3, g4⟩ := ih B1 (wbPc 1 b s) (by omega) (wbPc1_r (by omega) hr) (by omega) k3
    refine ⟨B', vc_MD_codeOf_4 _ _ _ ?_, k2.trans g2, by rw [wbCode_s, ← eb]; exact g3, by omega⟩
    rw [show ((n + 1 : Nat) : Int) - 1 = n by omega, ← eb, w32_of (x := (n : Int)) (by omega)]
    exact cNo (by omega) ⟨B1, k1, g1⟩
theorem mw_sym {B : ms} {a1 a2 n : Nat} {l : Int → Int} {k : Int} {s : Wb} (hk : 0 ≤ k ∧ k < n) (hW : CodN B a1 a2 n l) (hr : wbR 0 s) (hs : s.1.1 < 700000000) (h : MBt B 0 s) : ∃ B', EV q 304 0 [some (.ref 367), some (vI (B.1 a2 k)), some (vI (B.1 a1 k)), none] [] B none B' ∧ EX XWb B B' ∧ MBt B' 0 (wbSym l n k s) ∧ B'.1 367 12 = B.1 367 12 + (l k).toNat := by
  obtain ⟨kk, ek⟩ : ∃ kk : Nat, k = kk := ⟨k.toNat, by omega⟩
  subst ek
  obtain ⟨r, e1⟩ := hW.1 kk (by omega)
  obtain ⟨B', k1, k2, k3, k4⟩ := mw_code (q := q) (v := B.1 a2 kk) (x2 := l kk) (l kk).toNat B s (by omega) hr (by omega) h
  rw [show (((l kk).toNat : Nat) : Int) - 1 = l kk - 1 by omega] at k1
  refine ⟨B', vc_MD_codeOf _ _ (by rw [e1]; exact k1), k2, ?_, k4⟩
  unfold wbSym
  rw [show ((kk : Int)).toNat = kk by omega]
  by_cases c : l kk = 0
  · rw [c] at k3 ⊢
    exact k3
  · rw [hW.2 kk (by omega) (by omega)] at k3
    exact k3
end PBlkA
