/-! THE READER: bits -/
section Bits
variable {q : Nat × (Nat → Int32)} {en : Int}
/-- bit number h of octet x, counted from the low or from the high end -/
def btV (hi x h : Int) : Int := if hi = 0 then x / (2 : Int) ^ h.toNat % 2 else x / (2 : Int) ^ (7 - h).toNat % 2
theorem btV_rg (hi x h : Int) : 0 ≤ btV hi x h ∧ btV hi x h < 2 := by
  unfold btV
  split <;> omega
/-- the next bit -/
def rdBit (t : Int → Int) (en hi : Int) (st : Rd) (h : Int) : Int × Rd × Int := if st.1 ≠ 0 then (0, st, h) else if h = 0 then (if st.2.2.1 < en then (btV hi (t st.2.2.1) 0, (rdTake t en st).2, 1) else (0, (rdTake t en st).2, 0)) else (btV hi (t (st.2.2.1 - 1)) h, st, (h + 1) % 8)
/-- how many bits are behind the reader -/
def rdP (st : Rd) (h : Int) : Int := 8 * st.2.2.1 - (8 - h) % 8
theorem rdBit_s {t : Int → Int} {hi h : Int} {st : Rd} (hr : rdR en st) (hh : hR st h) : rdR en (rdBit t en hi st h).2.1 ∧ Fw st (rdBit t en hi st h).2.1 ∧ hR (rdBit t en hi st h).2.1 (rdBit t en hi st h).2.2 ∧ (rdBit t en hi st h).2.1.2.2.2 = st.2.2.2 ∧ (0 ≤ (rdBit t en hi st h).1 ∧ (rdBit t en hi st h).1 < 2) ∧ ((rdBit t en hi st h).2.1.1 = 0 → rdP (rdBit t en hi st h).2.1 (rdBit t en hi st h).2.2 = rdP st h + 1) := by
  obtain ⟨h1, h2⟩ := hh
  unfold rdBit
  by_cases c : st.1 ≠ 0
  · rw [if_pos c]
    exact ⟨hr, Fw_r st, ⟨h1, h2⟩, rfl, by show (0 : Int) ≤ 0 ∧ (0 : Int) < 2; decide, fun y => absurd y c⟩
  · rw [if_neg c]
    by_cases d : h = 0
    · rw [if_pos d]
      by_cases e : st.2.2.1 < en
      · rw [if_pos e]
        have n1 : (rdTake t en st).2.2.2.1 = st.2.2.1 + 1 := by
          unfold rdTake
          rw [if_neg c, if_pos e]
        refine ⟨rdR_take hr, Fw_take, ⟨by show (0 : Int) ≤ 1 ∧ (1 : Int) < 8; decide, fun _ => ?_⟩, rdTake_2, btV_rg _ _ _, fun _ => ?_⟩
        · show 0 < (rdTake t en st).2.2.2.1
          have := hr.2.1
          omega
        · show 8 * (rdTake t en st).2.2.2.1 - (8 - 1) % 8 = 8 * st.2.2.1 - (8 - h) % 8 + 1
          omega
      · rw [if_neg e]
        refine ⟨rdR_take hr, Fw_take, hR_0 _, rdTake_2, by show (0 : Int) ≤ 0 ∧ (0 : Int) < 2; decide, fun y => absurd y ?_⟩
        show ¬ (rdTake t en st).2.1 = 0
        unfold rdTake
        rw [if_neg c, if_neg e]
        show ¬ (1 : Int) = 0
        decide
    · rw [if_neg d]
      refine ⟨hr, Fw_r st, ⟨by show 0 ≤ (h + 1) % 8 ∧ (h + 1) % 8 < 8; omega, fun _ => h2 (by omega)⟩, rfl, btV_rg _ _ _, fun _ => ?_⟩
      show 8 * st.2.2.1 - (8 - (h + 1) % 8) % 8 = 8 * st.2.2.1 - (8 - h) % 8 + 1
      omega
def nvV (hi v b : Int) (i : Nat) : Int := if hi = 0 then lO v (b * (2 : Int) ^ ((i : Int) % 64).toNat) else lO (v * 2) b
theorem nvV_rg {hi v b : Int} {i : Nat} (hi' : i < 62) (hv : 0 ≤ v ∧ v < (2 : Int) ^ i) (hb : 0 ≤ b ∧ b < 2) : 0 ≤ nvV hi v b i ∧ nvV hi v b i < (2 : Int) ^ (i + 1) := by
  obtain ⟨v', ev⟩ : ∃ v' : Nat, v = v' := ⟨v.toNat, by omega⟩
  obtain ⟨b', eb⟩ : ∃ b' : Nat, b = b' := ⟨b.toNat, by omega⟩
  subst ev eb
  have pc : ((2 ^ i : Nat) : Int) = (2 : Int) ^ i := by rw [Int.natCast_pow]; rfl
  have pc1 : ((2 ^ (i + 1) : Nat) : Int) = (2 : Int) ^ (i + 1) := by rw [Int.natCast_pow]; rfl
  have ps : 2 ^ (i + 1) = 2 ^ i * 2 := Nat.pow_succ _ _
  have pl : 2 ^ (i + 1) ≤ 2 ^ 62 := Nat.pow_le_pow_right (by decide) (by omega)
  have hv' : v' < 2 ^ i := by
    have := hv.2
    rw [← pc] at this
    omega
  have pl2 : (2 : Nat) ^ 62 = 4611686018427387904 := by decide
  unfold nvV
  rw [← pc1]
  split
  · have e1 : (((i : Int) % 64).toNat) = i := by omega
    have pb : b' * 2 ^ i ≤ 1 * 2 ^ i := Nat.mul_le_mul_right _ (by omega)
    rw [e1, ← pc]
    unfold lO
    have e2 : ((v' : Int) % 18446744073709551616).toNat = v' := by omega
    have e3 : ((b' : Int) * ((2 ^ i : Nat) : Int) % 18446744073709551616).toNat = b' * 2 ^ i := by
      rw [← Int.natCast_mul]
      generalize b' * 2 ^ i = y at pb
      omega
    rw [e2, e3]
    have h := Nat.or_lt_two_pow (x := v') (y := b' * 2 ^ i) (n := i + 1) (by omega) (by omega)
    omega
  · unfold lO
    have e2 : ((v' : Int) * 2 % 18446744073709551616).toNat = v' * 2 := by omega
    have e3 : ((b' : Int) % 18446744073709551616).toNat = b' := by omega
    rw [e2, e3]
    have hb2 : b' < 2 ^ (i + 1) := by
      have : 1 ≤ 2 ^ i := Nat.one_le_two_pow
      omega
    have h := Nat.or_lt_two_pow (x := v' * 2) (y := b') (n := i + 1) (by omega) hb2
    omega
theorem wbit {y h : Int} (hh : 0 ≤ h ∧ h < 8) : w32 y / (2 : Int) ^ (h % 32).toNat % 2 = y % 256 / (2 : Int) ^ h.toNat % 2 := by
  have h8 : h = 0 ∨ h = 1 ∨ h = 2 ∨ h = 3 ∨ h = 4 ∨ h = 5 ∨ h = 6 ∨ h = 7 := by omega
  unfold w32
  rcases h8 with e | e | e | e | e | e | e | e <;> subst e
  · show (((y + 2147483648) % 4294967296 - 2147483648) / 1) % 2 = y % 256 / 1 % 2
    omega
  · show (((y + 2147483648) % 4294967296 - 2147483648) / 2) % 2 = y % 256 / 2 % 2
    omega
  · show (((y + 2147483648) % 4294967296 - 2147483648) / 4) % 2 = y % 256 / 4 % 2
    omega
  · show (((y + 2147483648) % 4294967296 - 2147483648) / 8) % 2 = y % 256 / 8 % 2
    omega
  · show (((y + 2147483648) % 4294967296 - 2147483648) / 16) % 2 = y % 256 / 16 % 2
    omega
  · show (((y + 2147483648) % 4294967296 - 2147483648) / 32) % 2 = y % 256 / 32 % 2
    omega
  · show (((y + 2147483648) % 4294967296 - 2147483648) / 64) % 2 = y % 256 / 64 % 2
    omega
  · show (((y + 2147483648) % 4294967296 - 2147483648) / 128) % 2 = y % 256 / 128 % 2
    omega
/-- nextBit() -/
theorem mb_bit {S B : ms} {t : Int → Int} {hi h : Int} {st : Rd} (hhi : S.1 367 18 = hi ∧ (hi = 0 ∨ hi = 1)) (he : en ≤ 6000) (hC : RdM S en t) (hr : rdR en st) (hh : hR st h) (hB : MB S B en st h) : ∃ B', EV q 340 0 [some (.ref 367), none] [] B (some (vI (rdBit t en hi st h).1)) B' ∧ MB S B' en (rdBit t en hi st h).2.1 (rdBit t en hi st h).2.2 := by
  obtain ⟨h1, ⟨a1, a0, a2, a3, a4⟩, ⟨a6, a7⟩, h4⟩ := id hB
  have wr : w32 st.1 = st.1 := w32_of (by have := hr.1; omega)
  have r2 := hr.2.1
  have e18 : B.1 367 18 = hi := by rw [h4 367 18 (by omega) (by decide)]; exact hhi.1
  have whi : w32 hi = hi := w32_of (by omega)
  obtain ⟨u1, u2⟩ := hh
  -- the place where the octet stands
  have run : ∀ p : Int, st.1 = 0 → st.2.2.1 - (if h = 0 then 0 else 1) = p → (0 ≤ p ∧ p < en) → EV q 340 0 [some (.ref 367), none] [] B (some (vI (btV hi (t p) h))) (if h = 7 then wI (wI (wI B 367 17 (h + 1)) 367 17 0) 367 16 (p + 1) else wI B 367 17 (h + 1)) := by
    intro p c0 ep hp
    have wp : w32 p = p := w32_of (by omega)
    have we : w32 en = en := w32_of (by omega)
    have tk := (hC.2.2 p hp.1 hp.2).2
    have e368 : B.1 368 p = S.1 368 p := h4 368 p (by omega) (by decide)
    have k61 : ∀ y0 : Int, (0 ≤ y0 ∧ y0 < 8) → EV q 340 61 [some (.ref 367), none] [vI y0, vI (B.1 368 p)] B (some (vI (t p / (2 : Int) ^ y0.toNat % 2))) (if h = 7 then wI (wI (wI B 367 17 (h + 1)) 367 17 0) 367 16 (p + 1) else wI B 367 17 (h + 1)) := by
      intro y0 hy
      refine vc_MD_nextBit_61 _ _ (fun S1 f1 => ?_)
      rw [a0 c0] at f1
      have e17 : S1.1 367 17 = h + 1 := by rw [f1, rI_I, if_pos ⟨rfl, rfl⟩]
      have wh : w32 (h + 1) = h + 1 := w32_of (by omega)
      rw [e17, wh, wbit hy, e368, tk]
      by_cases c : h = 7
      · rw [if_pos c]
        refine cNN (by omega) (fun S2 f2 S3 f3 => ⟨rfl, ?_⟩)
        have e16 : S2.1 367 16 = p := by rw [f2, rI_I, if_neg (by decide), f1, rI_I, if_neg (by decide), a4 c0, ep]
        rw [e16] at f3
        subst f1 f2 f3
        rfl
      · rw [if_neg c]
        exact cY (by omega) ⟨rfl, f1.symm⟩
    refine vc_MD_nextBit ?_
    rw [a2, wr, a4 c0, ep, wp, a1 c0, we, e18, whi, a0 c0]
    refine cY c0 (cY hp.2 ⟨368, 6000, by rw [h1]; exact hC.1, rfl, by omega, ?_⟩)
    unfold btV
    rcases hhi.2 with y | y
    · subst y
      rw [if_pos rfl]
      exact cY rfl (k61 h (by omega))
    · subst y
      rw [if_neg (by decide)]
      exact cNo (by decide) (k61 (7 - h) (by omega))
  -- what it leaves
  have after : ∀ (p : Int) (st' : Rd), st.1 = 0 → st'.1 = st.1 → st'.2.1 = st.2.1 → st'.2.2.2 = st.2.2.2 → st.2.2.1 - (if h = 0 then 0 else 1) = p → st'.2.2.1 = p + 1 → MB S (if h = 7 then wI (wI (wI B 367 17 (h + 1)) 367 17 0) 367 16 (p + 1) else wI B 367 17 (h + 1)) en st' ((h + 1) % 8) := by
    intro p st' c0 e1 e2 e3 ep en1
    have key : ∀ (a : Nat) (k : Int), (if h = 7 then wI (wI (wI B 367 17 (h + 1)) 367 17 0) 367 16 (p + 1) else wI B 367 17 (h + 1)).1 a k = if a = 367 ∧ k = 17 then (h + 1) % 8 else if (a = 367 ∧ k = 16) ∧ h = 7 then p + 1 else B.1 a k := by
      intro a k
      by_cases c : h = 7
      · rw [if_pos c, rI_I, rI_I, rI_I]
        by_cases y1 : a = 367 ∧ k = 17
        · rw [if_neg (by omega), if_pos y1, if_pos y1, c]
          rfl
        · by_cases y2 : a = 367 ∧ k = 16
          · rw [if_pos y2, if_neg y1, if_pos ⟨y2, c⟩]
          · rw [if_neg y2, if_neg y1, if_neg y1, if_neg y1, if_neg (fun z => y2 z.1)]
      · rw [if_neg c, rI_I]
        by_cases y1 : a = 367 ∧ k = 17
        · rw [if_pos y1, if_pos y1]
          omega
        · rw [if_neg y1, if_neg y1, if_neg (fun z => c z.2)]
    have key2 : (if h = 7 then wI (wI (wI B 367 17 (h + 1)) 367 17 0) 367 16 (p + 1) else wI B 367 17 (h + 1)).2 = B.2 := by
      split <;> rfl
    refine ⟨by rw [key2]; exact h1, ⟨fun _ => ?_, fun _ => ?_, ?_, ?_, fun _ => ?_⟩, ⟨?_, fun k k0 k1 => ?_⟩, fun a k n1 n2 => ?_⟩
    · rw [key, if_neg (by decide), if_neg (by omega), a1 c0]
    · rw [key, if_pos ⟨rfl, rfl⟩]
    · rw [key, if_neg (by decide), if_neg (by omega), a2, e1]
    · rw [key, if_neg (by decide), if_neg (by omega), a3, e2]
    · rw [key, if_neg (by decide)]
      by_cases c : h = 7
      · rw [if_pos ⟨⟨rfl, rfl⟩, c⟩, en1, if_pos (by omega)]
        omega
      · rw [if_neg (fun z => c z.2), a4 c0, ep, en1, if_neg (by omega)]
        omega
    · rw [key, if_neg (by decide), if_neg (by omega), a6, e3]
    · rw [e3] at k1 ⊢
      rw [key, if_neg (by omega), if_neg (by omega), a7 k k0 k1]
    · rw [key, if_neg (by omega), if_neg (by omega), h4 a k n1 n2]
  unfold rdBit
  by_cases c : st.1 ≠ 0
  · rw [if_pos c]
    refine ⟨B, vc_MD_nextBit ?_, hB⟩
    rw [a2, wr]
    exact cNo c ⟨rfl, rfl⟩
  · have c0 : st.1 = 0 := by omega
    rw [if_neg c]
    by_cases d : h = 0
    · rw [if_pos d]
      by_cases e : st.2.2.1 < en
      · rw [if_pos e]
        have et : (rdTake t en st).2 = (st.1, st.2.1, st.2.2.1 + 1, st.2.2.2) := by
          unfold rdTake
          rw [if_neg c, if_pos e]
        have ep : st.2.2.1 - (if h = 0 then 0 else 1) = st.2.2.1 := by
          rw [if_pos d]
          omega
        have k1 := run st.2.2.1 c0 ep ⟨r2.1, e⟩
        have k2 := after st.2.2.1 (rdTake t en st).2 c0 (by rw [et]) (by rw [et]) (by rw [et]) ep (by rw [et])
        rw [d] at k1 k2
        exact ⟨_, k1, k2⟩
      · rw [if_neg e]
        obtain ⟨B', k1, k2⟩ := mb_tellAt (q := q) (k := 1) (p := en) hr hB
        have et : (rdTake t en st).2 = rdTellAt 1 en st := by
          unfold rdTake rdTellAt
          rw [if_neg c, if_neg e, if_neg c]
        have wn : w32 st.2.2.1 = st.2.2.1 := w32_of (by omega)
        have we : w32 en = en := w32_of (by omega)
        refine ⟨B', vc_MD_nextBit ?_, by rw [et, ← d]; exact k2⟩
        rw [a2, wr, a4 c0, if_pos d, Int.sub_zero, wn, a1 c0, we]
        exact cY c0 (cNo e ⟨B', k1, rfl, rfl⟩)
    · rw [if_neg d]
      have ep : st.2.2.1 - (if h = 0 then 0 else 1) = st.2.2.1 - 1 := by rw [if_neg d]
      have n0 := u2 (by omega)
      exact ⟨_, run (st.2.2.1 - 1) c0 ep (by omega), after (st.2.2.1 - 1) st c0 rfl rfl rfl ep (by omega)⟩
/-- one turn of takeBits -/
theorem sb_bit {S A : ms} {o : Nat} {t : Int → Int} {hi h v : Int} {st : Rd} {n i : Nat} (hhi : S.1 9 7 = hi ∧ (hi = 0 ∨ hi = 1)) (hC : RdC S o en t) (ht : ∀ k : Int, 0 ≤ k → k < en → 0 ≤ t k ∧ t k < 256) (hr : rdR en st) (hh : hR st h) (hn : i < n ∧ n < 1000) (hA : CB S A o en t st h) : ((rdBit t en hi st h).2.1.1 ≠ 0 → ∃ A', EV q 123 5 [some (.ref 9), some (vI n), some (vL v), none, some (vI i)] [] A (some (vL 0)) A' ∧ CB S A' o en t (rdBit t en hi st h).2.1 (rdBit t en hi st h).2.2) ∧ ((rdBit t en hi st h).2.1.1 = 0 → ∃ A1, CB S A1 o en t (rdBit t en hi st h).2.1 (rdBit t en hi st h).2.2 ∧ ∀ (r : Option Value) (S' : ms), EV q 123 5 [some (.ref 9), some (vI n), some (vL (nvV hi v (rdBit t en hi st h).1 i)), none, some (vI ((i : Int) + 1))] [] A1 r S' → EV q 123 5 [some (.ref 9), some (vI n), some (vL v), none, some (vI i)] [] A r S') := by
  have ho := hC.2.2.1
  obtain ⟨u1, u2⟩ := hh
  have wn : Unit → w32 (n : Int) = n := fun _ => w32_of (by omega)
  have wi : Unit → w32 (i : Int) = i := fun _ => w32_of (by omega)
  have z0 : ¬ (n : Int) ≤ i := by omega
  have r2 := hr.2.1
  have wr : w32 st.1 = st.1 := w32_of (by have := hr.1; omega)
  have e7 : ∀ (U : ms) (s : Rd) (g : Int), CB S U o en t s g → U.1 9 7 = hi := fun U s g hU => by
    rw [hU.2.2.2 9 7 (by omega) (by omega) (by omega)]
    exact hhi.1
  have whi : w32 hi = hi := w32_of (by omega)
  -- a rule is told: 0 comes back
  have dead : ∀ (U : ms) (s : Rd) (g : Int), s.1 ≠ 0 → rdR en s → CB S U o en t s g → EV q 123 32 [some (.ref 9), some (vI n), some (vL v), none, some (vI i)] [] U (some (vL 0)) U := fun U s g c hrs hU => vc_Source_takeBits_32 _ _ _ (by
    rw [hU.2.1.2.1, w32_of (by have := hrs.1; omega)]
    exact cNo c ⟨rfl, rfl⟩)
  -- held and hold may be written when a rule is told
  have wr2 : ∀ (U : ms) (s : Rd) (x g g' : Int), s.1 ≠ 0 → CB S U o en t s g → CB S (wI (wI U 9 9 x) 9 8 8) o en t s g' := by
    intro U s x g g' c hU
    obtain ⟨h1, ⟨a1, a2, a3, a4, a5⟩, ⟨a6, a7⟩, h4⟩ := hU
    have q2 : ∀ (a : Nat) (k : Int), (wI (wI U 9 9 x) 9 8 8).1 a k = if a = 9 ∧ k = 8 then 8 else if a = 9 ∧ k = 9 then x else U.1 a k := fun _ _ => rfl
    refine ⟨h1, ⟨fun y => absurd y c, ?_, ?_, fun y => absurd y c, fun y => absurd y c⟩, ⟨?_, fun k k0 k1 => ?_⟩, fun a k n1 n2 n3 => ?_⟩
    · rw [q2, if_neg (by decide), if_neg (by decide), a2]
    · rw [q2, if_neg (by decide), if_neg (by decide), a3]
    · rw [q2, if_neg (by omega), if_neg (by omega), a6]
    · rw [q2, if_neg (by omega), if_neg (by omega), a7 k k0 k1]
    · rw [q2, if_neg (by omega), if_neg (by omega), h4 a k n1 n2 n3]
  -- the bit itself, when the octet x is held and g bits of it are used
  have bit : ∀ (U : ms) (x g : Int), U.1 9 5 = 0 → U.1 9 7 = hi → U.1 9 9 = x → U.1 9 8 = 8 - g → (0 ≤ g ∧ g < 8) → (0 ≤ x ∧ x < 256) → ∀ (r : Option Value) (S' : ms), EV q 123 5 [some (.ref 9), some (vI n), some (vL (nvV hi v (btV hi x g) i)), none, some (vI ((i : Int) + 1))] [] (wI U 9 8 (7 - g)) r S' → EV q 123 32 [some (.ref 9), some (vI n), some (vL v), none, some (vI i)] [] U r S' := by
    intro U x g e5 e7' e9 e8 hg hx r S' k
    have wx : w32 x = x := w32_of (by omega)
    have br := btV_rg hi x g
    have wb : w32 (btV hi x g) = btV hi x g := w32_of (by omega)
    have k91 : EV q 123 91 [some (.ref 9), some (vI n), some (vL (nvV hi v (btV hi x g) i)), none, some (vI i)] [] U r S' := vc_Source_takeBits_91 _ _ _ (fun S1 f1 => by
      rw [e8, show 8 - g - 1 = 7 - g by omega] at f1
      subst f1
      exact k)
    refine vc_Source_takeBits_32 _ _ _ ?_
    rw [e5, e7', e9, e8, wx, whi]
    refine cY (by decide) ?_
    unfold nvV at k91
    rcases hhi.2 with y | y
    · subst y
      rw [if_pos rfl] at k91
      refine cY rfl ?_
      have eb : x / (2 : Int) ^ ((8 - (8 - g)) % 32).toNat % 2 = btV 0 x g := by
        unfold btV
        rw [if_pos rfl, show (8 - (8 - g)) % 32 = g by omega]
      rw [eb, wb]
      exact k91
    · subst y
      rw [if_neg (by decide)] at k91
      refine cNo (by decide) ?_
      have eb : x / (2 : Int) ^ ((8 - g - 1) % 32).toNat % 2 = btV 1 x g := by
        unfold btV
        rw [if_neg (by decide), show (8 - g - 1) % 32 = 7 - g by omega]
      rw [eb, wb]
      exact k91
  unfold rdBit
  by_cases c : st.1 ≠ 0
  · rw [if_pos c]
    refine ⟨fun _ => ?_, fun y => absurd y c⟩
    by_cases d : w32 (A.1 9 8) = 0
    · obtain ⟨A1, k1, k2⟩ : ∃ A1, EV q 118 0 [some (.ref 9)] [] A (some (vI 0)) A1 ∧ A1 = A := ⟨A, vc_Source_take (by rw [hA.2.1.2.1, wr]; exact cNo c ⟨rfl, rfl⟩), rfl⟩
      subst k2
      refine ⟨_, vc_Source_takeBits_5 _ _ _ ?_, wr2 A1 st 0 h h c hA⟩
      rw [wn (), wi ()]
      refine cNo z0 (cNN d ⟨0, A1, k1, fun S4 f4 S5 f5 => ?_⟩)
      subst f4 f5
      exact dead _ st h c hr (wr2 A1 st 0 h h c hA)
    · refine ⟨A, vc_Source_takeBits_5 _ _ _ ?_, hA⟩
      rw [wn (), wi ()]
      exact cNo z0 (cY d (dead A st h c hr hA))
  · have c0 : st.1 = 0 := by omega
    rw [if_neg c]
    obtain ⟨a51, a52, a53⟩ := hA.2.1.2.2.2.2 c0
    by_cases d : h = 0
    · rw [if_pos d]
      have hA0 : CR S A o en st := by
        refine ⟨hA.1, ⟨hA.2.1.1, hA.2.1.2.1, hA.2.1.2.2.1, hA.2.1.2.2.2.1, fun y => ⟨a51, by rw [a52, d], fun z => absurd z (by decide)⟩⟩, hA.2.2⟩
      obtain ⟨A1, k1, k2⟩ := sp_take (q := q) hC hr hA0
      have w8 : w32 ((8 - h) % 8) = 0 := by rw [d]; decide
      by_cases e : st.2.2.1 < en
      · rw [if_pos e]
        have et : rdTake t en st = (t st.2.2.1, st.1, st.2.1, st.2.2.1 + 1, st.2.2.2) := by
          unfold rdTake
          rw [if_neg c, if_pos e]
        have d1 : (rdTake t en st).2.1 = 0 := by rw [et]; exact c0
        refine ⟨fun y => absurd d1 y, fun _ => ?_⟩
        have tk := ht st.2.2.1 r2.1 e
        have k3 : CB S (wI (wI (wI A1 9 9 (t st.2.2.1)) 9 8 8) 9 8 7) o en t (rdTake t en st).2 1 := by
          obtain ⟨h1, ⟨b1, b2, b3, b4, b5⟩, ⟨b6, b7⟩, h4⟩ := k2
          have q2 : ∀ (a : Nat) (k : Int), (wI (wI (wI A1 9 9 (t st.2.2.1)) 9 8 8) 9 8 7).1 a k = if a = 9 ∧ k = 8 then 7 else if a = 9 ∧ k = 8 then 8 else if a = 9 ∧ k = 9 then t st.2.2.1 else A1.1 a k := fun _ _ => rfl
          refine ⟨h1, ⟨fun y => ?_, ?_, ?_, fun y => ?_, fun y => ⟨?_, ?_, fun _ => ?_⟩⟩, ⟨?_, fun k k0 k1 => ?_⟩, fun a k n1 n2 n3 => ?_⟩
          · rw [q2, if_neg (by decide), if_neg (by decide), if_neg (by decide), b1 y]
          · rw [q2, if_neg (by decide), if_neg (by decide), if_neg (by decide), b2]
          · rw [q2, if_neg (by decide), if_neg (by decide), if_neg (by decide), b3]
          · rw [q2, if_neg (by decide), if_neg (by decide), if_neg (by decide), b4 y]
          · rw [q2, if_neg (by decide), if_neg (by decide), if_neg (by decide), (b5 y).1]
          · rw [q2, if_pos ⟨rfl, rfl⟩]
            rfl
          · rw [q2, if_neg (by decide), if_neg (by decide), if_pos ⟨rfl, rfl⟩, et]
            show t st.2.2.1 = t (st.2.2.1 + 1 - 1)
            rw [show st.2.2.1 + 1 - 1 = st.2.2.1 by omega]
          · rw [q2, if_neg (by omega), if_neg (by omega), if_neg (by omega), b6]
          · rw [q2, if_neg (by omega), if_neg (by omega), if_neg (by omega), b7 k k0 k1]
          · rw [q2, if_neg (by omega), if_neg (by omega), if_neg (by omega), h4 a k n1 n2 n3]
        refine ⟨_, k3, fun r S' k => vc_Source_takeBits_5 _ _ _ ?_⟩
        rw [wn (), wi (), a52, w8]
        refine cNo z0 (cNN rfl ⟨_, A1, k1, fun S4 f4 S5 f5 => ?_⟩)
        rw [et] at f4
        subst f4 f5
        have a25 : A1.1 9 5 = 0 := by rw [k2.2.1.2.1]; exact d1
        have a27 : A1.1 9 7 = hi := by
          rw [k2.2.2.2 9 7 (by omega) (by omega) (by omega)]
          exact hhi.1
        refine bit _ (t st.2.2.1) 0 (by rw [rI_I, if_neg (by decide), rI_I, if_neg (by decide), a25]) (by rw [rI_I, if_neg (by decide), rI_I, if_neg (by decide), a27]) (by rw [rI_I, if_neg (by decide), rI_I, if_pos ⟨rfl, rfl⟩]) (by rw [rI_I, if_pos ⟨rfl, rfl⟩]; rfl) (by decide) tk r S' k
      · rw [if_neg e]
        have et : rdTake t en st = (0, 1, en, st.2.2) := by
          unfold rdTake
          rw [if_neg c, if_neg e]
        have d1 : (rdTake t en st).2.1 ≠ 0 := by
          rw [et]
          show (1 : Int) ≠ 0
          decide
        refine ⟨fun _ => ?_, fun y => absurd y d1⟩
        have k3 : CB S A1 o en t (rdTake t en st).2 0 := ⟨k2.1, ⟨k2.2.1.1, k2.2.1.2.1, k2.2.1.2.2.1, k2.2.1.2.2.2.1, fun y => absurd y d1⟩, k2.2.2⟩
        have k4 := wr2 A1 (rdTake t en st).2 (rdTake t en st).1 0 0 d1 k3
        refine ⟨_, vc_Source_takeBits_5 _ _ _ ?_, k4⟩
        rw [wn (), wi (), a52, w8]
        refine cNo z0 (cNN rfl ⟨_, A1, k1, fun S4 f4 S5 f5 => ?_⟩)
        subst f4 f5
        exact dead _ _ 0 d1 (rdR_take hr) k4
    · rw [if_neg d]
      refine ⟨fun y => absurd c0 y, fun _ => ?_⟩
      have n0 := u2 (by omega)
      have tk := ht (st.2.2.1 - 1) (by omega) (by omega)
      have e8 : A.1 9 8 = 8 - h := by rw [a52]; omega
      have k3 : CB S (wI A 9 8 (7 - h)) o en t st ((h + 1) % 8) := by
        obtain ⟨h1, ⟨b1, b2, b3, b4, b5⟩, ⟨b6, b7⟩, h4⟩ := hA
        have q2 : ∀ (a : Nat) (k : Int), (wI A 9 8 (7 - h)).1 a k = if a = 9 ∧ k = 8 then 7 - h else A.1 a k := fun _ _ => rfl
        refine ⟨h1, ⟨fun y => ?_, ?_, ?_, fun y => ?_, fun y => ⟨?_, ?_, fun _ => ?_⟩⟩, ⟨?_, fun k k0 k1 => ?_⟩, fun a k n1 n2 n3 => ?_⟩
        · rw [q2, if_neg (by decide), b1 y]
        · rw [q2, if_neg (by decide), b2]
        · rw [q2, if_neg (by decide), b3]
        · rw [q2, if_neg (by decide), b4 y]
        · rw [q2, if_neg (by decide), (b5 y).1]
        · rw [q2, if_pos ⟨rfl, rfl⟩]
          omega
        · rw [q2, if_neg (by decide), a53 (by omega)]
        · rw [q2, if_neg (by omega), b6]
        · rw [q2, if_neg (by omega), b7 k k0 k1]
        · rw [q2, if_neg (by omega), h4 a k n1 n2 n3]
      refine ⟨_, k3, fun r S' k => vc_Source_takeBits_5 _ _ _ ?_⟩
      have w8 : w32 (8 - h) = 8 - h := w32_of (by omega)
      rw [wn (), wi (), e8, w8]
      refine cNo z0 (cY (by omega) ?_)
      exact bit A (t (st.2.2.1 - 1)) h (by rw [hA.2.1.2.1]; exact c0) (e7 A st h hA) (a53 (by omega)) e8 u1 tk r S' k
/-- takeBits(n), nextBits(n); where a rule is told, the two numbers may differ -/
theorem jbitsR {t : Int → Int} {hi : Int} (he : en ≤ 6000) (ht : ∀ k : Int, 0 ≤ k → k < en → 0 ≤ t k ∧ t k < 256) (hhi : hi = 0 ∨ hi = 1) {n : Nat} (hn : n ≤ 62) : ∀ (m i : Nat) (v : Int) (st : Rd) (h : Int), i + m = n → (0 ≤ v ∧ v < (2 : Int) ^ i) → rdR en st → hR st h → ∃ (z z' : Int) (st' : Rd) (h' : Int), (rdR en st' ∧ Fw st st' ∧ hR st' h' ∧ st'.2.2.2 = st.2.2.2) ∧ ((0 ≤ z ∧ z < (2 : Int) ^ n) ∧ (0 ≤ z' ∧ z' < (2 : Int) ^ n)) ∧ (st'.1 = 0 → z = z' ∧ (0 ≤ z ∧ z < (2 : Int) ^ n) ∧ rdP st' h' = rdP st h + m) ∧ (∀ (S A : ms) (o : Nat), S.1 9 7 = hi → RdC S o en t → CB S A o en t st h → ∃ A', EV q 123 5 [some (.ref 9), some (vI n), some (vL v), none, some (vI i)] [] A (some (vL z)) A' ∧ CB S A' o en t st' h') ∧ ∀ S B : ms, S.1 367 18 = hi → RdM S en t → MB S B en st h → ∃ B', EV q 339 5 [some (.ref 367), some (vI n), some (vL v), none, some (vI i), none, none] [] B (some (vL z')) B' ∧ MB S B' en st' h' := by
  intro m
  induction m with
  | zero =>
    intro i v st h hi' hv hr hh
    have e : i = n := by omega
    subst e
    exact ⟨v, v, st, h, ⟨hr, Fw_r st, hh, rfl⟩, ⟨hv, hv⟩, fun _ => ⟨rfl, hv, by omega⟩, fun S A o _ _ hA => ⟨A, vc_Source_takeBits_5 _ _ _ (cY (Int.le_refl _) ⟨rfl, rfl⟩), hA⟩, fun S B _ _ hB => ⟨B, vc_MD_nextBits_5 _ _ _ (cY (Int.le_refl _) ⟨rfl, rfl⟩), hB⟩⟩
  | succ m ih =>
    intro i v st h hi' hv hr hh
    obtain ⟨g1, g2, g3, g4, g5, g6⟩ := rdBit_s (t := t) (hi := hi) hr hh
    have wn : Unit → w32 (n : Int) = n := fun _ => w32_of (by omega)
    have wi : Unit → w32 (i : Int) = i := fun _ => w32_of (by omega)
    have z0 : ¬ (n : Int) ≤ i := by omega
    have wb : w32 (rdBit t en hi st h).1 = (rdBit t en hi st h).1 := w32_of (by omega)
    have whi : w32 hi = hi := w32_of (by omega)
    obtain ⟨z, z', st', h', ⟨f1, f2, f3, f4⟩, fR, f5, f6, f7⟩ := ih (i + 1) (nvV hi v (rdBit t en hi st h).1 i) (rdBit t en hi st h).2.1 (rdBit t en hi st h).2.2 (by omega) (nvV_rg (by omega) hv g5) g1 g3
    rw [show ((i + 1 : Nat) : Int) = (i : Int) + 1 by omega] at f6 f7
    -- the reference goes on in any case
    have ref : ∀ S B : ms, S.1 367 18 = hi → RdM S en t → MB S B en st h → ∃ B', EV q 339 5 [some (.ref 367), some (vI n), some (vL v), none, some (vI i), none, none] [] B (some (vL z')) B' ∧ MB S B' en st' h' := by
      intro S B hS hC hB
      obtain ⟨B1, k1, k2⟩ := mb_bit (q := q) (hi := hi) ⟨hS, hhi⟩ he hC hr hh hB
      obtain ⟨B', k3, k4⟩ := f7 S B1 hS hC k2
      refine ⟨B', vc_MD_nextBits_5 _ _ _ ?_, k4⟩
      rw [wn (), wi ()]
      refine cNo z0 ⟨_, B1, k1, ?_⟩
      have e18 : B1.1 367 18 = hi := by rw [k2.2.2.2 367 18 (by omega) (by decide)]; exact hS
      rw [e18, whi, wb]
      unfold nvV at k3
      rcases hhi with y | y
      · subst y
        rw [if_pos rfl] at k3
        exact cY rfl (vc_MD_nextBits_41 _ _ _ _ _ k3)
      · subst y
        rw [if_neg (by decide)] at k3
        exact cNo (by decide) (vc_MD_nextBits_41 _ _ _ _ _ k3)
    by_cases c : (rdBit t en hi st h).2.1.1 = 0
    · refine ⟨z, z', st', h', ⟨f1, Fw_t g2 f2, f3, by rw [f4, g4]⟩, fR, fun y => ?_, fun S A o hS hC hA => ?_, ref⟩
      · obtain ⟨y1, y2, y3⟩ := f5 y
        have := g6 c
        exact ⟨y1, y2, by omega⟩
      · obtain ⟨A1, k1, k2⟩ := (sb_bit (q := q) (v := v) (n := n) (i := i) ⟨hS, hhi⟩ hC ht hr hh (by omega) hA).2 c
        obtain ⟨A', k3, k4⟩ := f6 S A1 o hS hC k1
        exact ⟨A', k2 _ _ k3, k4⟩
    · have es : st' = (rdBit t en hi st h).2.1 := f2.1 c
      refine ⟨0, z', st', h', ⟨f1, Fw_t g2 f2, f3, by rw [f4, g4]⟩, ⟨by omega, fR.2⟩, fun y => absurd (by rw [← es]; exact y) c, fun S A o hS hC hA => ?_, ref⟩
      obtain ⟨A', k1, k2⟩ := (sb_bit (q := q) (v := v) (n := n) (i := i) ⟨hS, hhi⟩ hC ht hr hh (by omega) hA).1 c
      refine ⟨A', k1, ?_⟩
      rw [← es] at k2
      obtain ⟨h1, ⟨b1, b2, b3, b4, b5⟩, h3⟩ := k2
      exact ⟨h1, ⟨b1, b2, b3, b4, fun y => absurd (by rw [← es]; exact y) c⟩, h3⟩
theorem jbits {t : Int → Int} {hi : Int} (he : en ≤ 6000) (ht : ∀ k : Int, 0 ≤ k → k < en → 0 ≤ t k ∧ t k < 256) (hhi : hi = 0 ∨ hi = 1) {n : Nat} (hn : n ≤ 62) : ∀ (m i : Nat) (v : Int) (st : Rd) (h : Int), i + m = n → (0 ≤ v ∧ v < (2 : Int) ^ i) → rdR en st → hR st h → ∃ (z z' : Int) (st' : Rd) (h' : Int), (rdR en st' ∧ Fw st st' ∧ hR st' h' ∧ st'.2.2.2 = st.2.2.2) ∧ (st'.1 = 0 → z = z' ∧ (0 ≤ z ∧ z < (2 : Int) ^ n) ∧ rdP st' h' = rdP st h + m) ∧ (∀ (S A : ms) (o : Nat), S.1 9 7 = hi → RdC S o en t → CB S A o en t st h → ∃ A', EV q 123 5 [some (.ref 9), some (vI n), some (vL v), none, some (vI i)] [] A (some (vL z)) A' ∧ CB S A' o en t st' h') ∧ ∀ S B : ms, S.1 367 18 = hi → RdM S en t → MB S B en st h → ∃ B', EV q 339 5 [some (.ref 367), some (vI n), some (vL v), none, some (vI i), none, none] [] B (some (vL z')) B' ∧ MB S B' en st' h' := by
  intro m i v st h a1 a2 a3 a4
  obtain ⟨z, z', st', h', g1, _, g2, g3, g4⟩ := jbitsR (q := q) he ht hhi hn m i v st h a1 a2 a3 a4
  exact ⟨z, z', st', h', g1, g2, g3, g4⟩
theorem jbitsR0 {t : Int → Int} {hi : Int} (he : en ≤ 6000) (ht : ∀ k : Int, 0 ≤ k → k < en → 0 ≤ t k ∧ t k < 256) (hhi : hi = 0 ∨ hi = 1) {n : Nat} (hn : n ≤ 62) {st : Rd} {h : Int} (hr : rdR en st) (hh : hR st h) : ∃ (z z' : Int) (st' : Rd) (h' : Int), (rdR en st' ∧ Fw st st' ∧ hR st' h' ∧ st'.2.2.2 = st.2.2.2) ∧ ((0 ≤ z ∧ z < (2 : Int) ^ n) ∧ (0 ≤ z' ∧ z' < (2 : Int) ^ n)) ∧ (st'.1 = 0 → z = z' ∧ (0 ≤ z ∧ z < (2 : Int) ^ n) ∧ rdP st' h' = rdP st h + n) ∧ (∀ (S A : ms) (o : Nat), S.1 9 7 = hi → RdC S o en t → CB S A o en t st h → ∃ A', EV q 123 0 [some (.ref 9), some (vI n), none, none, none] [] A (some (vL z)) A' ∧ CB S A' o en t st' h') ∧ ∀ S B : ms, S.1 367 18 = hi → RdM S en t → MB S B en st h → ∃ B', EV q 339 0 [some (.ref 367), some (vI n), none, none, none, none, none] [] B (some (vL z')) B' ∧ MB S B' en st' h' := by
  obtain ⟨z, z', st', h', g1, gR, g2, g3, g4⟩ := jbitsR (q := q) he ht hhi hn n 0 0 st h (by omega) (by show (0 : Int) ≤ 0 ∧ (0 : Int) < 1; decide) hr hh
  refine ⟨z, z', st', h', g1, gR, g2, fun S A o hS hC hA => ?_, fun S B hS hC hB => ?_⟩
  · obtain ⟨A', k1, k2⟩ := g3 S A o hS hC hA
    exact ⟨A', vc_Source_takeBits _ k1, k2⟩
  · obtain ⟨B', k1, k2⟩ := g4 S B hS hC hB
    exact ⟨B', vc_MD_nextBits _ k1, k2⟩
theorem jbits0 {t : Int → Int} {hi : Int} (he : en ≤ 6000) (ht : ∀ k : Int, 0 ≤ k → k < en → 0 ≤ t k ∧ t k < 256) (hhi : hi = 0 ∨ hi = 1) {n : Nat} (hn : n ≤ 62) {st : Rd} {h : Int} (hr : rdR en st) (hh : hR st h) : ∃ (z z' : Int) (st' : Rd) (h' : Int), (rdR en st' ∧ Fw st st' ∧ hR st' h' ∧ st'.2.2.2 = st.2.2.2) ∧ (st'.1 = 0 → z = z' ∧ (0 ≤ z ∧ z < (2 : Int) ^ n) ∧ rdP st' h' = rdP st h + n) ∧ (∀ (S A : ms) (o : Nat), S.1 9 7 = hi → RdC S o en t → CB S A o en t st h → ∃ A', EV q 123 0 [some (.ref 9), some (vI n), none, none, none] [] A (some (vL z)) A' ∧ CB S A' o en t st' h') ∧ ∀ S B : ms, S.1 367 18 = hi → RdM S en t → MB S B en st h → ∃ B', EV q 339 0 [some (.ref 367), some (vI n), none, none, none, none, none] [] B (some (vL z')) B' ∧ MB S B' en st' h' := by
  obtain ⟨z, z', st', h', g1, _, g2, g3, g4⟩ := jbitsR0 (q := q) (hi := hi) he ht hhi (n := n) hn hr hh
  exact ⟨z, z', st', h', g1, g2, g3, g4⟩
end Bits
