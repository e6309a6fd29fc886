/-! THE WRITER, bits: both sides -/
section WBit2
variable {q : Nat × (Nat → Int32)}
def XRb (o : Nat) (a : Nat) (k : Int) : Prop := (a = o ∧ 1 ≤ k ∧ k ≤ 3) ∨ a = o + 1
def XWb (a : Nat) (k : Int) : Prop := (a = 367 ∧ (k = 9 ∨ k = 10 ∨ k = 12)) ∨ a = 374
def CBt (A : ms) (o N : Nat) (s : Wb) : Prop := CWt A o N s.1 ∧ A.1 o 3 = if s.2 = 0 then 0 else 8 - (s.2 : Int)
def MBt (B : ms) (hi : Int) (s : Wb) : Prop := MWt B s.1 ∧ B.1 367 10 = s.2 ∧ B.1 367 11 = hi
theorem CBt_cg {A A' : ms} {o N : Nat} {s : Wb} (h : CBt A o N s) (e : ∀ (a : Nat) (k : Int), XRb o a k → A'.1 a k = A.1 a k) : CBt A' o N s := ⟨CWt_cg h.1 (fun a k y => e a k (by unfold XRo at y; unfold XRb; omega)), by rw [e o 3 (Or.inl ⟨rfl, by decide⟩)]; exact h.2⟩
theorem MBt_cg {B B' : ms} {hi : Int} {s : Wb} (h : MBt B hi s) (e : ∀ (a : Nat) (k : Int), XWb a k ∨ (a = 367 ∧ k = 11) → B'.1 a k = B.1 a k) : MBt B' hi s := ⟨MWt_cg h.1 (fun a k y => e a k (by unfold XW at y; unfold XWb; omega)), by rw [e 367 10 (by unfold XWb; omega)]; exact h.2.1, by rw [e 367 11 (by omega)]; exact h.2.2⟩
theorem bit_or : ∀ (L : Fin 256) (p : Fin 8), L.1 / 2 ^ p.1 % 2 = 0 → b8 (b8 (bO (b8 (L.1 : Int)) (b8 (1 * (2 : Int) ^ p.1)))) = b8 ((L.1 : Int) + 1 * (2 : Int) ^ p.1) := by decide +kernel
theorem bit_o0 : ∀ L : Fin 256, b8 (b8 (bO (b8 (L.1 : Int)) (b8 0))) = b8 (L.1 : Int) := by decide +kernel
/-- bit(b) -/
theorem mw_bit {B : ms} {hi b : Int} {s : Wb} (hb : b = 0 ∨ b = 1) (hhi : hi = 0 ∨ hi = 1) (hr : wbR hi s) (hw : s.1.1 < 900000000) (h : MBt B hi s) : ∃ B', EV q 285 0 [some (.ref 367), some (vI b)] [] B none B' ∧ EX XWb B B' ∧ MBt B' hi (if hi = 0 then wbPc 1 b s else wbPh 1 b s) ∧ B'.1 367 12 = B.1 367 12 + 1 := by
  obtain ⟨h1, h2, h3⟩ := h
  have hs8 := hr.2.1
  have w10 : Unit → w32 ((s.2 : Nat) : Int) = s.2 := fun _ => w32_of (by omega)
  obtain ⟨a1, a2, a3, a4⟩ := wbO_r hr
  -- the octet is open
  obtain ⟨B1, k1, k2, k3, k4⟩ : ∃ B1, (∀ T, EV q 285 12 [some (.ref 367), some (vI b)] [] B1 none T → EV q 285 0 [some (.ref 367), some (vI b)] [] B none T) ∧ EX XWb B B1 ∧ MWt B1 (wbO s) ∧ (B1.1 367 10 = s.2 ∧ B1.1 367 11 = hi ∧ B1.1 367 12 = B.1 367 12) := by
    unfold wbO
    by_cases c : s.2 = 0
    · rw [if_pos c]
      obtain ⟨B1, k1, k2, k3⟩ := mw_put (q := q) 0 ⟨hr.1.1, by omega⟩ h1
      have k2' : EX XWb B B1 := EX.mono k2 (fun a k y => by unfold XW at y; unfold XWb; omega)
      refine ⟨B1, fun T k => vc_MD_bit _ ?_, k2', k3, by rw [k2.2 _ _ (by unfold XW; omega)]; exact h2, by rw [k2.2 _ _ (by unfold XW; omega)]; exact h3, by rw [k2.2 _ _ (by unfold XW; omega)]⟩
      rw [h2, w10 ()]
      exact cNN (by omega) ⟨B1, k1, k⟩
    · rw [if_neg c]
      refine ⟨B, fun T k => vc_MD_bit _ ?_, EX.refl _ B, h1, h2, h3, rfl⟩
      rw [h2, w10 ()]
      exact cY (by omega) k
  obtain ⟨k5, k6, k7⟩ := k4
  have wo1 : (wbO s).1 ≤ s.1.1 + 1 := by rw [wbO_1]; split <;> omega
  have ww : w32 (wbO s).1 = (wbO s).1 := w32_of (by omega)
  have ww1 : w32 ((wbO s).1 - 1) = (wbO s).1 - 1 := w32_of (by omega)
  obtain ⟨p, ep⟩ : ∃ p : Nat, p = if hi = 0 then s.2 else 7 - s.2 := ⟨_, rfl⟩
  have hp : p < 8 := by rw [ep]; split <;> omega
  have est : (if hi = 0 then wbPc 1 b s else wbPh 1 b s) = (wtAdd (b * (2 : Int) ^ p) (wbO s), (s.2 + 1) % 8) := by
    rcases hhi with e | e
    · rw [if_pos e, ep, if_pos e]; rfl
    · rw [if_neg (by omega), ep, if_neg (by omega), show 7 - s.2 = 8 - s.2 - 1 by omega]; rfl
  rw [est]
  obtain ⟨L, eL⟩ : ∃ L, L = (wbO s).2 ((wbO s).1 - 1) := ⟨_, rfl⟩
  rw [← eL] at a3 a4
  have L0 : 0 ≤ L ∧ L < 256 := by rw [eL]; exact a2 _
  -- how it ends
  have fin : ∀ C : ms, C.1 367 10 = s.2 → C.1 367 12 = B.1 367 12 → EV q 285 61 [some (.ref 367), some (vI b)] [] C none (wI (wI C 367 10 (((s.2 + 1) % 8 : Nat) : Int)) 367 12 (B.1 367 12 + 1)) := by
    intro C e10 e12
    have w11 : Unit → w32 ((s.2 : Int) + 1) = (s.2 : Int) + 1 := fun _ => w32_of (by omega)
    refine vc_MD_bit_61 _ (fun S1 f1 S2 f2 => ⟨rfl, ?_⟩)
    have e12' : S1.1 367 12 = B.1 367 12 := by rw [f1, wI_no _ (by omega), e12]
    rw [e12'] at f2
    rw [e10, w11 (), show w32 8 = 8 by decide, Int.tmod_eq_emod_of_nonneg (by omega), show ((s.2 : Int) + 1) % 8 = (((s.2 + 1) % 8 : Nat) : Int) by omega] at f1
    rw [f2, f1]
  by_cases c : 30000 < (wbO s).1
  · refine ⟨_, k1 _ (vc_MD_bit_12 _ (by rw [k3.1, ww]; exact cY c (fin B1 k5 k7))), ?_, ⟨⟨?_, fun k k0 k1' k2' => ?_⟩, ?_, ?_⟩, ?_⟩
    · exact (k2.wr (by unfold XWb; omega)).wr (by unfold XWb; omega)
    · rw [wI_no _ (by omega), wI_no _ (by omega)]; exact k3.1
    · rw [wI_no _ (by omega), wI_no _ (by omega), k3.2 k k0 k1' k2', wtAdd_2, if_neg (by omega)]
    · rw [wI_no _ (by omega), wI_at]
    · rw [wI_no _ (by omega), wI_no _ (by omega)]; exact k6
    · rw [wI_at]
  · have kL : B1.1 374 ((wbO s).1 - 1) = b8 L := by rw [k3.2 _ (by omega) (by omega) (by omega), eL]
    have or : b8 (b8 (bO (b8 L) (b8 (b * (2 : Int) ^ p)))) = b8 (L + b * (2 : Int) ^ p) := by
      obtain ⟨l, el⟩ : ∃ l : Nat, L = l := ⟨L.toNat, by omega⟩
      rcases hb with e | e
      · subst e
        rw [Int.zero_mul, Int.add_zero, el]
        exact bit_o0 ⟨l, by omega⟩
      · subst e
        rw [el]
        refine bit_or ⟨l, by omega⟩ ⟨p, hp⟩ ?_
        show l / 2 ^ p % 2 = 0
        have h8 : s.2 = 0 ∨ s.2 = 1 ∨ s.2 = 2 ∨ s.2 = 3 ∨ s.2 = 4 ∨ s.2 = 5 ∨ s.2 = 6 ∨ s.2 = 7 := by omega
        rcases hhi with e | e
        · have a3' := a3 e
          rw [if_pos e] at ep
          subst ep
          rcases h8 with e8 | e8 | e8 | e8 | e8 | e8 | e8 | e8 <;> rw [e8] at a3' ⊢ <;> omega
        · have a4' := a4 e
          rw [if_neg (by omega)] at ep
          subst ep
          rcases h8 with e8 | e8 | e8 | e8 | e8 | e8 | e8 | e8 <;> rw [e8] at a4' ⊢ <;> omega
    obtain ⟨B2, eB2⟩ : ∃ B2, B2 = wI B1 374 ((wbO s).1 - 1) (b8 (L + b * (2 : Int) ^ p)) := ⟨_, rfl⟩
    have x2 : EX XWb B B2 := by rw [eB2]; exact k2.wr (Or.inr rfl)
    have k56 : ∀ y0 : Int, y0 = p → EV q 285 56 [some (.ref 367), some (vI b)] [vI y0, vI b, vI (B1.1 374 ((wbO s).1 - 1)), vI ((wbO s).1 - 1), .ref 374] B1 none (wI (wI B2 367 10 (((s.2 + 1) % 8 : Nat) : Int)) 367 12 (B.1 367 12 + 1)) := by
      intro y0 ey
      refine vc_MD_bit_56 _ _ _ _ _ ?_
      rw [ww1]
      refine ⟨by omega, fun S2 f2 => ?_⟩
      rw [kL, ey, show ((p : Int) % 32).toNat = p by omega, or] at f2
      rw [f2, ← eB2]
      exact fin B2 (by rw [eB2, wI_no _ (by omega)]; exact k5) (by rw [eB2, wI_no _ (by omega)]; exact k7)
    refine ⟨wI (wI B2 367 10 (((s.2 + 1) % 8 : Nat) : Int)) 367 12 (B.1 367 12 + 1), k1 _ (vc_MD_bit_12 _ ?_), (x2.wr (by unfold XWb; omega)).wr (by unfold XWb; omega), ⟨⟨?_, fun k k0 k1' k2' => ?_⟩, ?_, ?_⟩, ?_⟩
    · rw [k3.1, ww, ww1, k6, k5]
      refine cNo c ⟨by omega, ?_⟩
      rcases hhi with e | e
      · rw [if_pos e] at ep
        rw [show w32 hi = 0 by rw [e]; decide]
        exact cY rfl (k56 _ (by omega))
      · rw [if_neg (by omega)] at ep
        rw [show w32 hi = 1 by rw [e]; decide]
        exact cNo (by decide) (k56 _ (by omega))
    · rw [wI_no _ (by omega), wI_no _ (by omega), eB2, wI_no _ (by omega)]; exact k3.1
    · rw [wI_no _ (by omega), wI_no _ (by omega), eB2, wtAdd_2]
      by_cases ck : k = (wbO s).1 - 1
      · rw [if_pos ck, ck, wI_at, eL]
      · rw [if_neg ck, wI_no _ (by omega)]
        exact k3.2 k k0 k1' k2'
    · rw [wI_no _ (by omega), wI_at]
    · rw [wI_no _ (by omega), wI_no _ (by omega), eB2, wI_no _ (by omega)]; exact k6
    · rw [wI_at]
/-- bitsOf(v, n), the lowest first -/
theorem mw_low_bits {B : ms} {v : Int} {n : Nat} {s : Wb} (hv : 0 ≤ v ∧ v < 4611686018427387904) (hn : n ≤ 62) (hr : wbR 0 s) (hw : s.1.1 < 800000000) (h : MBt B 0 s) : ∃ B', EV q 284 0 [some (.ref 367), some (vL v), none, some (vI n), none] [] B none B' ∧ EX XWb B B' ∧ MBt B' 0 (wbLow n v s) ∧ B'.1 367 12 = B.1 367 12 + n := by
  have wn : Unit → w32 ((n : Nat) : Int) = n := fun _ => w32_of (by omega)
  have wv : w64 v = v := w64_of (by omega)
  have lp : ∀ (d i : Nat) (B1 : ms) (s1 : Wb), i + d = n → wbR 0 s1 → s1.1.1 ≤ s.1.1 + i → MBt B1 0 s1 → ∃ B', EV q 284 3 [some (.ref 367), some (vL v), none, some (vI n), some (vI i)] [] B1 none B' ∧ EX XWb B1 B' ∧ MBt B' 0 (wbLow d (v / (2 : Int) ^ i) s1) ∧ B'.1 367 12 = B1.1 367 12 + d := by
    intro d
    induction d with
    | zero =>
      intro i B1 s1 hi hr1 hw1 h1
      have e : i = n := by omega
      subst e
      exact ⟨B1, vc_MD_bitsOf_3 _ _ _ (cY (Int.le_refl _) ⟨rfl, rfl⟩), EX.refl _ B1, h1, by omega⟩
    | succ d ih =>
      intro i B1 s1 hi hr1 hw1 h1
      have wi : Unit → w32 ((i : Nat) : Int) = i := fun _ => w32_of (by omega)
      have ei : ((i + 1 : Nat) : Int) = (i : Int) + 1 := by omega
      have n2 := wbPc_n (v / (2 : Int) ^ i % 2) s1
      obtain ⟨B2, k1, k2, k3, k4⟩ := mw_bit (q := q) (b := v / (2 : Int) ^ i % 2) (hi := 0) (by omega) (Or.inl rfl) hr1 (by omega) h1
      rw [if_pos rfl] at k3
      obtain ⟨B', k5, k6, k7, k8⟩ := ih (i + 1) B2 _ (by omega) (wbPc_r hr1 ⟨by omega, by have := hr1.2.1; omega⟩ (by show 0 ≤ v / (2 : Int) ^ i % 2 ∧ v / (2 : Int) ^ i % 2 < 2; omega)) (by omega) k3
      rw [ei] at k5
      have e2 : v / (2 : Int) ^ (i + 1) = v / (2 : Int) ^ i / 2 := by
        rw [Int.pow_succ, Int.ediv_ediv_of_nonneg (Int.le_of_lt (Int.pow_pos (by decide)))]
      refine ⟨B', vc_MD_bitsOf_3 _ _ _ ?_, k2.trans k6, by rw [wbLow_s, ← e2]; exact k7, by rw [k8, k4]; omega⟩
      rw [wn (), wi (), h1.2.2]
      refine cNo (by omega) (cY (by decide) (vc_MD_bitsOf_29 _ _ _ _ _ ?_))
      rw [wv, show ((i : Int) % 64).toNat = i by omega]
      exact ⟨B2, k1, k5⟩
  obtain ⟨B', k1, k2, k3, k4⟩ := lp n 0 B s (by omega) hr (by omega) h
  rw [show v / (2 : Int) ^ 0 = v by rw [Int.pow_zero, Int.ediv_one]] at k3
  exact ⟨B', vc_MD_bitsOf _ _ k1, k2, k3, k4⟩
/-- bitsOf(v, n), the highest first -/
theorem mw_high_bits {B : ms} {v : Int} {n : Nat} {s : Wb} (hv : 0 ≤ v ∧ v < 4611686018427387904) (hn : n ≤ 62) (hr : wbR 1 s) (hw : s.1.1 < 800000000) (h : MBt B 1 s) : ∃ B', EV q 284 0 [some (.ref 367), some (vL v), none, some (vI n), none] [] B none B' ∧ EX XWb B B' ∧ MBt B' 1 (wbHigh n v s) ∧ B'.1 367 12 = B.1 367 12 + n := by
  have wn : Unit → w32 ((n : Nat) : Int) = n := fun _ => w32_of (by omega)
  have wv : w64 v = v := w64_of (by omega)
  have lp : ∀ (d i : Nat) (B1 : ms) (s1 : Wb), i + d = n → wbR 1 s1 → s1.1.1 ≤ s.1.1 + i → MBt B1 1 s1 → ∃ B', EV q 284 3 [some (.ref 367), some (vL v), none, some (vI n), some (vI i)] [] B1 none B' ∧ EX XWb B1 B' ∧ MBt B' 1 (wbHigh d v s1) ∧ B'.1 367 12 = B1.1 367 12 + d := by
    intro d
    induction d with
    | zero =>
      intro i B1 s1 hi hr1 hw1 h1
      have e : i = n := by omega
      subst e
      exact ⟨B1, vc_MD_bitsOf_3 _ _ _ (cY (Int.le_refl _) ⟨rfl, rfl⟩), EX.refl _ B1, h1, by omega⟩
    | succ d ih =>
      intro i B1 s1 hi hr1 hw1 h1
      have wi : Unit → w32 ((i : Nat) : Int) = i := fun _ => w32_of (by omega)
      have ei : ((i + 1 : Nat) : Int) = (i : Int) + 1 := by omega
      have n2 := wbPh_n (v / (2 : Int) ^ d % 2) s1
      obtain ⟨B2, k1, k2, k3, k4⟩ := mw_bit (q := q) (b := v / (2 : Int) ^ d % 2) (hi := 1) (by omega) (Or.inr rfl) hr1 (by omega) h1
      rw [if_neg (by decide)] at k3
      obtain ⟨B', k5, k6, k7, k8⟩ := ih (i + 1) B2 _ (by omega) (wbPh_r hr1 ⟨by omega, by have := hr1.2.1; omega⟩ (by show 0 ≤ v / (2 : Int) ^ d % 2 ∧ v / (2 : Int) ^ d % 2 < 2; omega)) (by omega) k3
      rw [ei] at k5
      refine ⟨B', vc_MD_bitsOf_3 _ _ _ ?_, k2.trans k6, by rw [wbHigh_s]; exact k7, by rw [k8, k4]; omega⟩
      rw [wn (), wi (), h1.2.2]
      refine cNo (by omega) (cNo (by decide) (vc_MD_bitsOf_29 _ _ _ _ _ ?_))
      rw [wv, show (((n : Int) - 1 - i) % 64).toNat = d by omega]
      exact ⟨B2, k1, k5⟩
  obtain ⟨B', k1, k2, k3, k4⟩ := lp n 0 B s (by omega) hr (by omega) h
  exact ⟨B', vc_MD_bitsOf _ _ k1, k2, k3, k4⟩
/-- fillOctet(), closeOctet() -/
def wbEnd (s : Wb) : Wb := (s.1, 0)
theorem wbEnd_r {hi : Int} {s : Wb} (h : wbR hi s) : wbR hi (wbEnd s) := ⟨h.1, by show (0 : Nat) < 8; decide, fun c => absurd rfl c⟩
theorem mw_fill {B : ms} {hi : Int} {s : Wb} (hr : wbR hi s) (h : MBt B hi s) : ∃ B', EV q 288 0 [some (.ref 367)] [] B none B' ∧ EX XWb B B' ∧ MBt B' hi (wbEnd s) ∧ B'.1 367 12 = B.1 367 12 + if s.2 = 0 then 0 else 8 - (s.2 : Int) := by
  obtain ⟨h1, h2, h3⟩ := h
  have hs8 := hr.2.1
  have w10 : Unit → w32 ((s.2 : Nat) : Int) = s.2 := fun _ => w32_of (by omega)
  obtain ⟨y0, ey⟩ : ∃ y0 : Int, y0 = if s.2 = 0 then 0 else 8 - (s.2 : Int) := ⟨_, rfl⟩
  rw [← ey]
  have k23 : EV q 288 23 [some (.ref 367)] [vI y0, vI (B.1 367 12), .ref 367] B none (wI (wI B 367 12 (B.1 367 12 + y0)) 367 10 0) := vc_MD_fillOctet_23 _ _ (fun S1 f1 S2 f2 => ⟨rfl, by rw [f2, f1]⟩)
  refine ⟨wI (wI B 367 12 (B.1 367 12 + y0)) 367 10 0, vc_MD_fillOctet ?_, ((EX.refl _ B).wr (by unfold XWb; omega)).wr (by unfold XWb; omega), ⟨⟨?_, fun k k0 k1 k2 => ?_⟩, ?_, ?_⟩, ?_⟩
  · rw [h2, w10 ()]
    by_cases c : s.2 = 0
    · rw [if_pos c] at ey
      rw [ey] at k23 ⊢
      exact cNN (by omega) k23
    · rw [if_neg c] at ey
      rw [ey] at k23 ⊢
      exact cY (by omega) k23
  · rw [wI_no _ (by omega), wI_no _ (by omega)]; exact h1.1
  · rw [wI_no _ (by omega), wI_no _ (by omega)]; exact h1.2 k k0 k1 k2
  · rw [wI_at]; rfl
  · rw [wI_no _ (by omega), wI_no _ (by omega)]; exact h3
  · rw [wI_no _ (by omega), wI_at]
end WBit2
