/-! SORTED: the signs, both sides at once -/
section Srt5
variable {q : Nat × (Nat → Int32)} {en : Int}
theorem nat_and2 (x k : Nat) : x &&& 2 ^ k = (x.testBit k).toNat * 2 ^ k := by
  apply Nat.eq_of_testBit_eq
  intro i
  rw [Nat.testBit_and, Nat.testBit_two_pow]
  cases e : x.testBit k with
  | true =>
    show _ = (1 * 2 ^ k).testBit i
    rw [Nat.one_mul, Nat.testBit_two_pow]
    by_cases c : k = i
    · subst c; rw [e]; simp
    · simp [c]
  | false =>
    show _ = (0 * 2 ^ k).testBit i
    rw [Nat.zero_mul, Nat.zero_testBit]
    by_cases c : k = i
    · subst c; rw [e]; simp
    · simp [c]
theorem sg_bit {y : Int} {v : Nat} (hy : 0 ≤ y ∧ y < 65536) (hv : v < 16) : w64 (lA y (w32 (w32 32768 / ((2 : Int) ^ (((v : Nat) : Int) % 32).toNat)))) = w64 0 ↔ y / (2 : Int) ^ (15 - v) % 2 = 0 := by
  obtain ⟨x, hx⟩ : ∃ x : Nat, y = x := ⟨y.toNat, by omega⟩
  subst hx
  have e : w32 (w32 32768 / ((2 : Int) ^ (((v : Nat) : Int) % 32).toNat)) = ((2 ^ (15 - v) : Nat) : Int) := by
    have : ∀ v : Fin 16, w32 (w32 32768 / ((2 : Int) ^ (((v.1 : Nat) : Int) % 32).toNat)) = ((2 ^ (15 - v.1) : Nat) : Int) := by decide
    exact this ⟨v, hv⟩
  have hp : 2 ^ (15 - v) ≤ 2 ^ 15 := Nat.pow_le_pow_right (by decide) (by omega)
  have e1 : ((x : Int) % 18446744073709551616).toNat = x := by omega
  have e2 : (((2 ^ (15 - v) : Nat) : Int) % 18446744073709551616).toNat = 2 ^ (15 - v) := by
    generalize 2 ^ (15 - v) = p at hp ⊢
    omega
  have e3 : x / (2 ^ (15 - v)) % 2 = ((x.testBit (15 - v)).toNat) := by
    rw [Nat.testBit_eq_decide_div_mod_eq]
    by_cases c : x / 2 ^ (15 - v) % 2 = 1
    · rw [decide_eq_true c, c]; rfl
    · rw [decide_eq_false c]
      show _ = 0
      omega
  rw [e]
  unfold lA
  rw [e1, e2, nat_and2, ← e3]
  have e4 : (x : Int) / (2 : Int) ^ (15 - v) % 2 = ((x / 2 ^ (15 - v) % 2 : Nat) : Int) := by
    rw [show ((2 : Int) ^ (15 - v)) = ((2 ^ (15 - v) : Nat) : Int) by rw [Int.natCast_pow]; rfl]
    omega
  rw [e4]
  have hp0 : 0 < 2 ^ (15 - v) := Nat.pow_pos (by decide)
  have h2 : x / 2 ^ (15 - v) % 2 < 2 := Nat.mod_lt _ (by decide)
  generalize x / 2 ^ (15 - v) % 2 = b at h2 ⊢
  generalize 2 ^ (15 - v) = p at hp hp0 ⊢
  have hb : b = 0 ∨ b = 1 := by omega
  have w0 : w64 0 = 0 := by decide
  rcases hb with rfl | rfl
  · rw [Nat.zero_mul]; simp [w0]
  · rw [Nat.one_mul, w64_of (by omega), w0]
    omega
theorem sg_sh {v : Nat} (hv : v < 16) : ((15 - ((v : Nat) : Int)) % 32).toNat = 15 - v := by omega
def SgC (S : ms) (m : Nat) (g : Int → Int) : Prop := S.1 94 9 = m ∧ ∀ k : Nat, k < m → S.1 102 k = g k
def SgM (S : ms) (m : Nat) (g : Int → Int) : Prop := ∀ k : Nat, k < m → S.1 409 k = b8 (g k)
theorem jsgV {t : Int → Int} {y : Int} {s : Nat} (hy : 0 ≤ y ∧ y < 65536) (hs : s < 16) {st : Rd} {h : Int} (hr : rdR en st) : ∀ (d v m : Nat) (g : Int → Int), v + d = 16 → m ≤ 16 * s + v → (∀ k : Nat, k < m → 0 ≤ g k ∧ g k < 256) → ∃ (m' : Nat) (g' : Int → Int), m' ≤ 16 * s + 16 ∧ (∀ k : Nat, k < m' → 0 ≤ g' k ∧ g' k < 256) ∧ (∀ (S A : ms) (o : Nat), (300 < o ∨ o = 7) → SgC S m g → CB S A o en t st h → ∃ S1 A1, EX (fun a k => a = 102 ∨ (a = 94 ∧ k = 9)) S S1 ∧ CB S1 A1 o en t st h ∧ SgC S1 m' g' ∧ ∀ (x2 : Int) (r : Option Value) (T : ms), EV q 163 15 [some (.ref 94), some (.ref 9), some (vL x2), none, some (vI ((s : Int) + 1)), none, none, none] [] A1 r T → EV q 163 57 [some (.ref 94), some (.ref 9), some (vL x2), none, some (vI s), some (vL y), none, some (vI v)] [] A r T) ∧ (st.1 = 0 → ∀ S B : ms, SgM S m g → MB S B en st h → ∃ S1 B1, EX (fun a _ => a = 409) S S1 ∧ MB S1 B1 en st h ∧ SgM S1 m' g' ∧ ∀ (x1 x2 x4 : Int) (r : Option Value) (T : ms), EV q 363 140 [some (.ref 367), some (vI x1), some (vL x2), none, some (vI x4), some (vI m'), some (vI s), none, none, none, none, none] [] B1 r T → EV q 363 87 [some (.ref 367), some (vI x1), some (vL x2), none, some (vI x4), some (vI m), some (vI s), some (vI y), some (vI v), none, none, none] [] B r T) := by
  intro d
  induction d with
  | zero =>
    intro v m g hd hm hg
    have e : v = 16 := by omega
    subst e
    exact ⟨m, g, hm, hg, fun S A o ho hG hA => ⟨S, A, EX.refl _ S, hA, hG, fun x2 r T k => vc_Sorted_openSigns_57 _ _ _ _ (cY (by decide) k)⟩, fun _ S B hG hB => ⟨S, B, EX.refl _ S, hB, hG, fun x1 x2 x4 r T k => vc_MD_sortedBlock_87 _ _ _ _ _ _ _ (cY (by decide) k)⟩⟩
  | succ d ih =>
    intro v m g hd hm hg
    have wv : Unit → w32 ((v : Nat) : Int) = v := fun _ => w32_of (by omega)
    have wm : Unit → w32 ((m : Nat) : Int) = m := fun _ => w32_of (by omega)
    have ev : ((v + 1 : Nat) : Int) = (v : Int) + 1 := by omega
    have em : ((m + 1 : Nat) : Int) = (m : Int) + 1 := by omega
    have wy : w32 y = y := w32_of (by omega)
    have hb := sg_bit hy (show v < 16 by omega)
    have hr2 : 0 ≤ y / (2 : Int) ^ (15 - v) % 2 ∧ y / (2 : Int) ^ (15 - v) % 2 < 2 := ⟨Int.emod_nonneg _ (by decide), Int.emod_lt_of_pos _ (by decide)⟩
    have wb : w32 (y / (2 : Int) ^ (15 - v) % 2) = y / (2 : Int) ^ (15 - v) % 2 := w32_of (by omega)
    by_cases c : y / (2 : Int) ^ (15 - v) % 2 = 0
    · obtain ⟨m', g', j1, j2, j3, j4⟩ := ih (v + 1) m g (by omega) (by omega) hg
      refine ⟨m', g', j1, j2, fun S A o ho hG hA => ?_, fun c0 S B hG hB => ?_⟩
      · obtain ⟨S1, A1, k1, k2, k3, k4⟩ := j3 S A o ho hG hA
        refine ⟨S1, A1, k1, k2, k3, fun x2 r T k => vc_Sorted_openSigns_57 _ _ _ _ ?_⟩
        have k5 := k4 x2 r T k
        rw [ev] at k5
        rw [wv ()]
        exact cNo (by omega) (cY (hb.2 c) (vc_Sorted_openSigns_105 _ _ _ _ k5))
      · obtain ⟨S1, B1, k1, k2, k3, k4⟩ := j4 c0 S B hG hB
        have kf := md_fine (q := q) hr hB
        rw [if_pos c0] at kf
        refine ⟨S1, B1, k1, k2, k3, fun x1 x2 x4 r T k => vc_MD_sortedBlock_87 _ _ _ _ _ _ _ ?_⟩
        have k5 := k4 x1 x2 x4 r T k
        rw [ev] at k5
        rw [wv (), wy, sg_sh (show v < 16 by omega), wb]
        exact cNo (by omega) ⟨1, B, kf, cNo (by decide) (cY (by omega) (vc_MD_sortedBlock_134 _ _ _ _ _ _ _ k5))⟩
    · have c1 : y / (2 : Int) ^ (15 - v) % 2 = 1 := by omega
      obtain ⟨g1, eg⟩ : ∃ g1 : Int → Int, g1 = fun k => if k = (m : Int) then 16 * (s : Int) + v else g k := ⟨_, rfl⟩
      have a1 : g1 m = 16 * (s : Int) + v := by rw [eg]; exact if_pos rfl
      have a2 : ∀ k : Nat, k ≠ m → g1 k = g k := fun k hk => by rw [eg]; exact if_neg (by omega)
      obtain ⟨m', g', j1, j2, j3, j4⟩ := ih (v + 1) (m + 1) g1 (by omega) (by omega) (fun k hk => by
        by_cases e : k = m
        · subst e; rw [a1]; omega
        · rw [a2 k e]; exact hg k (by omega))
      refine ⟨m', g', j1, j2, fun S A o ho hG hA => ?_, fun c0 S B hG hB => ?_⟩
      · have e9 : A.1 94 9 = m := by rw [hA.2.2.2 94 9 (by omega) (by omega) (by omega)]; exact hG.1
        have e10 : (wI A 102 m (16 * (s : Int) + v)).1 94 9 = m := by rw [wI_no _ (by omega)]; exact e9
        have k0 := CB_I (9 : Int) ((m : Int) + 1) (show 94 ≠ 9 by decide) (show 94 ≠ o by omega) (show 94 ≠ o + 1 by omega) ho (CB_I (m : Int) (16 * (s : Int) + v) (show 102 ≠ 9 by decide) (show 102 ≠ o by omega) (show 102 ≠ o + 1 by omega) ho hA)
        have ex : EX (fun a k => a = 102 ∨ (a = 94 ∧ k = 9)) S (wI (wI S 102 m (16 * (s : Int) + v)) 94 9 ((m : Int) + 1)) := EX.wr (EX.wr (EX.refl _ S) (Or.inl rfl)) (Or.inr ⟨rfl, rfl⟩)
        obtain ⟨S1, A1, k1, k2, k3, k4⟩ := j3 _ _ o ho ⟨by rw [wI_at, em], fun k hk => by
          rw [wI_no _ (by omega)]
          by_cases e : k = m
          · subst e; rw [wI_at, a1]
          · rw [wI_no _ (by omega), a2 k e]; exact hG.2 k (by omega)⟩ k0
        refine ⟨S1, A1, EX.trans ex k1, k2, k3, fun x2 r T k => vc_Sorted_openSigns_57 _ _ _ _ ?_⟩
        have k5 := k4 x2 r T k
        rw [ev] at k5
        rw [wv (), e9, wm ()]
        refine cNo (by omega) (cNo (fun z => c (hb.1 z)) ⟨by omega, fun S2 e2 S3 e3 => vc_Sorted_openSigns_105 _ _ _ _ ?_⟩)
        rw [e3, e2, e10]
        exact k5
      · have e8 : b8 (b8 (16 * (s : Int) + v)) = b8 (16 * (s : Int) + v) := b8_of (b8_rg _)
        have kf := md_fine (q := q) hr hB
        rw [if_pos c0] at kf
        have k0 := MB_I (m : Int) (b8 (16 * (s : Int) + v)) (show 409 ≠ 367 by decide) (by decide) hB
        have ex : EX (fun a _ => a = 409) S (wI S 409 m (b8 (16 * (s : Int) + v))) := EX.wr (EX.refl _ S) rfl
        obtain ⟨S1, B1, k1, k2, k3, k4⟩ := j4 c0 _ _ (fun k hk => by
          by_cases e : k = m
          · subst e; rw [wI_at, a1]
          · rw [wI_no _ (by omega), a2 k e]; exact hG k (by omega)) k0
        refine ⟨S1, B1, EX.trans ex k1, k2, k3, fun x1 x2 x4 r T k => vc_MD_sortedBlock_87 _ _ _ _ _ _ _ ?_⟩
        have k5 := k4 x1 x2 x4 r T k
        rw [ev, em] at k5
        rw [wv (), wy, sg_sh (show v < 16 by omega), wb, wm (), e8]
        exact cNo (by omega) ⟨1, B, kf, cNo (by decide) (cNN c1 ⟨by omega, fun S2 e2 => vc_MD_sortedBlock_134 _ _ _ _ _ _ _ (by rw [e2]; exact k5)⟩)⟩
end Srt5
