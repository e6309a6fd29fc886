/-! THE WRITER, bits: the class -/
section WBit3
variable {q : Nat × (Nat → Int32)}
/-- the octet is open: add(0), spare = 8 -/
theorem cw_open {A : ms} {o N : Nat} {s : Wb} {hi : Int} (ho : isRow o N) (hN : N < 1000000) (hr : wbR hi s) (h : CBt A o N s) : ∃ A1, EX (XRb o) A A1 ∧ CWt A1 o N (wbO s) ∧ A1.1 o 3 = 8 - (s.2 : Int) ∧ ((s.2 ≠ 0 ∧ A1 = A) ∨ (s.2 = 0 ∧ ∃ A0, EV q 19 0 [some (.ref o), some (vI 0)] [] A none A0 ∧ A1 = wI A0 o 3 8)) := by
  unfold wbO
  by_cases c : s.2 = 0
  · rw [if_pos c]
    obtain ⟨A0, k1, k2, k3⟩ := cw_put (q := q) 0 ho hN hr.1.1 h.1
    have x2 : EX (XRb o) A A0 := EX.mono k2 (fun a k y => by unfold XRo at y; unfold XRb; omega)
    refine ⟨wI A0 o 3 8, x2.wr (Or.inl ⟨rfl, by decide⟩), CWt_cg k3 (fun a k y => wI_no _ (by unfold XRo at y; omega)), by rw [wI_at]; omega, Or.inr ⟨c, A0, k1, rfl⟩⟩
  · rw [if_neg c]
    refine ⟨A, EX.refl _ A, h.1, ?_, Or.inl ⟨c, rfl⟩⟩
    rw [h.2, if_neg c]
/-- m bits p are written into the open octet -/
theorem cw_piece {A : ms} {o N : Nat} {w : Wt} {z : Int} (ho : isRow o N) (hw : 1 ≤ w.1) (h : CWt A o N w) : ∃ A1, EX (XRb o) A A1 ∧ CWt A1 o N (wtAdd z w) ∧ A1.1 o 3 = A.1 o 3 ∧ (((N : Int) < w.1 ∧ A.1 o 2 = 1 ∧ A1 = A) ∨ (w.1 ≤ N ∧ A.1 o 1 = w.1 ∧ A.1 o 2 = 0 ∧ A.1 (o + 1) (w.1 - 1) = w.2 (w.1 - 1) ∧ A1 = wI A (o + 1) (w.1 - 1) (w.2 (w.1 - 1) + z))) := by
  by_cases c : w.1 ≤ N
  · obtain ⟨e1, e2, e3⟩ := h.1 c
    refine ⟨wI A (o + 1) (w.1 - 1) (w.2 (w.1 - 1) + z), (EX.refl _ A).wr (Or.inr rfl), ⟨fun _ => ⟨?_, ?_, fun k k0 k1 => ?_⟩, fun y => absurd y (by rw [wtAdd_1]; omega)⟩, wI_no _ (by omega), Or.inr ⟨c, e1, e2, e3 _ (by omega) (by omega), rfl⟩⟩
    · rw [wI_no _ (by omega)]; exact e1
    · rw [wI_no _ (by omega)]; exact e2
    · rw [wtAdd_1] at k1
      rw [wtAdd_2]
      by_cases d : k = w.1 - 1
      · rw [if_pos d, d, wI_at]
      · rw [if_neg d, wI_no _ (by omega)]; exact e3 k k0 k1
  · exact ⟨A, EX.refl _ A, ⟨fun y => absurd y c, fun y => h.2 y⟩, rfl, Or.inl ⟨by omega, (h.2 (by omega)).1, rfl⟩⟩
theorem pw_256 {h : Nat} (hh : h ≤ 8) : 0 < (2 : Int) ^ h ∧ (2 : Int) ^ h ≤ 256 := by
  have : h = 0 ∨ h = 1 ∨ h = 2 ∨ h = 3 ∨ h = 4 ∨ h = 5 ∨ h = 6 ∨ h = 7 ∨ h = 8 := by omega
  rcases this with e | e | e | e | e | e | e | e | e <;> subst e <;> decide
theorem pw_mm (v : Int) {m : Nat} (h : m ≤ 8) : v % 4294967296 % (2 : Int) ^ m = v % (2 : Int) ^ m := by
  have : m = 0 ∨ m = 1 ∨ m = 2 ∨ m = 3 ∨ m = 4 ∨ m = 5 ∨ m = 6 ∨ m = 7 ∨ m = 8 := by omega
  rcases this with e | e | e | e | e | e | e | e | e <;> subst e <;> omega
theorem pw_dn {v : Int} {m : Nat} (h : m ≤ 8) (hv : 0 ≤ v) : 0 ≤ v / (2 : Int) ^ m ∧ v / (2 : Int) ^ m ≤ v := by
  have : m = 0 ∨ m = 1 ∨ m = 2 ∨ m = 3 ∨ m = 4 ∨ m = 5 ∨ m = 6 ∨ m = 7 ∨ m = 8 := by omega
  rcases this with e | e | e | e | e | e | e | e | e <;> subst e <;> omega
/-- lowBits(v, n) -/
theorem cw_low_bits {A : ms} {o N : Nat} {v : Int} {n : Nat} {s : Wb} (hv : 0 ≤ v ∧ v < 2147483648) (hn : n ≤ 32) (ho : isRow o N) (hN : N < 1000000) (hr : wbR 0 s) (hw : s.1.1 < 800000000) (h : CBt A o N s) : ∃ A', EV q 49 0 [some (.ref o), some (vI v), some (vI n), none, none, none, none, none] [] A none A' ∧ EX (XRb o) A A' ∧ CBt A' o N (wbLow n v s) := by
  have lp : ∀ (l i : Nat) (u : Int) (A1 : ms) (s1 : Wb), i + l ≤ n → (0 ≤ u ∧ u < 2147483648) → wbR 0 s1 → CBt A1 o N s1 → ∃ A', EV q 49 8 [some (.ref o), some (vI v), some (vI n), some (vI u), some (vI l), some (vI i), none, none] [] A1 none A' ∧ EX (XRb o) A1 A' ∧ CBt A' o N (wbLow l u s1) := by
    intro l
    induction l using Nat.strongRecOn with
    | ind l ih =>
      intro i u A1 s1 hi hu hr1 h1
      have wl : Unit → w32 ((l : Nat) : Int) = l := fun _ => w32_of (by omega)
      have wi : Unit → w32 ((i : Nat) : Int) = i := fun _ => w32_of (by omega)
      by_cases c0 : l = 0
      · subst c0
        refine ⟨A1, vc_Row_lowBits_8 _ _ _ _ _ _ _ ho ?_, EX.refl _ A1, h1⟩
        exact ⟨fun _ => ⟨rfl, rfl⟩, fun _ => cY (by decide) ⟨rfl, rfl⟩⟩
      have hs8 := hr1.2.1
      obtain ⟨m, em⟩ : ∃ m : Nat, m = min (8 - s1.2) l := ⟨_, rfl⟩
      have hm : 1 ≤ m ∧ s1.2 + m ≤ 8 ∧ m ≤ l := by omega
      obtain ⟨r, er⟩ : ∃ r : Nat, l = m + r := ⟨l - m, by omega⟩
      obtain ⟨A2, a1, a2, a3, a4⟩ := cw_open (q := q) ho hN hr1 h1
      obtain ⟨o1, o2, o3, -⟩ := wbO_r hr1
      have o3 := o3 rfl
      obtain ⟨L, eL⟩ : ∃ L, L = (wbO s1).2 ((wbO s1).1 - 1) := ⟨_, rfl⟩
      rw [← eL] at o3
      have L0 : 0 ≤ L := by rw [eL]; exact (o2 _).1
      obtain ⟨p, ep⟩ : ∃ p, p = u % (2 : Int) ^ m := ⟨_, rfl⟩
      have pm := pw_256 (h := m) (by omega)
      have hp : 0 ≤ p ∧ p < (2 : Int) ^ m := by rw [ep]; exact ⟨Int.emod_nonneg _ (by omega), Int.emod_lt_of_pos _ pm.1⟩
      obtain ⟨A3, b1, b2, b3, b4⟩ := cw_piece (z := p * (2 : Int) ^ s1.2) ho o1 a2
      obtain ⟨s2, es2⟩ : ∃ s2, s2 = wbPc m p s1 := ⟨_, rfl⟩
      have hr2 : wbR 0 s2 := by rw [es2]; exact wbPc_r hr1 ⟨hm.1, hm.2.1⟩ hp
      have e22 : s2.2 = (s1.2 + m) % 8 := by rw [es2]; rfl
      have h2 : CBt (wI A3 o 3 (8 - (s1.2 : Int) - m)) o N s2 := by
        refine ⟨?_, ?_⟩
        · rw [es2]
          exact CWt_cg b2 (fun a k y => wI_no _ (by unfold XRo at y; omega))
        · rw [wI_at, e22]
          by_cases d : (s1.2 + m) % 8 = 0
          · rw [if_pos d]; omega
          · rw [if_neg d]; omega
      have ud := pw_dn (v := u) (m := m) (by omega) hu.1
      obtain ⟨A', k1, k2, k3⟩ := ih r (by omega) (i + 1) (u / (2 : Int) ^ m) (wI A3 o 3 (8 - (s1.2 : Int) - m)) s2 (by omega) (by omega) hr2 h2
      have x3 : EX (XRb o) A1 (wI A3 o 3 (8 - (s1.2 : Int) - m)) := (a1.trans b1).wr (Or.inl ⟨rfl, by decide⟩)
      have eW : wbLow l u s1 = wbLow r (u / (2 : Int) ^ m) s2 := by rw [es2, er, low_pc r m u s1 hm.1 hm.2.1, ep]
      refine ⟨A', ?_, x3.trans k2, by rw [eW]; exact k3⟩
      rw [show ((i + 1 : Nat) : Int) = (i : Int) + 1 by omega, show ((r : Nat) : Int) = (l : Int) - m by omega] at k1
      have sp : w32 (8 - (s1.2 : Int)) = 8 - (s1.2 : Int) := w32_of (by omega)
      have mn : min (8 - (s1.2 : Int)) (l : Int) = m := by omega
      have e97 : ∀ x7 : Int, EV q 49 97 [some (.ref o), some (vI v), some (vI n), some (vI u), some (vI l), some (vI i), some (vI m), some (vI x7)] [] A3 none A' := by
        intro x7
        refine vc_Row_lowBits_97 _ _ _ _ _ _ _ _ _ ho (fun V e => ?_)
        rw [b3, a3] at e
        rw [e, show ((m : Int) % 32).toNat = m by omega, show u % 4294967296 = u by omega]
        exact k1
      have e38 : EV q 49 38 [some (.ref o), some (vI v), some (vI n), some (vI u), some (vI l), some (vI i), none, none] [] A2 none A' := by
        refine vc_Row_lowBits_38 _ _ _ _ _ _ _ ho ?_
        rw [a3, sp, wl (), mn, show ((m : Int) % 32).toNat = m by omega, Int.one_mul, bA_m u m (by omega), ← ep, show ((8 - (8 - (s1.2 : Int))) % 32).toNat = s1.2 by omega]
        rcases b4 with ⟨c1, c2, c3⟩ | ⟨c1, c2, c3, c4, c5⟩
        · rw [c2]
          rw [c3] at e97
          exact ⟨fun _ => e97 _, fun _ => cY (by decide) (e97 _)⟩
        · have w1 : w32 (wbO s1).1 = (wbO s1).1 := w32_of (by omega)
          have w2 : w32 ((wbO s1).1 - 1) = (wbO s1).1 - 1 := w32_of (by omega)
          rw [c2, c3, w1, w2, c4, ← eL]
          refine cNo (by omega) (cNN (by decide) ⟨by omega, by omega, fun S3 f3 => ?_⟩)
          have eo : bO L (p * (2 : Int) ^ s1.2) = L + p * (2 : Int) ^ s1.2 := by
            have ph := pw_256 (h := s1.2) (by omega)
            have bb : p * (2 : Int) ^ s1.2 < 2147483648 := by
              have : p * (2 : Int) ^ s1.2 ≤ 256 * 256 := Int.mul_le_mul (by omega) ph.2 (by omega) (by decide)
              omega
            rw [bO_comm, bO_s hp.1 bb ⟨L0, o3⟩ (by omega)]
            omega
          rw [eo, eL] at f3
          rw [← c5] at f3
          rw [f3]
          exact e97 _
      refine vc_Row_lowBits_8 _ _ _ _ _ _ _ ho ?_
      rw [wi (), wl (), h1.2]
      refine cNo (by omega) (cNo (by omega) ?_)
      rcases a4 with ⟨c1, c2⟩ | ⟨c1, A0, c2, c3⟩
      · rw [if_neg c1, sp]
        rw [c2] at e38
        exact cY (by omega) e38
      · rw [if_pos c1]
        exact cNN (by decide) ⟨A0, c2, fun S3 f3 => by rw [f3, ← c3]; exact e38⟩
  obtain ⟨A', k1, k2, k3⟩ := lp n 0 v A s (by omega) hv hr h
  exact ⟨A', vc_Row_lowBits _ _ _ _ ho k1, k2, k3⟩
theorem pw_64 (v : Int) (hv : 0 ≤ v) : ∀ r : Nat, 0 ≤ v / (2 : Int) ^ r ∧ v / (2 : Int) ^ r ≤ v := fun r => ⟨Int.ediv_nonneg hv (Int.le_of_lt (Int.pow_pos (by decide))), Int.ediv_le_self _ hv⟩
/-- highBits(v, n) -/
theorem cw_high_bits {A : ms} {o N : Nat} {v : Int} {n : Nat} {s : Wb} (hv : 0 ≤ v ∧ v < 4611686018427387904) (hn : n ≤ 62) (ho : isRow o N) (hN : N < 1000000) (hr : wbR 1 s) (hw : s.1.1 < 800000000) (h : CBt A o N s) : ∃ A', EV q 98 0 [some (.ref o), some (vL v), none, some (vI n), none, none, none, none] [] A none A' ∧ EX (XRb o) A A' ∧ CBt A' o N (wbHigh n v s) := by
  have lp : ∀ (l i : Nat) (A1 : ms) (s1 : Wb), i + l ≤ n → wbR 1 s1 → CBt A1 o N s1 → ∃ A', EV q 98 6 [some (.ref o), some (vL v), none, some (vI n), some (vI l), some (vI i), none, none] [] A1 none A' ∧ EX (XRb o) A1 A' ∧ CBt A' o N (wbHigh l v s1) := by
    intro l
    induction l using Nat.strongRecOn with
    | ind l ih =>
      intro i A1 s1 hi hr1 h1
      have wl : Unit → w32 ((l : Nat) : Int) = l := fun _ => w32_of (by omega)
      have wi : Unit → w32 ((i : Nat) : Int) = i := fun _ => w32_of (by omega)
      by_cases c0 : l = 0
      · subst c0
        refine ⟨A1, vc_Row_highBits_6 _ _ _ _ _ _ ho ?_, EX.refl _ A1, h1⟩
        exact ⟨fun _ => ⟨rfl, rfl⟩, fun _ => cY (by decide) ⟨rfl, rfl⟩⟩
      have hs8 := hr1.2.1
      obtain ⟨m, em⟩ : ∃ m : Nat, m = min (8 - s1.2) l := ⟨_, rfl⟩
      have hm : 1 ≤ m ∧ s1.2 + m ≤ 8 ∧ m ≤ l := by omega
      obtain ⟨r, er⟩ : ∃ r : Nat, l = m + r := ⟨l - m, by omega⟩
      obtain ⟨A2, a1, a2, a3, a4⟩ := cw_open (q := q) ho hN hr1 h1
      obtain ⟨o1, o2, -, o3⟩ := wbO_r hr1
      have o3 := o3 rfl
      obtain ⟨L, eL⟩ : ∃ L, L = (wbO s1).2 ((wbO s1).1 - 1) := ⟨_, rfl⟩
      rw [← eL] at o3
      have L0 : 0 ≤ L ∧ L < 256 := by rw [eL]; exact o2 _
      have vr := pw_64 v hv.1 r
      obtain ⟨u, eu⟩ : ∃ u, u = v / (2 : Int) ^ r := ⟨_, rfl⟩
      rw [← eu] at vr
      obtain ⟨p, ep⟩ : ∃ p, p = u % (2 : Int) ^ m := ⟨_, rfl⟩
      have pm := pw_256 (h := m) (by omega)
      have hp : 0 ≤ p ∧ p < (2 : Int) ^ m := by rw [ep]; exact ⟨Int.emod_nonneg _ (by omega), Int.emod_lt_of_pos _ pm.1⟩
      obtain ⟨c8, ec8⟩ : ∃ c8 : Nat, c8 = 8 - s1.2 - m := ⟨_, rfl⟩
      obtain ⟨A3, b1, b2, b3, b4⟩ := cw_piece (z := p * (2 : Int) ^ c8) ho o1 a2
      obtain ⟨s2, es2⟩ : ∃ s2, s2 = wbPh m p s1 := ⟨_, rfl⟩
      have hr2 : wbR 1 s2 := by rw [es2]; exact wbPh_r hr1 ⟨hm.1, hm.2.1⟩ hp
      have e22 : s2.2 = (s1.2 + m) % 8 := by rw [es2]; rfl
      have e21 : s2.1 = wtAdd (p * (2 : Int) ^ c8) (wbO s1) := by rw [es2, ec8]; rfl
      have h2 : CBt (wI A3 o 3 (8 - (s1.2 : Int) - m)) o N s2 := by
        refine ⟨?_, ?_⟩
        · rw [e21]
          exact CWt_cg b2 (fun a k y => wI_no _ (by unfold XRo at y; omega))
        · rw [wI_at, e22]
          by_cases d : (s1.2 + m) % 8 = 0
          · rw [if_pos d]; omega
          · rw [if_neg d]; omega
      obtain ⟨A', k1, k2, k3⟩ := ih r (by omega) (i + 1) (wI A3 o 3 (8 - (s1.2 : Int) - m)) s2 (by omega) hr2 h2
      have x3 : EX (XRb o) A1 (wI A3 o 3 (8 - (s1.2 : Int) - m)) := (a1.trans b1).wr (Or.inl ⟨rfl, by decide⟩)
      have eW : wbHigh l v s1 = wbHigh r v s2 := by rw [es2, er, high_ph r m v s1 hm.1 hm.2.1, ← eu, ep]
      refine ⟨A', ?_, x3.trans k2, by rw [eW]; exact k3⟩
      rw [show ((i + 1 : Nat) : Int) = (i : Int) + 1 by omega, show ((r : Nat) : Int) = (l : Int) - m by omega] at k1
      have sp : w32 (8 - (s1.2 : Int)) = 8 - (s1.2 : Int) := w32_of (by omega)
      have mn : min (8 - (s1.2 : Int)) (l : Int) = m := by omega
      have e97 : ∀ x7 : Int, EV q 98 102 [some (.ref o), some (vL v), none, some (vI n), some (vI l), some (vI i), some (vI m), some (vI x7)] [] A3 none A' := by
        intro x7
        refine vc_Row_highBits_102 _ _ _ _ _ _ _ _ ho (fun V e => ?_)
        rw [b3, a3] at e
        rw [e]
        exact k1
      have ed8 : ((8 - (s1.2 : Int) - m) % 32).toNat = c8 := by omega
      have er' : (((l : Int) - m) % 64).toNat = r := by omega
      have e38 : EV q 98 36 [some (.ref o), some (vL v), none, some (vI n), some (vI l), some (vI i), none, none] [] A2 none A' := by
        refine vc_Row_highBits_36 _ _ _ _ _ _ ho ?_
        rw [a3, sp, wl (), mn, show ((m : Int) % 32).toNat = m by omega, Int.one_mul, er', show v % 18446744073709551616 = v by omega, ← eu, bA_m u m (by omega), ← ep, ed8]
        rcases b4 with ⟨c1, c2, c3⟩ | ⟨c1, c2, c3, c4, c5⟩
        · rw [c2]
          rw [c3] at e97
          exact ⟨fun _ => e97 _, fun _ => cY (by decide) (e97 _)⟩
        · have w1 : w32 (wbO s1).1 = (wbO s1).1 := w32_of (by omega)
          have w2 : w32 ((wbO s1).1 - 1) = (wbO s1).1 - 1 := w32_of (by omega)
          rw [c2, c3, w1, w2, c4, ← eL]
          refine cNo (by omega) (cNN (by decide) ⟨by omega, by omega, fun S3 f3 => ?_⟩)
          have eo : bO L (p * (2 : Int) ^ c8) = L + p * (2 : Int) ^ c8 := by
            -- L has its bits above the piece
            have eP : (2 : Int) ^ (8 - s1.2) = (2 : Int) ^ m * (2 : Int) ^ c8 := by rw [← Int.pow_add, show m + c8 = 8 - s1.2 by omega]
            have hPl : p * (2 : Int) ^ c8 < (2 : Int) ^ (8 - s1.2) := by
              rw [eP]
              exact Int.mul_lt_mul_of_pos_right hp.2 (Int.pow_pos (by decide))
            have hP0 : 0 ≤ p * (2 : Int) ^ c8 := Int.mul_nonneg hp.1 (Int.le_of_lt (Int.pow_pos (by decide)))
            obtain ⟨y, ey⟩ : ∃ y : Int, L = y * (2 : Int) ^ (8 - s1.2) := by
              obtain ⟨y, ey⟩ := Int.dvd_of_emod_eq_zero o3
              exact ⟨y, by rw [ey, Int.mul_comm]⟩
            have y0 : 0 ≤ y := by
              by_cases d : 0 ≤ y
              · exact d
              · have : y * (2 : Int) ^ (8 - s1.2) < 0 := Int.mul_neg_of_neg_of_pos (by omega) (Int.pow_pos (by decide))
                omega
            rw [ey] at L0 ⊢
            exact bO_s y0 (by omega) ⟨hP0, hPl⟩ (by omega)
          rw [eo, eL] at f3
          rw [← c5] at f3
          rw [f3]
          exact e97 _
      refine vc_Row_highBits_6 _ _ _ _ _ _ ho ?_
      rw [wi (), wl (), h1.2]
      refine cNo (by omega) (cNo (by omega) ?_)
      rcases a4 with ⟨c1, c2⟩ | ⟨c1, A0, c2, c3⟩
      · rw [if_neg c1, sp]
        rw [c2] at e38
        exact cY (by omega) e38
      · rw [if_pos c1]
        exact cNN (by decide) ⟨A0, c2, fun S3 f3 => by rw [f3, ← c3]; exact e38⟩
  obtain ⟨A', k1, k2, k3⟩ := lp n 0 A s (by omega) hr h
  exact ⟨A', vc_Row_highBits _ _ _ _ ho k1, k2, k3⟩
/-- closeOctet() -/
theorem cw_close {A : ms} {o N : Nat} {s : Wb} (ho : isRow o N) (h : CBt A o N s) : ∃ A', EV q 53 0 [some (.ref o)] [] A none A' ∧ EX (XRb o) A A' ∧ CBt A' o N (wbEnd s) := ⟨wI A o 3 0, vc_Row_closeOctet _ _ ho (fun S1 f1 => ⟨rfl, f1.symm⟩), (EX.refl _ A).wr (Or.inl ⟨rfl, by decide⟩), CWt_cg h.1 (fun a k y => wI_no _ (by unfold XRo at y; omega)), by rw [wI_at]; rfl⟩
end WBit3
