/-! pack: SORTED; a block -/
section PBlk
variable {q : Nat × (Nat → Int32)}
theorem cw_high_g {A : ms} {o N : Nat} {v v' : Int} {n : Nat} {s : Wb} (hv : ∀ r m : Nat, m ≤ 8 → r + m ≤ n → v % 18446744073709551616 / (2 : Int) ^ r % (2 : Int) ^ m = v' / (2 : Int) ^ r % (2 : Int) ^ m) (hn : n ≤ 62) (ho : isRow o N) (hN : N < 1000000) (hr : wbR 1 s) (hw : s.1.1 < 800000000) (h : CBt A o N s) : ∃ A', EV q 98 0 [some (.ref o), some (vL v), none, some (vI n), none, none, none, none] [] A none A' ∧ EX (XRb o) A A' ∧ CBt A' o N (wbHigh n v' s) := by
  have lp : ∀ (l i : Nat) (A1 : ms) (s1 : Wb), i + l ≤ n → wbR 1 s1 → CBt A1 o N s1 → ∃ A', EV q 98 6 [some (.ref o), some (vL v), none, some (vI n), some (vI l), some (vI i), none, none] [] A1 none A' ∧ EX (XRb o) A1 A' ∧ CBt A' o N (wbHigh l v' s1) := by
    intro l
    induction l using Nat.strongRecOn with
    | ind l ih =>
      intro i A1 s1 hi hr1 h1
      have wl : Unit → w32 ((l : Nat) : Int) = l := fun _ => w32_of (by omega)
      have wi : Unit → w32 ((i : Nat) : Int) = i := fun _ => w32_of (by omega)
      by_cases c0 : l = 0
      · subst c0
        refine ⟨A1, vc_Row_highBits_6 _ _ _ _ _ _ ho ?_, EX.refl _ A1, h1⟩
        exact ⟨fun _ => ⟨rfl, rfl⟩, fun _ => cY (by decide) ⟨rfl, rfl⟩⟩
      have hs8 := hr1.2.1
      obtain ⟨m, em⟩ : ∃ m : Nat, m = min (8 - s1.2) l := ⟨_, rfl⟩
      have hm : 1 ≤ m ∧ s1.2 + m ≤ 8 ∧ m ≤ l := by omega
      obtain ⟨r, er⟩ : ∃ r : Nat, l = m + r := ⟨l - m, by omega⟩
      obtain ⟨A2, a1, a2, a3, a4⟩ := cw_open (q := q) ho hN hr1 h1
      obtain ⟨o1, o2, -, o3⟩ := wbO_r hr1
      have o3 := o3 rfl
      obtain ⟨L, eL⟩ : ∃ L, L = (wbO s1).2 ((wbO s1).1 - 1) := ⟨_, rfl⟩
      rw [← eL] at o3
      have L0 : 0 ≤ L ∧ L < 256 := by rw [eL]; exact o2 _
      obtain ⟨u, eu⟩ : ∃ u, u = v % 18446744073709551616 / (2 : Int) ^ r := ⟨_, rfl⟩
      obtain ⟨p, ep⟩ : ∃ p, p = u % (2 : Int) ^ m := ⟨_, rfl⟩
      have pm := pw_256 (h := m) (by omega)
      have hp : 0 ≤ p ∧ p < (2 : Int) ^ m := by rw [ep]; exact ⟨Int.emod_nonneg _ (by omega), Int.emod_lt_of_pos _ pm.1⟩
      obtain ⟨c8, ec8⟩ : ∃ c8 : Nat, c8 = 8 - s1.2 - m := ⟨_, rfl⟩
      obtain ⟨A3, b1, b2, b3, b4⟩ := cw_piece (z := p * (2 : Int) ^ c8) ho o1 a2
      obtain ⟨s2, es2⟩ : ∃ s2, s2 = wbPh m p s1 := ⟨_, rfl⟩
      have hr2 : wbR 1 s2 := by rw [es2]; exact wbPh_r hr1 ⟨hm.1, hm.2.1⟩ hp
      have e22 : s2.2 = (s1.2 + m) % 8 := by rw [es2]; rfl
      have e21 : s2.1 = wtAdd (p * (2 : Int) ^ c8) (wbO s1) := by rw [es2, ec8]; rfl
      have h2 : CBt (wI A3 o 3 (8 - (s1.2 : Int) - m)) o N s2 := by
        refine ⟨?_, ?_⟩
        · rw [e21]
          exact CWt_cg b2 (fun a k y => wI_no _ (by unfold XRo at y; omega))
        · rw [wI_at, e22]
          by_cases d : (s1.2 + m) % 8 = 0
          · rw [if_pos d]; omega
          · rw [if_neg d]; omega
      obtain ⟨A', k1, k2, k3⟩ := ih r (by omega) (i + 1) (wI A3 o 3 (8 - (s1.2 : Int) - m)) s2 (by omega) hr2 h2
      have x3 : EX (XRb o) A1 (wI A3 o 3 (8 - (s1.2 : Int) - m)) := (a1.trans b1).wr (Or.inl ⟨rfl, by decide⟩)
      have eW : wbHigh l v' s1 = wbHigh r v' s2 := by rw [es2, er, high_ph r m v' s1 hm.1 hm.2.1, ← hv r m (by omega) (by omega), ← eu, ep]
      refine ⟨A', ?_, x3.trans k2, by rw [eW]; exact k3⟩
      rw [show ((i + 1 : Nat) : Int) = (i : Int) + 1 by omega, show ((r : Nat) : Int) = (l : Int) - m by omega] at k1
      have sp : w32 (8 - (s1.2 : Int)) = 8 - (s1.2 : Int) := w32_of (by omega)
      have mn : min (8 - (s1.2 : Int)) (l : Int) = m := by omega
      have e97 : ∀ x7 : Int, EV q 98 102 [some (.ref o), some (vL v), none, some (vI n), some (vI l), some (vI i), some (vI m), some (vI x7)] [] A3 none A' := by
        intro x7
        refine vc_Row_highBits_102 _ _ _ _ _ _ _ _ ho (fun V e => ?_)
        rw [b3, a3] at e
        rw [e]
        exact k1
      have ed8 : ((8 - (s1.2 : Int) - m) % 32).toNat = c8 := by omega
      have er' : (((l : Int) - m) % 64).toNat = r := by omega
      have e38 : EV q 98 36 [some (.ref o), some (vL v), none, some (vI n), some (vI l), some (vI i), none, none] [] A2 none A' := by
        refine vc_Row_highBits_36 _ _ _ _ _ _ ho ?_
        rw [a3, sp, wl (), mn, show ((m : Int) % 32).toNat = m by omega, Int.one_mul, er', ← eu, bA_m u m (by omega), ← ep, ed8]
        rcases b4 with ⟨c1, c2, c3⟩ | ⟨c1, c2, c3, c4, c5⟩
        · rw [c2]
          rw [c3] at e97
          exact ⟨fun _ => e97 _, fun _ => cY (by decide) (e97 _)⟩
        · have w1 : w32 (wbO s1).1 = (wbO s1).1 := w32_of (by omega)
          have w2 : w32 ((wbO s1).1 - 1) = (wbO s1).1 - 1 := w32_of (by omega)
          rw [c2, c3, w1, w2, c4, ← eL]
          refine cNo (by omega) (cNN (by decide) ⟨by omega, by omega, fun S3 f3 => ?_⟩)
          have eo : bO L (p * (2 : Int) ^ c8) = L + p * (2 : Int) ^ c8 := by
            -- L has its bits above the piece
            have eP : (2 : Int) ^ (8 - s1.2) = (2 : Int) ^ m * (2 : Int) ^ c8 := by rw [← Int.pow_add, show m + c8 = 8 - s1.2 by omega]
            have hPl : p * (2 : Int) ^ c8 < (2 : Int) ^ (8 - s1.2) := by
              rw [eP]
              exact Int.mul_lt_mul_of_pos_right hp.2 (Int.pow_pos (by decide))
            have hP0 : 0 ≤ p * (2 : Int) ^ c8 := Int.mul_nonneg hp.1 (Int.le_of_lt (Int.pow_pos (by decide)))
            obtain ⟨y, ey⟩ : ∃ y : Int, L = y * (2 : Int) ^ (8 - s1.2) := by
              obtain ⟨y, ey⟩ := Int.dvd_of_emod_eq_zero o3
              exact ⟨y, by rw [ey, Int.mul_comm]⟩
            have y0 : 0 ≤ y := by
              by_cases d : 0 ≤ y
              · exact d
              · have : y * (2 : Int) ^ (8 - s1.2) < 0 := Int.mul_neg_of_neg_of_pos (by omega) (Int.pow_pos (by decide))
                omega
            rw [ey] at L0 ⊢
            exact bO_s y0 (by omega) ⟨hP0, hPl⟩ (by omega)
          rw [eo, eL] at f3
          rw [← c5] at f3
          rw [f3]
          exact e97 _
      refine vc_Row_highBits_6 _ _ _ _ _ _ ho ?_
      rw [wi (), wl (), h1.2]
      refine cNo (by omega) (cNo (by omega) ?_)
      rcases a4 with ⟨c1, c2⟩ | ⟨c1, A0, c2, c3⟩
      · rw [if_neg c1, sp]
        rw [c2] at e38
        exact cY (by omega) e38
      · rw [if_pos c1]
        exact cNN (by decide) ⟨A0, c2, fun S3 f3 => by rw [f3, ← c3]; exact e38⟩
  obtain ⟨A', k1, k2, k3⟩ := lp n 0 A s (by omega) hr h
  exact ⟨A', vc_Row_highBits _ _ _ _ ho k1, k2, k3⟩
theorem pw_32 (v : Int) {r m : Nat} (h : r + m ≤ 32) : v % 18446744073709551616 / (2 : Int) ^ r % (2 : Int) ^ m = v % 4294967296 / (2 : Int) ^ r % (2 : Int) ^ m := by
  obtain ⟨e, he⟩ : ∃ e, 32 = r + m + e := ⟨32 - r - m, by omega⟩
  have p32 : (4294967296 : Int) = (2 : Int) ^ r * ((2 : Int) ^ m * (2 : Int) ^ e) := by
    rw [← Int.pow_add, ← Int.pow_add, show r + (m + e) = 32 by omega]
    decide
  obtain ⟨w, ew⟩ : ∃ w, w = v % 18446744073709551616 := ⟨_, rfl⟩
  have e1 : v % 4294967296 = w % 4294967296 := by omega
  rw [← ew, e1]
  obtain ⟨d, ed⟩ : ∃ d, d = w / 4294967296 := ⟨_, rfl⟩
  have e2 : w = w % 4294967296 + d * 4294967296 := by omega
  obtain ⟨z, ez⟩ : ∃ z, z = w % 4294967296 := ⟨_, rfl⟩
  rw [← ez] at e2 ⊢
  have r0 : (2 : Int) ^ r ≠ 0 := Int.ne_of_gt (Int.pow_pos (by decide))
  rw [e2, p32, show z + d * ((2 : Int) ^ r * ((2 : Int) ^ m * (2 : Int) ^ e)) = z + (d * (2 : Int) ^ e * (2 : Int) ^ m) * (2 : Int) ^ r by rw [Int.mul_assoc d, Int.mul_comm ((2 : Int) ^ e) ((2 : Int) ^ m), Int.mul_assoc d, Int.mul_comm ((2 : Int) ^ r)], Int.add_mul_ediv_right _ _ r0, Int.add_mul_emod_self_right]
/-- highBits of an int -/
theorem cw_high_32 {A : ms} {o N : Nat} {v : Int} {s : Wb} (ho : isRow o N) (hN : N < 1000000) (hr : wbR 1 s) (hw : s.1.1 < 800000000) (h : CBt A o N s) : ∃ A', EV q 98 0 [some (.ref o), some (vL v), none, some (vI ((32 : Nat) : Int)), none, none, none, none] [] A none A' ∧ EX (XRb o) A A' ∧ CBt A' o N (wbHigh 32 (v % 4294967296) s) := cw_high_g (fun r m _ h2 => pw_32 v h2) (by decide) ho hN hr hw h
end PBlk
