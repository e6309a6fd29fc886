/-! THE START: what holds behind the constructors -/
section KpF
variable {q : Nat × (Nat → Int32)} {S : ms}
theorem pw_pm1 : ∀ n : Nat, n < 256 → pw1 (n : Int) = pm1 (n : Int) := by decide +kernel
theorem pw_pm : ∀ i : Nat, pw i = pm i ∧ 0 ≤ pm i ∧ pm i < 256
  | 0 => ⟨rfl, by decide, by decide⟩
  | i + 1 => by
    obtain ⟨h1, h2, h3⟩ := pw_pm i
    obtain ⟨n, en⟩ : ∃ n : Nat, (n : Int) = pm i := ⟨(pm i).toNat, by omega⟩
    have r := pm1_rg n (by omega)
    have e := pw_pm1 n (by omega)
    rw [en] at r e
    refine ⟨?_, r.1, r.2⟩
    show pw1 (pw i) = pm1 (pm i)
    rw [h1]
    exact e
theorem lg_lm (f : Int → Int) (x : Int) : ∀ i : Nat, lgF f i x = lmF f i x
  | 0 => rfl
  | i + 1 => by
    show (if x = pw i then (i : Int) else lgF f i x) = if x = pm i then (i : Int) else lmF f i x
    rw [(pw_pm i).1, lg_lm f x i]
theorem sm_zz {u : Nat → Int} (h : ∀ k, u k = 0) : ∀ n : Nat, sm u n = 0
  | 0 => rfl
  | n + 1 => by
    show sm u n + u n = 0
    rw [sm_zz h n, h n]
    rfl
theorem KK_ini (h : IniP S) : KK 0 S := by
  have hB := BOk_ini h
  obtain ⟨SB, SD, pB, ⟨d1, d2, d3, d4⟩, T, ⟨t1, t2, t3⟩, u1, u2, u3, u4⟩ := h
  obtain ⟨b1, b2⟩ := BlP_same pB
  have e22 : S.2.2 = R0 := by
    rw [u1, t1, d1, b1]
    rfl
  have z : ∀ (a : Nat) (k : Int), ¬ (31 ≤ a ∧ a ≤ 52) → a ≠ 92 → a ≠ 93 → a ≠ 182 → a ≠ 183 → a ≠ 372 → a ≠ 373 → a ≠ 437 → a ≠ 438 → S.1 a k = 0 := fun a k y1 y2 y3 y4 y5 y6 y7 y8 y9 => by
    rw [u2 a k y8 y9, t2 a k y6 y7, d2 a k y4 y5, b2 a k y1 y2 y3]
    rfl
  have zz : ∀ (a : Nat) (k : Int), (a < 31 ∨ (94 ≤ a ∧ a < 182) ∨ (183 < a ∧ a < 372) ∨ (373 < a ∧ a < 437) ∨ 438 < a) → S.1 a k = 0 := fun a k y => z a k (by omega) (by omega) (by omega) (by omega) (by omega) (by omega) (by omega) (by omega) (by omega)
  have eB : ∀ (a : Nat) (k : Int), (31 ≤ a ∧ a ≤ 93) → S.1 a k = SB.1 a k := fun a k y => by rw [u2 a k (by omega) (by omega), t2 a k (by omega) (by omega), d2 a k (by omega) (by omega)]
  -- the tables
  have hRQ : RQ S := ⟨fun s hs => by rw [u2 372 s (by decide) (by decide)]; exact (t3 s hs).1, fun s hs => by rw [u2 373 s (by decide) (by decide)]; exact (t3 s hs).2⟩
  have f183 : SB.1 183 = fun _ => 0 := funext (fun k => by rw [b2 183 k (by omega) (by decide) (by decide)]; rfl)
  have f438 : T.1 438 = fun _ => 0 := funext (fun k => by rw [t2 438 k (by decide) (by decide), d2 438 k (by decide) (by decide), b2 438 k (by omega) (by decide) (by decide)]; rfl)
  have hRG : RG S := by
    refine ⟨fun k k0 k1 => ?_, fun x x0 x1 => ?_⟩
    · rw [u2 182 k (by decide) (by decide), t2 182 k (by decide) (by decide)]
      unfold gp
      by_cases c : k < 255
      · have e1 := d3 k.toNat (by omega)
        have e2 := u3 k.toNat (by omega)
        rw [show ((k.toNat : Nat) : Int) = k by omega] at e1 e2
        rw [e1.1, e2.1, (pw_pm _).1, show k.toNat % 255 = k.toNat by omega]
        exact ⟨rfl, rfl⟩
      · have e1 := d3 (k.toNat - 255) (by omega)
        have e2 := u3 (k.toNat - 255) (by omega)
        rw [show ((k.toNat - 255 + 255 : Nat) : Int) = k by omega] at e1 e2
        rw [e1.2, e2.2, (pw_pm _).1, show k.toNat % 255 = k.toNat - 255 by omega]
        exact ⟨rfl, rfl⟩
    · rw [u2 183 x (by decide) (by decide), t2 183 x (by decide) (by decide), d4 x, u4 x, f183, f438, lg_lm]
      exact ⟨rfl, rfl⟩
  -- the codes
  obtain ⟨S2, S4, ⟨q1, q2, ⟨q3, q4, q5⟩, q6, q7⟩, ⟨r1, r2, ⟨r3, r4, r5⟩, r6, r7⟩, w1, w2, w3⟩ := pB
  have s4 : ∀ (a : Nat) (k : Int), (31 ≤ a ∧ a ≤ 41) → S4.1 a k = S2.1 a k := fun a k y => by rw [r2 a k (by omega) (by omega), rI_C, if_neg (by omega)]
  have sB : ∀ (a : Nat) (k : Int), (31 ≤ a ∧ a ≤ 52) → SB.1 a k = S4.1 a k := fun a k y => w2 a k (by omega) (by omega)
  have e31 : ∀ (a : Nat) (k : Int), (31 ≤ a ∧ a ≤ 41) → S.1 a k = S2.1 a k := fun a k y => by rw [eB a k (by omega), sB a k (by omega), s4 a k y]
  have e42 : ∀ (a : Nat) (k : Int), (42 ≤ a ∧ a ≤ 52) → S.1 a k = S4.1 a k := fun a k y => by rw [eB a k (by omega), sB a k (by omega)]
  have l32 : ∀ k : Int, 0 ≤ k → k < 288 → S2.1 32 k = flF k := fun k k0 k1 => by
    rw [q2 32 k (by omega) (by omega), rI_C, if_pos ⟨rfl, by omega, by omega⟩, show k - 0 = k by omega]
  have l43 : ∀ k : Int, 0 ≤ k → k < 32 → S4.1 43 k = 5 := fun k k0 k1 => by
    rw [r2 43 k (by omega) (by omega), rI_C, if_pos ⟨rfl, by omega, by omega⟩]
  have hC1 : CodC S 31 288 flF := ⟨is_31, by decide, by decide, by rw [e31 31 5 (by decide)]; exact q3, fun k k1 k2 => by rw [e31 (31 + 5) k (by decide)]; exact q6 k k1 k2, fun t ht hl => by rw [e31 (31 + 4) _ (by decide)]; exact (q7 t ht hl).2.2⟩
  have hC2 : CodC S 42 32 (fun _ => 5) := ⟨is_42, by decide, by decide, by rw [e42 42 5 (by decide)]; exact r3, fun k k1 k2 => by rw [e42 (42 + 5) k (by decide)]; exact r6 k k1 k2, fun t ht hl => by rw [e42 (42 + 4) _ (by decide)]; exact (r7 t ht hl).2.2⟩
  have hBl : BlC S := by
    refine ⟨⟨is_31, by decide, fun s hs => ⟨by have := flF_rg s; omega, by rw [e31 (31 + 1) s (by decide)]; exact l32 s (by omega) (by omega)⟩, fun s hs hl => by rw [e31 (31 + 3) s (by decide)]; exact (q7 s hs hl).2.1⟩, ⟨is_42, by decide, fun s hs => ⟨by show (0 : Int) ≤ 5 ∧ (5 : Int) ≤ 20; decide, by rw [e42 (42 + 1) s (by decide)]; exact l43 s (by omega) (by omega)⟩, fun s hs hl => by rw [e42 (42 + 3) s (by decide)]; exact (r7 s hs hl).2.1⟩, fun k k0 k1 => ?_⟩
    have w := w3 (k - 3).toNat (by omega)
    rw [show ((3 + (k - 3).toNat : Nat) : Int) = k by omega, show (k - 3).toNat + 1 = (k - 2).toNat by omega] at w
    have sr := szS_rg (k - 2).toNat
    rw [eB 92 k (by omega), eB 93 k (by omega), w.1, w.2, s4 32 _ (by omega), l32 _ (by omega) (by omega)]
    exact ⟨rfl, rfl⟩
  refine ⟨⟨?_, fun s s1 s2 => ?_, ?_, ?_, ?_, ⟨?_, ?_⟩, ?_, ?_, ?_, hRQ, hRG, hBl, hC1, hC2⟩, hB⟩
  · refine ⟨by rw [zz 1 1 (by omega)]; decide, by rw [zz 1 1 (by omega), zz 367 2 (by omega)], fun k k0 k1 => ?_⟩
    rw [zz 1 1 (by omega)] at k1
    omega
  · rw [zz 4 s (by omega), zz 371 s (by omega)]
    exact ⟨Or.inl rfl, rfl, fun y => absurd y (by decide)⟩
  · refine ⟨⟨by rw [zz 10 12 (by omega)]; decide, by rw [zz 10 12 (by omega), zz 367 84 (by omega)], fun k k0 k1 => ?_⟩, by rw [zz 367 83 (by omega), zz 0 15 (by omega)]⟩
    rw [zz 10 12 (by omega)] at k1
    omega
  · refine ⟨by rw [zz 5 1 (by omega)]; decide, by rw [zz 5 1 (by omega), zz 367 103 (by omega)], fun k k0 k1 => ?_⟩
    rw [zz 5 1 (by omega)] at k1
    omega
  · refine ⟨193, 268, Or.inl ⟨rfl, rfl⟩, by rw [e22]; rfl, ⟨by rw [e22]; rfl, Or.inl rfl, by rw [zz 193 4 (by omega)]; decide, by rw [zz 193 4 (by omega), zz 367 88 (by omega)], fun e he => ?_⟩, fun e he => ?_⟩
    · rw [zz 193 4 (by omega)] at he
      omega
    · rw [zz 193 4 (by omega)] at he
      omega
  · unfold RP
    rw [zz 367 112 (by omega), zz 367 113 (by omega), zz 367 114 (by omega), zz 367 115 (by omega), zz 173 2 (by omega), zz 173 3 (by omega), zz 173 4 (by omega), zz 173 6 (by omega)]
    exact ⟨⟨rfl, rfl, rfl, rfl⟩, by decide, fun p p0 p1 => by omega, fun k k0 k1 => by omega⟩
  · unfold RP2
    rw [zz 173 2 (by omega), zz 173 3 (by omega), zz 173 4 (by omega), zz 173 6 (by omega)]
    decide
  · have e0 : ∀ r : Int, S.1 191 r = 0 := fun r => zz 191 r (by omega)
    unfold RO
    rw [zz 367 123 (by omega), zz 367 124 (by omega), zz 367 129 (by omega), zz 367 130 (by omega), zz 184 0 (by omega), zz 184 1 (by omega), zz 184 2 (by omega), zz 184 3 (by omega)]
    refine ⟨⟨rfl, rfl, rfl, rfl⟩, by unfold mI; decide, fun b b0 b1 => ?_, fun r r0 r1 => ?_, ⟨fun r r' _ _ _ _ _ y => absurd (zz 190 r (by omega)) y, fun s s' s0 s1 => by omega⟩, ⟨fun s s0 s1 => by omega, fun r _ _ y => absurd (zz 190 r (by omega)) y⟩, fun b b0 b1 => ?_, ?_, ?_, by decide⟩
    · unfold OB
      rw [zz 186 b (by omega), zz 448 b (by omega)]
      exact ⟨by decide, by rw [if_pos rfl], fun y => absurd rfl y⟩
    · unfold OL
      rw [e0 r, zz 190 r (by omega)]
      exact ⟨by decide, by decide, fun _ => rfl, fun k k0 k1 => by omega, by show (0 : Int) ≤ 6000; decide⟩
    · rw [zz 188 b (by omega), zz 186 b (by omega)]
      refine ⟨(sm_zz (fun k => ?_) 8).symm, fun y => absurd rfl y⟩
      show ocN _ (S.1 191 k).toNat b = 0
      rw [e0 k]
      rfl
    · exact (sm_zz (fun k => zz 448 k (by omega)) 300).symm
    · exact (sm_zz (fun k => zz 186 k (by omega)) 300).symm
  · unfold FQ
    rw [zz 367 79 (by omega), zz 367 80 (by omega), zz 367 81 (by omega), zz 0 16 (by omega), zz 0 17 (by omega), zz 0 18 (by omega)]
    exact ⟨rfl, rfl, rfl⟩
  · exact ⟨zz 392 28 (by omega), Or.inl (zz 367 45 (by omega))⟩
end KpF
