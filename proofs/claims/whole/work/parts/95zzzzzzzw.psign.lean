/-! pack: SORTED; the signs are written -/
section PSig3
variable {q : Nat × (Nat → Int32)} {pr : Int → Int}
def hbA (g : Nat → Int) : Nat → Nat → Wb → Wb
  | _, 0, s => s
  | j, v + 1, s => hbA g (j + 1) v (wbHigh 1 (g j) s)
theorem hbA_s (g : Nat → Int) (j v : Nat) (s : Wb) : hbA g j (v + 1) s = hbA g (j + 1) v (wbHigh 1 (g j) s) := rfl
theorem hbA_r (g : Nat → Int) : ∀ (v j : Nat) (s : Wb), wbR 1 s → wbR 1 (hbA g j v s) ∧ s.1.1 ≤ (hbA g j v s).1.1 ∧ (hbA g j v s).1.1 ≤ s.1.1 + v
  | 0, j, s, h => ⟨h, Int.le_refl _, by show s.1.1 ≤ s.1.1 + ((0 : Nat) : Int); omega⟩
  | v + 1, j, s, h => by
    rw [hbA_s]
    have a := wbHigh_n 1 (g j) s
    have b := hbA_r g v (j + 1) (wbHigh 1 (g j) s) (wbHigh_r _ _ _ h)
    exact ⟨b.1, by omega, by omega⟩
theorem hbA_16 {g : Nat → Int} {X : Int} (h : ∀ j : Nat, j < 16 → X / (2 : Int) ^ (15 - j) % 2 = g j) : ∀ (v j : Nat) (s : Wb), j + v = 16 → wbHigh v X s = hbA g j v s
  | 0, j, s, _ => rfl
  | v + 1, j, s, hj => by
    have e := h j (by omega)
    rw [show 15 - j = v by omega] at e
    rw [wbHigh_b, hbA_s, e]
    exact hbA_16 h v (j + 1) _ (by omega)
def hbB (pr : Int → Int) (g : Nat → Int) : Nat → Nat → Wb → Wb
  | _, 0, s => s
  | j, v + 1, s => hbB pr g (j + 1) v (if g j = 1 then hbA (fun k => pr k) (16 * j) 16 s else s)
theorem hbB_s (pr : Int → Int) (g : Nat → Int) (j v : Nat) (s : Wb) : hbB pr g j (v + 1) s = hbB pr g (j + 1) v (if g j = 1 then hbA (fun k => pr k) (16 * j) 16 s else s) := rfl
theorem hbB_r (pr : Int → Int) (g : Nat → Int) : ∀ (v j : Nat) (s : Wb), wbR 1 s → wbR 1 (hbB pr g j v s) ∧ s.1.1 ≤ (hbB pr g j v s).1.1 ∧ (hbB pr g j v s).1.1 ≤ s.1.1 + 16 * v
  | 0, j, s, h => ⟨h, Int.le_refl _, by show s.1.1 ≤ s.1.1 + 16 * ((0 : Nat) : Int); omega⟩
  | v + 1, j, s, h => by
    rw [hbB_s]
    by_cases c : g j = 1
    · rw [if_pos c]
      have a := hbA_r (fun k => pr k) 16 (16 * j) s h
      have b := hbB_r pr g v (j + 1) _ a.1
      exact ⟨b.1, by omega, by omega⟩
    · rw [if_neg c]
      have b := hbB_r pr g v (j + 1) s h
      exact ⟨b.1, by omega, by omega⟩
/-- the reference: is a sign among lo .. hi -/
theorem md_hs {B : ms} {lo hi : Nat} (h01 : ∀ k : Int, pr k = 0 ∨ pr k = 1) (hl : lo < 300 ∧ hi < 256) (hB : MSg B (sgS pr 256)) : ∃ z : Int, (z = 0 ∨ z = 1) ∧ (z = 1 ↔ ∃ v : Nat, lo ≤ v ∧ v ≤ hi ∧ pr v = 1) ∧ EV q 322 0 [some (.ref 367), some (vI (sgS pr 256).1), some (vI lo), some (vI hi), none, none] [] B (some (vI z)) B := by
  obtain ⟨m1, m2, m3⟩ := sgS_m pr 256
  obtain ⟨z, z1, z2, z3⟩ := md_has (q := q) (s := sgS pr 256) (a := lo) (b := hi) m1 (fun j hj => (m2 j hj).1) (by omega) hB
  refine ⟨z, z1, ?_, z3⟩
  rw [z2]
  refine ⟨fun ⟨j, j1, j2, j3⟩ => ?_, fun ⟨v, v1, v2, v3⟩ => ?_⟩
  · have y := m2 j j1
    refine ⟨((sgS pr 256).2 j).toNat, by omega, by omega, ?_⟩
    rw [show ((((sgS pr 256).2 j).toNat : Nat) : Int) = (sgS pr 256).2 j by omega]
    exact y.2
  · obtain ⟨j, j1, j2⟩ := m3 v (by omega) v3
    exact ⟨j, j1, by omega, by omega⟩
theorem MSg_x {B B' : ms} {s : Rst} (h : MSg B s) (e : EX XWb B B') : MSg B' s := fun j hj => by rw [e.2 409 j (by unfold XWb; omega)]; exact h j hj
theorem md_hb1 {x1 : Int} (h01 : ∀ k : Int, pr k = 0 ∨ pr k = 1) : ∀ (v j : Nat) (s : Wb) (B : ms), j + v = 16 → wbR 1 s → s.1.1 + v < 800000000 → MSg B (sgS pr 256) → MBt B 1 s → ∃ B', EX XWb B B' ∧ MBt B' 1 (hbA (gbF pr) j v s) ∧ ∀ (Q : Option Value) (S' : ms), EV q 321 166 [some (.ref 367), some (vI x1), some (vI (sgS pr 256).1), some (vI 0), none, none, none] [] B' Q S' → EV q 321 124 [some (.ref 367), some (vI x1), some (vI (sgS pr 256).1), some (vI j), none, none, none] [] B Q S' := by
  intro v
  induction v with
  | zero =>
    intro j s B hj hr hs hB h
    have e : j = 16 := by omega
    subst e
    exact ⟨B, EX.refl _ B, h, fun Q S' k => vc_MD_writeSorted_124 _ _ _ (cY (by decide) k)⟩
  | succ v ih =>
    intro j s B hj hr hs hB h
    have g := gbF_1 (pr := pr) (s := j) (by omega)
    have nn := wbHigh_n 1 (gbF pr j) s
    obtain ⟨z, z1, z2, z3⟩ := md_hs (q := q) (lo := 16 * j) (hi := 16 * j + 15) h01 (by omega) hB
    have zg : z = gbF pr j := by
      have key : z = 1 ↔ gbF pr j = 1 := by
        rw [z2, g.2.1]
        exact ⟨fun ⟨v, v1, v2, v3⟩ => ⟨v, by omega, by omega, v3⟩, fun ⟨v, v1, v2, v3⟩ => ⟨v, by omega, by omega, v3⟩⟩
      rcases z1 with y | y
      · rcases g.1 with w | w
        · omega
        · have := key.2 w; omega
      · have := key.1 y; omega
    rw [zg] at z3 z1
    obtain ⟨B1, b1, b2, b3⟩ := mw_b1 (q := q) g.1 hr (by omega) h
    obtain ⟨B', k1, k2, k3⟩ := ih (j + 1) (wbHigh 1 (gbF pr j) s) B1 (by omega) (wbHigh_r _ _ _ hr) (by omega) (MSg_x hB b2) b3
    refine ⟨B', b2.trans k1, by rw [hbA_s]; exact k2, fun Q S' k => vc_MD_writeSorted_124 _ _ _ ?_⟩
    have k4 := k3 Q S' k
    rw [show ((j + 1 : Nat) : Int) = (j : Int) + 1 by omega] at k4
    rw [show ((16 * j : Nat) : Int) = 16 * (j : Int) by omega, show ((16 * j + 15 : Nat) : Int) = 16 * (j : Int) + 15 by omega] at z3
    rw [show w32 (j : Int) = j from w32_of (by omega)]
    refine cNo (by omega) ⟨_, B, z3, ?_⟩
    rcases g.1 with w | w
    · rw [w] at b1 ⊢
      exact cY (by decide) (vc_MD_writeSorted_155 _ _ _ _ ⟨B1, b1, k4⟩)
    · rw [w] at b1 ⊢
      exact cNo (by decide) (vc_MD_writeSorted_155 _ _ _ _ ⟨B1, b1, k4⟩)
theorem md_hbi {x1 : Int} {j : Nat} (hj : j < 16) (hg : gbF pr j = 1) (h01 : ∀ k : Int, pr k = 0 ∨ pr k = 1) : ∀ (v k : Nat) (s : Wb) (B : ms), k + v = 16 * j + 16 → 16 * j ≤ k → wbR 1 s → s.1.1 + v < 800000000 → MSg B (sgS pr 256) → MBt B 1 s → ∃ B', EX XWb B B' ∧ MBt B' 1 (hbA (fun k => pr k) k v s) ∧ ∀ (Q : Option Value) (S' : ms), EV q 321 166 [some (.ref 367), some (vI x1), some (vI (sgS pr 256).1), some (vI ((j : Int) + 1)), none, none, none] [] B' Q S' → EV q 321 178 [some (.ref 367), some (vI x1), some (vI (sgS pr 256).1), some (vI j), some (vI k), none, none] [] B Q S' := by
  have g := gbF_1 (pr := pr) (s := j) hj
  intro v
  induction v with
  | zero =>
    intro k s B hk hk0 hr hs hB h
    refine ⟨B, EX.refl _ B, h, fun Q S' kk => vc_MD_writeSorted_178 _ _ _ _ ?_⟩
    rw [w32_of (x := 16 * (j : Int) + 16) (by omega), show w32 (k : Int) = k from w32_of (by omega)]
    exact cY (by omega) (vc_MD_writeSorted_236 _ _ _ _ kk)
  | succ v ih =>
    intro k s B hk hk0 hr hs hB h
    obtain ⟨z, z1, z2, z3⟩ := md_hs (q := q) (lo := 16 * j) (hi := 16 * j + 15) h01 (by omega) hB
    obtain ⟨y, y1, y2, y3⟩ := md_hs (q := q) (lo := k) (hi := k) h01 (by omega) hB
    have z11 : z = 1 := by
      obtain ⟨v, v1, v2, v3⟩ := g.2.1.1 hg
      exact z2.2 ⟨v, by omega, by omega, v3⟩
    have yp : y = pr k := by
      have key : y = 1 ↔ pr k = 1 := by
        rw [y2]
        refine ⟨fun ⟨v, v1, v2, v3⟩ => ?_, fun w => ⟨k, by omega, by omega, w⟩⟩
        rw [show v = k by omega] at v3
        exact v3
      rcases y1 with w | w
      · rcases h01 k with p | p
        · omega
        · have := key.2 p; omega
      · have := key.1 w; omega
    rw [z11] at z3
    rw [yp] at y3
    have nn := wbHigh_n 1 (pr k) s
    obtain ⟨B1, b1, b2, b3⟩ := mw_b1 (q := q) (h01 k) hr (by omega) h
    obtain ⟨B', k1, k2, k3⟩ := ih (k + 1) (wbHigh 1 (pr k) s) B1 (by omega) (by omega) (wbHigh_r _ _ _ hr) (by omega) (MSg_x hB b2) b3
    refine ⟨B', b2.trans k1, by rw [hbA_s]; exact k2, fun Q S' kk => vc_MD_writeSorted_178 _ _ _ _ ?_⟩
    have k4 := k3 Q S' kk
    rw [show ((k + 1 : Nat) : Int) = (k : Int) + 1 by omega] at k4
    rw [show ((16 * j : Nat) : Int) = 16 * (j : Int) by omega, show ((16 * j + 15 : Nat) : Int) = 16 * (j : Int) + 15 by omega] at z3
    rw [w32_of (x := 16 * (j : Int) + 16) (by omega), show w32 (k : Int) = k from w32_of (by omega)]
    refine cNo (by omega) ⟨_, B, z3, cNo (by decide) ⟨_, B, y3, ?_⟩⟩
    rcases h01 k with w | w
    · rw [w] at b1 ⊢
      exact cY (by decide) (vc_MD_writeSorted_227 _ _ _ _ _ ⟨B1, b1, k4⟩)
    · rw [w] at b1 ⊢
      exact cNo (by decide) (vc_MD_writeSorted_227 _ _ _ _ _ ⟨B1, b1, k4⟩)
theorem md_hb2 {x1 : Int} (h01 : ∀ k : Int, pr k = 0 ∨ pr k = 1) : ∀ (v j : Nat) (s : Wb) (B : ms), j + v = 16 → wbR 1 s → s.1.1 + 16 * v < 800000000 → MSg B (sgS pr 256) → MBt B 1 s → ∃ B', EX XWb B B' ∧ MBt B' 1 (hbB pr (gbF pr) j v s) ∧ ∀ (Q : Option Value) (S' : ms), EV q 321 244 [some (.ref 367), some (vI x1), some (vI (sgS pr 256).1), some (vI 0), none, none, none] [] B' Q S' → EV q 321 166 [some (.ref 367), some (vI x1), some (vI (sgS pr 256).1), some (vI j), none, none, none] [] B Q S' := by
  intro v
  induction v with
  | zero =>
    intro j s B hj hr hs hB h
    have e : j = 16 := by omega
    subst e
    exact ⟨B, EX.refl _ B, h, fun Q S' k => vc_MD_writeSorted_166 _ _ _ (cY (by decide) k)⟩
  | succ v ih =>
    intro j s B hj hr hs hB h
    have g := gbF_1 (pr := pr) (s := j) (by omega)
    have wj : Unit → w32 (j : Int) = j := fun _ => w32_of (by omega)
    rw [hbB_s]
    by_cases c : gbF pr j = 1
    · rw [if_pos c]
      have a := hbA_r (fun k => pr k) 16 (16 * j) s hr
      obtain ⟨B1, b1, b2, b3⟩ := md_hbi (q := q) (x1 := x1) (j := j) (by omega) c h01 16 (16 * j) s B (by omega) (Nat.le_refl _) hr (by omega) hB h
      obtain ⟨B', k1, k2, k3⟩ := ih (j + 1) _ B1 (by omega) a.1 (by omega) (MSg_x hB b1) b2
      refine ⟨B', b1.trans k1, k2, fun Q S' k => vc_MD_writeSorted_166 _ _ _ ?_⟩
      have k4 := k3 Q S' k
      rw [show ((j + 1 : Nat) : Int) = (j : Int) + 1 by omega] at k4
      have k5 := b3 Q S' k4
      rw [show ((16 * j : Nat) : Int) = 16 * (j : Int) by omega] at k5
      rw [wj ()]
      exact cNo (by omega) k5
    · rw [if_neg c]
      obtain ⟨B', k1, k2, k3⟩ := ih (j + 1) s B (by omega) hr (by omega) hB h
      refine ⟨B', k1, k2, fun Q S' k => vc_MD_writeSorted_166 _ _ _ ?_⟩
      have k4 := k3 Q S' k
      rw [show ((j + 1 : Nat) : Int) = (j : Int) + 1 by omega] at k4
      obtain ⟨z, z1, z2, z3⟩ := md_hs (q := q) (lo := 16 * j) (hi := 16 * j + 15) h01 (by omega) hB
      have z0 : z = 0 := by
        rcases z1 with y | y
        · exact y
        · obtain ⟨v, v1, v2, v3⟩ := z2.1 y
          exact absurd (g.2.1.2 ⟨v, by omega, by omega, v3⟩) c
      rw [z0, show ((16 * j : Nat) : Int) = 16 * (j : Int) by omega, show ((16 * j + 15 : Nat) : Int) = 16 * (j : Int) + 15 by omega] at z3
      rw [wj ()]
      refine cNo (by omega) (vc_MD_writeSorted_178 _ _ _ _ ?_)
      rw [w32_of (x := 16 * (j : Int) + 16) (by omega), w32_of (x := 16 * (j : Int)) (by omega)]
      exact cNo (by omega) ⟨_, B, z3, cY (by decide) (vc_MD_writeSorted_236 _ _ _ _ k4)⟩
theorem bA_nat {X Y : Nat} (hX : X < 4294967296) (hY : Y < 4294967296) : bA (X : Int) (Y : Int) = ((X &&& Y : Nat) : Int) := by
  unfold bA
  rw [show ((X : Int) % 4294967296).toNat = X by omega, show ((Y : Int) % 4294967296).toNat = Y by omega]
/-- the class: X & 0x8000 >> j -/
theorem bA_15 {j : Nat} (hj : j < 16) : w32 (bA ((sxN pr 256 : Nat) : Int) (w32 32768 / ((2 : Int) ^ ((j : Int) % 32).toNat))) = 0 ↔ gbF pr j = 0 := by
  have sx := (sxN_b pr 256 (Nat.le_refl _)).1
  have e16 : 2 ^ 16 = 65536 := by decide
  have p := p15 ⟨j, hj⟩
  have p' : w32 32768 / (2 : Int) ^ j = ((2 ^ (15 - j) : Nat) : Int) := p
  have l : 2 ^ (15 - j) < 2 ^ 16 := Nat.pow_lt_pow_right (by decide) (by omega)
  rw [show ((j : Int) % 32).toNat = j by omega, p']
  have eb : bA ((sxN pr 256 : Nat) : Int) ((2 ^ (15 - j) : Nat) : Int) = ((sxN pr 256 &&& 2 ^ (15 - j) : Nat) : Int) := bA_nat (by omega) (by omega)
  have le : sxN pr 256 &&& 2 ^ (15 - j) ≤ sxN pr 256 := Nat.and_le_left
  rw [eb, w32_of (by omega)]
  unfold gbF
  by_cases c : (sxN pr 256).testBit (15 - j) = true
  · rw [if_pos c]
    refine ⟨fun y => ?_, fun y => absurd y (by decide)⟩
    have t : (sxN pr 256 &&& 2 ^ (15 - j)).testBit (15 - j) = true := by rw [Nat.testBit_and, c, Nat.testBit_two_pow_self]; rfl
    have z : sxN pr 256 &&& 2 ^ (15 - j) = 0 := by omega
    rw [z, Nat.zero_testBit] at t
    exact absurd t (by decide)
  · rw [if_neg c]
    refine ⟨fun _ => rfl, fun _ => ?_⟩
    have z : sxN pr 256 &&& 2 ^ (15 - j) = 0 := by
      refine Nat.eq_of_testBit_eq (fun i => ?_)
      rw [Nat.testBit_and, Nat.zero_testBit, Nat.testBit_two_pow]
      by_cases e : 15 - j = i
      · rw [← e]
        cases hh : (sxN pr 256).testBit (15 - j) with
        | true => exact absurd hh c
        | false => rfl
      · rw [show decide (15 - j = i) = false from decide_eq_false_iff_not.2 e, Bool.and_false]
    rw [z]
    rfl
theorem cl_hbi {o : Nat} {j : Nat} (ho : isRow o 12000) (o3 : 342 < o) (hj : j < 16) (h01 : ∀ k : Int, pr k = 0 ∨ pr k = 1) : ∀ (v k : Nat) (s : Wb) (A : ms), k + v = 16 * j + 16 → 16 * j ≤ k → wbR 1 s → s.1.1 + v < 800000000 → (∀ k : Int, 0 ≤ k → k < 256 → A.1 104 k = pr k) → CBt A o 12000 s → ∃ A', EX (XRb o) A A' ∧ CBt A' o 12000 (hbA (fun k => pr k) k v s) ∧ ∀ (Q : Option Value) (S' : ms), EV q 100 107 [some (.ref 94), some (.ref o), some (vI (sxN pr 256)), some (vI ((j : Int) + 1)), none] [] A' Q S' → EV q 100 128 [some (.ref 94), some (.ref o), some (vI (sxN pr 256)), some (vI j), some (vI k)] [] A Q S' := by
  intro v
  induction v with
  | zero =>
    intro k s A hk hk0 hr hs h4 h
    refine ⟨A, EX.refl _ A, h, fun Q S' kk => vc_Sorted_signsOut_128 _ _ _ _ _ ho ?_⟩
    rw [w32_of (x := 16 * (j : Int) + 16) (by omega), show w32 (k : Int) = k from w32_of (by omega)]
    exact cY (by omega) (vc_Sorted_signsOut_159 _ _ _ _ ho kk)
  | succ v ih =>
    intro k s A hk hk0 hr hs h4 h
    have p01 := h01 k
    have nn := wbHigh_n 1 (pr k) s
    obtain ⟨A1, b1, b2, b3⟩ := cw_high_bits (q := q) (v := pr k) (n := 1) (by omega) (by decide) ho (by decide) hr (by omega) h
    obtain ⟨A', k1, k2, k3⟩ := ih (k + 1) (wbHigh 1 (pr k) s) A1 (by omega) (by omega) (wbHigh_r _ _ _ hr) (by omega) (fun i i0 i1 => by rw [b2.2 104 i (by unfold XRb; omega)]; exact h4 i i0 i1) b3
    refine ⟨A', b2.trans k1, by rw [hbA_s]; exact k2, fun Q S' kk => vc_Sorted_signsOut_128 _ _ _ _ _ ho ?_⟩
    have k4 := k3 Q S' kk
    rw [show ((k + 1 : Nat) : Int) = (k : Int) + 1 by omega] at k4
    rw [w32_of (x := 16 * (j : Int) + 16) (by omega), show w32 (k : Int) = k from w32_of (by omega), h4 k (by omega) (by omega), w32_of (x := pr k) (by omega)]
    exact cNo (by omega) ⟨by omega, A1, b1, k4⟩
theorem cl_hb2 {o : Nat} (ho : isRow o 12000) (o3 : 342 < o) (h01 : ∀ k : Int, pr k = 0 ∨ pr k = 1) : ∀ (v j : Nat) (s : Wb) (A : ms), j + v = 16 → wbR 1 s → s.1.1 + 16 * v < 800000000 → (∀ k : Int, 0 ≤ k → k < 256 → A.1 104 k = pr k) → CBt A o 12000 s → ∃ A', EX (XRb o) A A' ∧ CBt A' o 12000 (hbB pr (gbF pr) j v s) ∧ EV q 100 107 [some (.ref 94), some (.ref o), some (vI (sxN pr 256)), some (vI j), none] [] A none A' := by
  intro v
  induction v with
  | zero =>
    intro j s A hj hr hs h4 h
    have e : j = 16 := by omega
    subst e
    exact ⟨A, EX.refl _ A, h, vc_Sorted_signsOut_107 _ _ _ _ ho (cY (by decide) ⟨rfl, rfl⟩)⟩
  | succ v ih =>
    intro j s A hj hr hs h4 h
    have g := gbF_1 (pr := pr) (s := j) (by omega)
    have wj : Unit → w32 (j : Int) = j := fun _ => w32_of (by omega)
    have ba := bA_15 (pr := pr) (j := j) (by omega)
    rw [hbB_s]
    by_cases c : gbF pr j = 1
    · rw [if_pos c]
      have a := hbA_r (fun k => pr k) 16 (16 * j) s hr
      obtain ⟨A1, b1, b2, b3⟩ := cl_hbi (q := q) (j := j) ho o3 (by omega) h01 16 (16 * j) s A (by omega) (Nat.le_refl _) hr (by omega) h4 h
      obtain ⟨A', k1, k2, k3⟩ := ih (j + 1) _ A1 (by omega) a.1 (by omega) (fun i i0 i1 => by rw [b1.2 104 i (by unfold XRb; omega)]; exact h4 i i0 i1) b2
      refine ⟨A', b1.trans k1, k2, vc_Sorted_signsOut_107 _ _ _ _ ho ?_⟩
      rw [show ((j + 1 : Nat) : Int) = (j : Int) + 1 by omega] at k3
      have k5 := b3 none A' k3
      rw [show ((16 * j : Nat) : Int) = 16 * (j : Int) by omega] at k5
      rw [wj ()]
      exact cNo (by omega) (cNo (fun y => by have := ba.1 y; omega) k5)
    · rw [if_neg c]
      obtain ⟨A', k1, k2, k3⟩ := ih (j + 1) s A (by omega) hr (by omega) h4 h
      refine ⟨A', k1, k2, vc_Sorted_signsOut_107 _ _ _ _ ho ?_⟩
      rw [show ((j + 1 : Nat) : Int) = (j : Int) + 1 by omega] at k3
      rw [wj ()]
      exact cNo (by omega) (cY (ba.2 (by rcases g.1 with y | y; exact y; exact absurd y c)) (vc_Sorted_signsOut_159 _ _ _ _ ho k3))
end PSig3
