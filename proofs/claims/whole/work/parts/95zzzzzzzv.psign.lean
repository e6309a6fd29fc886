/-! pack: SORTED; signs on both sides -/
section PSig2
variable {q : Nat × (Nat → Int32)} {n : Nat} {u w : Nat → Int} {pr : Int → Int}
theorem bO_nat {X Y : Nat} (hX : X < 4294967296) (hY : Y < 4294967296) : bO (X : Int) (Y : Int) = ((X ||| Y : Nat) : Int) := by
  unfold bO
  rw [show ((X : Int) % 4294967296).toNat = X by omega, show ((Y : Int) % 4294967296).toNat = Y by omega]
theorem p15 : ∀ s : Fin 16, w32 32768 / (2 : Int) ^ s.val = ((2 ^ (15 - s.val) : Nat) : Int) := by decide
theorem cl_sg1 {a1 na1 : Nat} (ha : isRow a1 na1) (hn : n ≤ 2500) (hw : ∀ i : Nat, i < n → 0 ≤ w i ∧ w i < 256) : ∀ (v i : Nat) (A : ms), i + v = n → A.1 94 1 = n → (∀ j : Nat, j < n → A.1 101 j = w j) → (∀ k : Int, 0 ≤ k → k < 256 → A.1 104 k = prF w i k) → ∃ A', EX (fun a _ => a = 104) A A' ∧ (∀ k : Int, 0 ≤ k → k < 256 → A'.1 104 k = prF w n k) ∧ ∀ (Q : Option Value) (S' : ms), EV q 100 45 [some (.ref 94), some (.ref a1), some (vI 0), some (vI 0), none] [] (wI A' 94 9 0) Q S' → EV q 100 10 [some (.ref 94), some (.ref a1), some (vI i), none, none] [] A Q S' := by
  have wn : Unit → w32 (n : Int) = n := fun _ => w32_of (by omega)
  intro v
  induction v with
  | zero =>
    intro i A hi h1 h101 h
    have e : i = n := by omega
    subst e
    refine ⟨A, EX.refl _ A, h, fun Q S' k => vc_Sorted_signsOut_10 _ _ _ ha ?_⟩
    rw [h1]
    exact cY (Int.le_refl _) (fun S1 q1 => by rw [q1]; exact k)
  | succ v ih =>
    intro i A hi h1 h101 h
    have wi := hw i (by omega)
    obtain ⟨A', g1, g2, g3⟩ := ih (i + 1) (wI A 104 (w i) 1) (by omega) (by rw [wI_no _ (by omega)]; exact h1) (fun j hj => by rw [wI_no _ (by omega)]; exact h101 j hj) (fun k k0 k1 => by
      rw [prF_s]
      by_cases e : w i = k
      · rw [if_pos e, e, wI_at]
      · rw [if_neg e, wI_no _ (fun z => e z.2.symm)]
        exact h k k0 k1)
    refine ⟨A', ((EX.refl _ A).wr rfl).trans g1, g2, fun Q S' k => vc_Sorted_signsOut_10 _ _ _ ha ?_⟩
    have g4 := g3 Q S' k
    rw [show ((i + 1 : Nat) : Int) = (i : Int) + 1 by omega] at g4
    rw [h1, wn (), show w32 (i : Int) = i from w32_of (by omega), h101 i (by omega), w32_of (x := w i) (by omega)]
    exact cNo (by omega) ⟨by omega, by omega, fun S4 q4 => by rw [q4]; exact g4⟩
def CSg (A : ms) (s : Rst) : Prop := A.1 94 9 = s.1 ∧ ∀ j : Nat, j < s.1 → A.1 102 j = s.2 j
def XSg (a : Nat) (k : Int) : Prop := a = 102 ∨ (a = 94 ∧ k = 9)
theorem cl_sg2 {a1 na1 : Nat} (ha : isRow a1 na1) (h01 : ∀ k : Int, pr k = 0 ∨ pr k = 1) : ∀ (v k : Nat) (A : ms), k + v = 256 → (∀ j : Int, 0 ≤ j → j < 256 → A.1 104 j = pr j) → CSg A (sgS pr k) → ∃ A', EX XSg A A' ∧ CSg A' (sgS pr 256) ∧ ∀ (Q : Option Value) (S' : ms), EV q 100 45 [some (.ref 94), some (.ref a1), some (vI (sxN pr 256)), some (vI 256), none] [] A' Q S' → EV q 100 45 [some (.ref 94), some (.ref a1), some (vI (sxN pr k)), some (vI k), none] [] A Q S' := by
  intro v
  induction v with
  | zero =>
    intro k A hk h4 h
    have e : k = 256 := by omega
    subst e
    exact ⟨A, EX.refl _ A, h, fun Q S' kk => kk⟩
  | succ v ih =>
    intro k A hk h4 h
    have sm' := sgS_m pr k
    have sx := (sxN_b pr k (by omega)).1
    have wk : Unit → w32 (k : Int) = k := fun _ => w32_of (by omega)
    have e4 := h4 k (by omega) (by omega)
    by_cases c : pr k = 1
    · have es : sgS pr (k + 1) = rPut k (sgS pr k) := by rw [sgS_s, if_pos c]
      have ex : sxN pr (k + 1) = sxN pr k ||| 2 ^ (15 - k / 16) := by rw [sxN_s, if_pos c]
      obtain ⟨s, ess⟩ : ∃ s, s = sgS pr k := ⟨_, rfl⟩
      rw [← ess] at h sm' es
      obtain ⟨A1, e1⟩ : ∃ A1, A1 = wI (wI A 102 s.1 k) 94 9 ((s.1 : Int) + 1) := ⟨_, rfl⟩
      obtain ⟨A', g1, g2, g3⟩ := ih (k + 1) A1 (by omega) (fun j j0 j1 => by rw [e1, wI_no _ (by omega), wI_no _ (by omega)]; exact h4 j j0 j1) (by
        rw [es]
        refine ⟨by rw [e1, wI_at]; show (s.1 : Int) + 1 = ((s.1 + 1 : Nat) : Int); omega, fun j hj => ?_⟩
        have hj' : j < s.1 + 1 := hj
        show A1.1 102 j = if j = s.1 then (k : Int) else s.2 j
        rw [e1, wI_no _ (by omega)]
        by_cases d : j = s.1
        · rw [if_pos d, d, wI_at]
        · rw [if_neg d, wI_no _ (by omega)]
          exact h.2 j (by omega))
      refine ⟨A', EX.trans (by rw [e1]; exact ((EX.refl _ A).wr (Or.inl rfl)).wr (Or.inr ⟨rfl, rfl⟩)) g1, g2, fun Q S' kk => vc_Sorted_signsOut_45 _ _ _ _ ha ?_⟩
      have g4 := g3 Q S' kk
      rw [show ((k + 1 : Nat) : Int) = (k : Int) + 1 by omega, ex] at g4
      rw [wk (), e4, c, h.1, show w32 (s.1 : Int) = s.1 from w32_of (by omega), show w32 1 = 1 by decide]
      refine cNo (by omega) ⟨by omega, cNo (by decide) ⟨by omega, fun S5 q5 S6 q6 => vc_Sorted_signsOut_91 _ _ _ _ ha ?_⟩⟩
      have e3 : S5.1 94 9 = s.1 := by rw [q5, wI_no _ (by omega)]; exact h.1
      rw [e3, q5, ← e1] at q6
      rw [q6]
      have eb : bO ((sxN pr k : Nat) : Int) (w32 32768 / ((2 : Int) ^ ((Int.tdiv (k : Int) (w32 16)) % 32).toNat)) = ((sxN pr k ||| 2 ^ (15 - k / 16) : Nat) : Int) := by
        rw [show w32 16 = 16 by decide, Int.tdiv_eq_ediv_of_nonneg (by omega), show ((k : Int) / 16 % 32).toNat = k / 16 by omega]
        have p := p15 ⟨k / 16, by omega⟩
        have p' : w32 32768 / (2 : Int) ^ (k / 16) = ((2 ^ (15 - k / 16) : Nat) : Int) := p
        have l : 2 ^ (15 - k / 16) < 2 ^ 16 := Nat.pow_lt_pow_right (by decide) (by omega)
        have e16 : 2 ^ 16 = 65536 := by decide
        rw [p']
        exact bO_nat (by omega) (by omega)
      rw [eb]
      exact g4
    · have c0 : pr k = 0 := by rcases h01 k with y | y; exact y; exact absurd y c
      have es : sgS pr (k + 1) = sgS pr k := by rw [sgS_s, if_neg c]
      have ex : sxN pr (k + 1) = sxN pr k := by rw [sxN_s, if_neg c]
      obtain ⟨A', g1, g2, g3⟩ := ih (k + 1) A (by omega) h4 (by rw [es]; exact h)
      refine ⟨A', g1, g2, fun Q S' kk => vc_Sorted_signsOut_45 _ _ _ _ ha ?_⟩
      have g4 := g3 Q S' kk
      rw [show ((k + 1 : Nat) : Int) = (k : Int) + 1 by omega, ex] at g4
      rw [wk (), e4, c0, show w32 0 = 0 by decide]
      exact cNo (by omega) ⟨by omega, cY (by decide) (vc_Sorted_signsOut_91 _ _ _ _ ha g4)⟩
/-- the reference looks for a sign -/
theorem md_is {B : ms} {x1 x2 : Int} {k : Nat} (hn : n ≤ 2500) (hk : k < 256) (hu : ∀ i : Nat, i < n → 0 ≤ u i ∧ u i < 256) (hB : RuM B n u) {Q : Option Value} {S' : ms} (kk : ∀ x5 : Int, EV q 321 100 [some (.ref 367), some (vI x1), some (vI x2), some (vI k), some (vI (prF u n k)), some (vI x5), none] [] B Q S') : ∀ (v i : Nat), i + v = n → EV q 321 58 [some (.ref 367), some (vI x1), some (vI x2), some (vI k), some (vI (prF u i k)), some (vI i), none] [] B Q S' := by
  have wn : Unit → w32 (n : Int) = n := fun _ => w32_of (by omega)
  have mono : ∀ i : Nat, i ≤ n → prF u i k = 1 → prF u n k = 1 := fun i hi y => by
    obtain ⟨j, j1, j2⟩ := prF_1.1 y
    exact prF_1.2 ⟨j, by omega, j2⟩
  intro v
  induction v with
  | zero =>
    intro i hi
    have e : i = n := by omega
    subst e
    refine vc_MD_writeSorted_58 _ _ _ _ _ ?_
    rw [hB.1]
    exact cY (Int.le_refl _) (kk _)
  | succ v ih =>
    intro i hi
    have ui := hu i (by omega)
    have g := ih (i + 1) (by omega)
    rw [show ((i + 1 : Nat) : Int) = (i : Int) + 1 by omega, prF_s] at g
    refine vc_MD_writeSorted_58 _ _ _ _ _ ?_
    rw [hB.1, wn (), show w32 (i : Int) = i from w32_of (by omega), hB.2 i (by omega), w32_of (x := u i) (by omega), show w32 (k : Int) = k from w32_of (by omega)]
    refine cNo (by omega) ?_
    rcases prF_01 u k i with p | p
    · rw [p] at g ⊢
      refine cNo (fun y => y (by decide)) ⟨by omega, ?_⟩
      by_cases c : u i = k
      · rw [if_pos c] at g
        exact cNN c (vc_MD_writeSorted_92 _ _ _ _ _ _ g)
      · rw [if_neg c] at g
        exact cY c (vc_MD_writeSorted_92 _ _ _ _ _ _ g)
    · have pn := mono i (by omega) p
      have k1 := kk i
      rw [pn] at k1
      rw [p]
      exact cY (by decide) k1
def MSg (B : ms) (s : Rst) : Prop := ∀ j : Nat, j < s.1 → B.1 409 j = b8 (s.2 j)
theorem md_sgl {x1 : Int} (hn : n ≤ 2500) (hu : ∀ i : Nat, i < n → 0 ≤ u i ∧ u i < 256) : ∀ (v k : Nat) (B : ms), k + v = 256 → RuM B n u → MSg B (sgS (prF u n) k) → ∃ B', EX (fun a _ => a = 409) B B' ∧ MSg B' (sgS (prF u n) 256) ∧ ∀ (Q : Option Value) (S' : ms), EV q 321 124 [some (.ref 367), some (vI x1), some (vI (sgS (prF u n) 256).1), some (vI 0), none, none, none] [] B' Q S' → EV q 321 45 [some (.ref 367), some (vI x1), some (vI (sgS (prF u n) k).1), some (vI k), none, none, none] [] B Q S' := by
  intro v
  induction v with
  | zero =>
    intro k B hk hB h
    have e : k = 256 := by omega
    subst e
    exact ⟨B, EX.refl _ B, h, fun Q S' kk => vc_MD_writeSorted_45 _ _ _ (cY (by decide) kk)⟩
  | succ v ih =>
    intro k B hk hB h
    have sm' := sgS_m (prF u n) k
    have wk : Unit → w32 (k : Int) = k := fun _ => w32_of (by omega)
    obtain ⟨s, ess⟩ : ∃ s, s = sgS (prF u n) k := ⟨_, rfl⟩
    by_cases c : prF u n k = 1
    · have es : sgS (prF u n) (k + 1) = rPut k (sgS (prF u n) k) := by rw [sgS_s, if_pos c]
      rw [← ess] at h sm' es ⊢
      obtain ⟨B1, e1⟩ : ∃ B1, B1 = wI B 409 s.1 (b8 k) := ⟨_, rfl⟩
      obtain ⟨B', g1, g2, g3⟩ := ih (k + 1) B1 (by omega) ⟨by rw [e1, wI_no _ (by omega)]; exact hB.1, fun i hi => by rw [e1, wI_no _ (by omega)]; exact hB.2 i hi⟩ (by
        rw [es]
        intro j hj
        have hj' : j < s.1 + 1 := hj
        show B1.1 409 j = b8 (if j = s.1 then (k : Int) else s.2 j)
        rw [e1]
        by_cases d : j = s.1
        · rw [if_pos d, d, wI_at]
        · rw [if_neg d, wI_no _ (by omega)]
          exact h j (by omega))
      refine ⟨B', EX.trans (by rw [e1]; exact (EX.refl _ B).wr rfl) g1, g2, fun Q S' kk => vc_MD_writeSorted_45 _ _ _ ?_⟩
      have g4 := g3 Q S' kk
      rw [show ((k + 1 : Nat) : Int) = (k : Int) + 1 by omega, es, show (rPut (k : Int) s).1 = s.1 + 1 from rfl, show ((s.1 + 1 : Nat) : Int) = (s.1 : Int) + 1 by omega] at g4
      rw [wk ()]
      refine cNo (by omega) (md_is (q := q) hn (by omega) hu hB (fun x5 => vc_MD_writeSorted_100 _ _ _ _ _ ?_) n 0 (by omega))
      rw [c, show w32 1 = 1 by decide, show w32 (s.1 : Int) = s.1 from w32_of (by omega), b8_i]
      exact cNo (by decide) ⟨by omega, fun S2 q2 => vc_MD_writeSorted_116 _ _ _ _ _ (by rw [q2, ← e1]; exact g4)⟩
    · have c0 : prF u n k = 0 := by rcases prF_01 u k n with y | y; exact y; exact absurd y c
      have es : sgS (prF u n) (k + 1) = sgS (prF u n) k := by rw [sgS_s, if_neg c]
      obtain ⟨B', g1, g2, g3⟩ := ih (k + 1) B (by omega) hB (by rw [es]; exact h)
      refine ⟨B', g1, g2, fun Q S' kk => vc_MD_writeSorted_45 _ _ _ ?_⟩
      have g4 := g3 Q S' kk
      rw [show ((k + 1 : Nat) : Int) = (k : Int) + 1 by omega, es] at g4
      rw [wk ()]
      refine cNo (by omega) (md_is (q := q) hn (by omega) hu hB (fun x5 => vc_MD_writeSorted_100 _ _ _ _ _ ?_) n 0 (by omega))
      rw [c0, show w32 0 = 0 by decide]
      exact cY rfl (vc_MD_writeSorted_116 _ _ _ _ _ g4)
/-- is a sign within -/
theorem md_has {B : ms} {s : Rst} {a b : Int} (hs : s.1 ≤ 256) (hv : ∀ j : Nat, j < s.1 → 0 ≤ s.2 j ∧ s.2 j < 256) (hab : (0 ≤ a ∧ a < 1000) ∧ 0 ≤ b ∧ b < 1000) (hB : MSg B s) : ∃ z : Int, (z = 0 ∨ z = 1) ∧ (z = 1 ↔ ∃ j : Nat, j < s.1 ∧ a ≤ s.2 j ∧ s.2 j ≤ b) ∧ EV q 322 0 [some (.ref 367), some (vI s.1), some (vI a), some (vI b), none, none] [] B (some (vI z)) B := by
  have lp : ∀ (v i : Nat) (z0 : Int), i + v = s.1 → (z0 = 0 ∨ z0 = 1) → (z0 = 1 ↔ ∃ j : Nat, j < i ∧ a ≤ s.2 j ∧ s.2 j ≤ b) → ∃ z : Int, (z = 0 ∨ z = 1) ∧ (z = 1 ↔ ∃ j : Nat, j < s.1 ∧ a ≤ s.2 j ∧ s.2 j ≤ b) ∧ EV q 322 6 [some (.ref 367), some (vI s.1), some (vI a), some (vI b), some (vI z0), some (vI i)] [] B (some (vI z)) B := by
    intro v
    induction v with
    | zero =>
      intro i z0 hi h0 h1
      have e : i = s.1 := by omega
      rw [← e]
      exact ⟨z0, h0, h1, vc_MD_hasSign_6 _ _ _ _ _ (cY (Int.le_refl _) ⟨h0, rfl, rfl⟩)⟩
    | succ v ih =>
      intro i z0 hi h0 h1
      have vi := hv i (by omega)
      have nx : ∀ z1 : Int, (z1 = 1 ∧ (z0 = 1 ∨ (a ≤ s.2 i ∧ s.2 i ≤ b))) ∨ (z1 = 0 ∧ z0 = 0 ∧ ¬ (a ≤ s.2 i ∧ s.2 i ≤ b)) → ∃ z : Int, (z = 0 ∨ z = 1) ∧ (z = 1 ↔ ∃ j : Nat, j < s.1 ∧ a ≤ s.2 j ∧ s.2 j ≤ b) ∧ EV q 322 6 [some (.ref 367), some (vI s.1), some (vI a), some (vI b), some (vI z1), some (vI ((i : Int) + 1))] [] B (some (vI z)) B := fun z1 hz => by
        have := ih (i + 1) z1 (by omega) (by rcases hz with y | y; exact Or.inr y.1; exact Or.inl y.1) (by
          rcases hz with ⟨y1, y2⟩ | ⟨y1, y2, y3⟩
          · refine ⟨fun _ => ?_, fun _ => y1⟩
            rcases y2 with y2 | y2
            · obtain ⟨j, j1, j2⟩ := h1.1 y2
              exact ⟨j, by omega, j2⟩
            · exact ⟨i, by omega, y2⟩
          · refine ⟨fun y => by omega, fun ⟨j, j1, j2⟩ => ?_⟩
            by_cases e : j = i
            · rw [e] at j2; exact absurd j2 y3
            · have := h1.2 ⟨j, by omega, j2⟩
              omega)
        rw [show ((i + 1 : Nat) : Int) = (i : Int) + 1 by omega] at this
        exact this
      have ws : Unit → w32 (s.1 : Int) = s.1 := fun _ => w32_of (by omega)
      rcases h0 with y | y
      · by_cases c : a ≤ s.2 i ∧ s.2 i ≤ b
        · obtain ⟨z, z1, z2, z3⟩ := nx 1 (Or.inl ⟨rfl, Or.inr c⟩)
          refine ⟨z, z1, z2, vc_MD_hasSign_6 _ _ _ _ _ ?_⟩
          rw [ws (), show w32 (i : Int) = i from w32_of (by omega), oct_eq vi (hB i (by omega)), y]
          refine cNo (by omega) (cNN (by decide) ⟨by omega, 1, B, vc_MD_in _ _ _ ?_, cNo (by decide) (vc_MD_hasSign_36 _ _ _ _ _ (vc_MD_hasSign_41 _ _ _ _ _ _ z3))⟩)
          rw [w32_of (x := s.2 i) (by omega), w32_of (x := a) (by omega), w32_of (x := b) (by omega)]
          exact cNo (by omega) (cNo (by omega) ⟨rfl, rfl⟩)
        · obtain ⟨z, z1, z2, z3⟩ := nx 0 (Or.inr ⟨rfl, y, c⟩)
          refine ⟨z, z1, z2, vc_MD_hasSign_6 _ _ _ _ _ ?_⟩
          rw [ws (), show w32 (i : Int) = i from w32_of (by omega), oct_eq vi (hB i (by omega)), y]
          refine cNo (by omega) (cNN (by decide) ⟨by omega, 0, B, vc_MD_in _ _ _ ?_, cY (by decide) (vc_MD_hasSign_41 _ _ _ _ _ _ z3)⟩)
          rw [w32_of (x := s.2 i) (by omega), w32_of (x := a) (by omega), w32_of (x := b) (by omega)]
          by_cases d : s.2 i < a
          · exact cY d ⟨rfl, rfl⟩
          · exact cNo d (cY (by omega) ⟨rfl, rfl⟩)
      · obtain ⟨z, z1, z2, z3⟩ := nx 1 (Or.inl ⟨rfl, Or.inl y⟩)
        refine ⟨z, z1, z2, vc_MD_hasSign_6 _ _ _ _ _ ?_⟩
        rw [ws (), show w32 (i : Int) = i from w32_of (by omega), y]
        exact cNo (by omega) (cY (by decide) (vc_MD_hasSign_36 _ _ _ _ _ (vc_MD_hasSign_41 _ _ _ _ _ _ z3)))
  obtain ⟨z, z1, z2, z3⟩ := lp s.1 0 0 (by omega) (Or.inl rfl) ⟨fun y => absurd y (by decide), fun ⟨j, j1, _⟩ => absurd j1 (by omega)⟩
  exact ⟨z, z1, z2, vc_MD_hasSign _ _ _ z3⟩
/-- one bit -/
theorem wbHigh_1 {b : Int} (hb : b = 0 ∨ b = 1) (s : Wb) : wbHigh 1 b s = wbPh 1 b s := by
  rw [wbHigh_s, wbHigh_0, show b / (2 : Int) ^ 0 % 2 = b by rcases hb with y | y <;> rw [y] <;> decide]
theorem wbHigh_b (n : Nat) (v : Int) (s : Wb) : wbHigh (n + 1) v s = wbHigh n v (wbHigh 1 (v / (2 : Int) ^ n % 2) s) := by
  rw [wbHigh_s, wbHigh_1 (by omega)]
theorem mw_b1 {B : ms} {b : Int} {s : Wb} (hb : b = 0 ∨ b = 1) (hr : wbR 1 s) (hw : s.1.1 < 900000000) (h : MBt B 1 s) : ∃ B', EV q 285 0 [some (.ref 367), some (vI b)] [] B none B' ∧ EX XWb B B' ∧ MBt B' 1 (wbHigh 1 b s) := by
  obtain ⟨B', k1, k2, k3, -⟩ := mw_bit (q := q) hb (Or.inr rfl) hr hw h
  rw [if_neg (by decide)] at k3
  exact ⟨B', k1, k2, by rw [wbHigh_1 hb]; exact k3⟩
end PSig2
