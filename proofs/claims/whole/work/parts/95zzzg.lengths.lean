/-! BLOCKS: the lengths of a block's codes, both sides at once -/
section Len2
variable {q : Nat × (Nat → Int32)} {en : Int}
theorem bl103 {S A : ms} {o n : Nat} {t : Int → Int} {st : Rd} {u x2 x4 s y : Int} (c : st.1 ≠ 0) (hn : n ≤ 316) (hr : rdR en st) (h : CB S A o en t st u) : EV q 138 103 [some (.ref 30), some (.ref 9), some (vI x2), some (vI n), some (vI x4), some (vI s), some (vI y), none, none] [] A none A := by
  have wn : Unit → w32 ((n : Nat) : Int) = n := fun _ => w32_of (by omega)
  have wn1 : Unit → w32 ((n : Int) - 1) = (n : Int) - 1 := fun _ => w32_of (by omega)
  refine vc_Blocks_openLengths_103 _ _ _ _ _ ?_
  rw [wn (), wn1 ()]
  exact ⟨fun _ => ⟨fun _ => vc_Blocks_openLengths_137 _ _ _ _ _ (vc_Blocks_openLengths_138 _ _ _ _ _ _ (bl143 c hr h)), fun _ => ⟨fun _ => vc_Blocks_openLengths_137 _ _ _ _ _ (vc_Blocks_openLengths_138 _ _ _ _ _ _ (bl143 c hr h)), fun z => ⟨by omega, vc_Blocks_openLengths_138 _ _ _ _ _ _ (bl143 c hr h)⟩⟩⟩, fun _ => vc_Blocks_openLengths_138 _ _ _ _ _ _ (bl143 c hr h)⟩
def LnC (q : Nat × (Nat → Int32)) (en : Int) (t : Int → Int) (M : Nat) (l3 : Int → Int) (pc : Nat) (loc : List (Option Value)) (stk : List Value) (n : Nat) (L : Int → Int) (st : Rd) (h : Int) (stf : Rd) (hf : Int) (Lf : Int → Int) : Prop := ∀ (S A : ms) (o : Nat), S.1 9 7 = 0 → RdC S o en t → CodC S 75 19 l3 → (∀ k : Nat, k < n → S.1 89 k = L k) → CB S A o en t st h → ∃ S1 A1, EX (fun a _ => a = 89) S S1 ∧ EV q 138 pc loc stk A none A1 ∧ CB S1 A1 o en t stf hf ∧ (stf.1 = 0 → ∀ k : Nat, k < M → S1.1 89 k = Lf k)
def LnM (q : Nat × (Nat → Int32)) (en : Int) (t : Int → Int) (a b M : Nat) (x3 : Int) (l3 : Int → Int) (pc : Nat) (loc : List (Option Value)) (stk : List Value) (n : Nat) (L : Int → Int) (st : Rd) (h : Int) (stf : Rd) (hf : Int) (Lf : Int → Int) : Prop := ∀ (S B : ms), S.1 367 18 = 0 → RdM S en t → CodM S 389 20 390 20 19 l3 → (∀ k : Nat, k < n → S.1 401 k = L k) → MB S B en st h → ∃ S1 B1, EX (fun a _ => a = 401) S S1 ∧ MB S1 B1 en stf hf ∧ (stf.1 = 0 → ∀ k : Nat, k < M → S1.1 401 k = Lf k) ∧ ∀ (r : Option Value) (T : ms), (stf.1 = 0 → EV q 346 356 [some (.ref 367), some (vI a), some (vI b), some (vI x3), some (vI M), none, none, none, none] [] B1 r T) → (stf.1 ≠ 0 → r = none ∧ T = B1) → EV q 346 pc loc stk B r T
theorem jlen {t l3 : Int → Int} {a b M : Nat} {x3 : Int} (he : 0 ≤ en ∧ en ≤ 6000) (ht : ∀ k : Int, 0 ≤ k → k < en → 0 ≤ t k ∧ t k < 256) (ha : 257 ≤ a ∧ a ≤ 286) (hb : 1 ≤ b ∧ b ≤ 30) (hM : a + b = M) (hl3 : ∀ s : Nat, s < 19 → 0 ≤ l3 s ∧ l3 s ≤ 20) : ∀ (m n i : Nat) (L : Int → Int) (st : Rd) (h : Int), M - n ≤ m → i ≤ n → n ≤ M → rdR en st → hR st h → (∀ k : Nat, k < n → 0 ≤ L k ∧ L k ≤ 15) → ∃ (stf : Rd) (hf : Int) (Lf : Int → Int), (rdR en stf ∧ Fw st stf ∧ hR stf hf) ∧ (stf.1 = 0 → rdP st h ≤ rdP stf hf ∧ ∀ k : Nat, k < M → 0 ≤ Lf k ∧ Lf k ≤ 15) ∧ LnC q en t M l3 5 [some (.ref 30), some (.ref 9), some (vI M), some (vI n), some (vI i), none, none, none, none] [] n L st h stf hf Lf ∧ LnM q en t a b M x3 l3 145 [some (.ref 367), some (vI a), some (vI b), some (vI x3), some (vI n), none, none, none, none] [] n L st h stf hf Lf := by
  have wM : Unit → w32 ((M : Nat) : Int) = M := fun _ => w32_of (by omega)
  have wab : Unit → w32 ((a : Int) + b) = M := fun _ => by rw [w32_of (by omega)]; omega
  have done : ∀ (n i : Nat) (L : Int → Int) (st : Rd) (h : Int), i ≤ n → n ≤ M → rdR en st → hR st h → (∀ k : Nat, k < n → 0 ≤ L k ∧ L k ≤ 15) → (st.1 ≠ 0 ∨ n = M) → ∃ (stf : Rd) (hf : Int) (Lf : Int → Int), (rdR en stf ∧ Fw st stf ∧ hR stf hf) ∧ (stf.1 = 0 → rdP st h ≤ rdP stf hf ∧ ∀ k : Nat, k < M → 0 ≤ Lf k ∧ Lf k ≤ 15) ∧ LnC q en t M l3 5 [some (.ref 30), some (.ref 9), some (vI M), some (vI n), some (vI i), none, none, none, none] [] n L st h stf hf Lf ∧ LnM q en t a b M x3 l3 145 [some (.ref 367), some (vI a), some (vI b), some (vI x3), some (vI n), none, none, none, none] [] n L st h stf hf Lf := by
    intro n i L st h hi hn hr hh hL hd
    by_cases c : st.1 = 0
    · have e : n = M := by
        rcases hd with y | y
        · exact absurd c y
        · exact y
      subst e
      refine ⟨st, h, L, ⟨hr, Fw_r st, hh⟩, fun _ => ⟨Int.le_refl _, hL⟩, fun S A o hS hC hD h8 hA => ?_, fun S B hS hC hD h4 hB => ?_⟩
      · exact ⟨S, A, EX.refl _ S, vc_Blocks_openLengths_5 _ _ _ ⟨fun _ => ⟨rfl, rfl⟩, fun _ => cY (Int.le_refl _) ⟨rfl, rfl⟩⟩, hA, fun _ => h8⟩
      · have kf := md_fine (q := q) hr hB
        rw [if_pos c] at kf
        refine ⟨S, B, EX.refl _ S, hB, fun _ => h4, fun r T y1 y2 => vc_MD_readOwn_145 _ _ _ _ ⟨1, B, kf, cNo (by decide) ?_⟩⟩
        rw [wab (), wM ()]
        exact cY (Int.le_refl _) (y1 c)
    · refine ⟨st, h, L, ⟨hr, Fw_r st, hh⟩, fun y => absurd y c, fun S A o hS hC hD h8 hA => ?_, fun S B hS hC hD h4 hB => ?_⟩
      · exact ⟨S, A, EX.refl _ S, bl5 c hr hA, hA, fun y => absurd y c⟩
      · refine ⟨S, B, EX.refl _ S, hB, fun y => absurd y c, fun r T y1 y2 => ?_⟩
        obtain ⟨e1, e2⟩ := y2 c
        subst e1 e2
        exact ml_told c hr hB
  intro m
  induction m with
  | zero =>
    intro n i L st h hm hi hn hr hh hL
    exact done n i L st h hi hn hr hh hL (Or.inr (by omega))
  | succ m ih =>
    intro n i L st h hm hi hn hr hh hL
    by_cases cd : st.1 ≠ 0 ∨ n = M
    · exact done n i L st h hi hn hr hh hL cd
    have c : st.1 = 0 := Classical.not_not.mp (fun z => cd (Or.inl z))
    have hnM : n < M := by
      have : ¬ n = M := fun z => cd (Or.inr z)
      omega
    have wn : Unit → w32 ((n : Nat) : Int) = n := fun _ => w32_of (by omega)
    have wi : Unit → w32 ((i : Nat) : Int) = i := fun _ => w32_of (by omega)
    have wn1 : Unit → w32 ((n : Int) - 1) = (n : Int) - 1 := fun _ => w32_of (by omega)
    have wMn : Unit → w32 ((M : Int) - n) = (M : Int) - n := fun _ => w32_of (by omega)
    -- how often is known
    have go : ∀ (s v y y' : Int) (st2 : Rd) (h2 : Int), rdR en st2 → hR st2 h2 → (0 ≤ s ∧ s ≤ 18) → (s = 16 → 0 < n ∧ v = L ((n : Int) - 1)) → (s < 16 → v = s) → (16 < s → v = 0) → (st2.1 = 0 → y = y' ∧ 1 ≤ y ∧ y ≤ 200) → ∃ (stf : Rd) (hf : Int) (Lf : Int → Int), (rdR en stf ∧ Fw st2 stf ∧ hR stf hf) ∧ (stf.1 = 0 → rdP st2 h2 ≤ rdP stf hf ∧ ∀ k : Nat, k < M → 0 ≤ Lf k ∧ Lf k ≤ 15) ∧ LnC q en t M l3 87 [some (.ref 30), some (.ref 9), some (vI M), some (vI n), some (vI i), some (vI s), none, none, none] [vI y] n L st2 h2 stf hf Lf ∧ LnM q en t a b M x3 l3 292 [some (.ref 367), some (vI a), some (vI b), some (vI x3), some (vI n), some (vI s), some (vI v), none, none] [vI y'] n L st2 h2 stf hf Lf := by
      intro s v y y' st2 h2 hr2 hh2 hs v16 v15 v17 hy
      have ws : w32 s = s := w32_of (by omega)
      by_cases c2 : st2.1 = 0
      case neg =>
        refine ⟨st2, h2, L, ⟨hr2, Fw_r st2, hh2⟩, fun z => absurd z c2, fun S A o hS hC hD h8 hA => ?_, fun S B hS hC hD h4 hB => ?_⟩
        · obtain ⟨A1, k1, k2⟩ := bl87 (q := q) (n := n) (x2 := M) (x4 := i) (s := s) (y := y) c2 (by omega) hr2 hC.2.2.1 hA
          exact ⟨S, A1, EX.refl _ S, k1, k2, fun z => absurd z c2⟩
        · refine ⟨S, B, EX.refl _ S, hB, fun z => absurd z c2, fun r T y1 y2 => ?_⟩
          obtain ⟨e1, e2⟩ := y2 c2
          subst e1 e2
          have kf := md_fine (q := q) hr2 hB
          rw [if_neg c2] at kf
          exact vc_MD_readOwn_292 _ _ _ _ _ _ _ ⟨0, T, kf, cY (by decide) (vc_MD_readOwn_318 _ _ _ _ _ _ _ (ml321 c2 hr2 hB))⟩
      obtain ⟨ey, hy1, hy2⟩ := hy c2
      subst ey
      obtain ⟨T, eT⟩ : ∃ T : Nat, y = T := ⟨y.toNat, by omega⟩
      subst eT
      have wT : Unit → w32 ((T : Nat) : Int) = T := fun _ => w32_of (by omega)
      have wnT : Unit → w32 ((n : Int) + T) = (n : Int) + T := fun _ => w32_of (by omega)
      by_cases cT : (T : Int) ≤ (M : Int) - n
      case neg =>
        have c3 : (rdTell 9 st2).1 ≠ 0 := rdTell_1 (by decide)
        have hr3 : rdR en (rdTell 9 st2) := rdR_tell hr2 (by decide)
        refine ⟨rdTell 9 st2, h2, L, ⟨hr3, Fw_tellAt, hR_n hh2 Fw_tellAt⟩, fun z => absurd z c3, fun S A o hS hC hD h8 hA => ?_, fun S B hS hC hD h4 hB => ?_⟩
        · obtain ⟨A1, k1, k2⟩ := sb_tell (q := q) (k := 9) hr2 hC.2.2.1 hA
          refine ⟨S, A1, EX.refl _ S, vc_Blocks_openLengths_87 _ _ _ _ _ ?_, k2, fun z => absurd z c3⟩
          rw [wT (), wMn ()]
          exact cNo cT ⟨A1, k1, bl103 c3 (by omega) hr3 k2⟩
        · obtain ⟨B1, k1, k2⟩ := mb_tell (q := q) (k := 9) hr2 he.2 hh2 hB
          have kf := md_fine (q := q) hr2 hB
          rw [if_pos c2] at kf
          refine ⟨S, B1, EX.refl _ S, k2, fun z => absurd z c3, fun r T' y1 y2 => ?_⟩
          obtain ⟨e1, e2⟩ := y2 c3
          subst e1 e2
          refine vc_MD_readOwn_292 _ _ _ _ _ _ _ ⟨1, B, kf, cNo (by decide) ?_⟩
          rw [wnT (), wab ()]
          exact cNo (by omega) ⟨_, k1, vc_MD_readOwn_318 _ _ _ _ _ _ _ (ml321 c3 hr3 k2)⟩
      have hv : 0 ≤ v ∧ v ≤ 15 := by
        by_cases y1 : s < 16
        · have := v15 y1; omega
        · by_cases y2 : s = 16
          · obtain ⟨z1, z2⟩ := v16 y2
            have := hL (n - 1) (by omega)
            rw [show ((n - 1 : Nat) : Int) = (n : Int) - 1 by omega] at this
            omega
          · have := v17 (by omega); omega
      obtain ⟨Lg, eLg⟩ : ∃ Lg : Int → Int, Lg = fun k => if (n : Int) ≤ k then v else L k := ⟨_, rfl⟩
      have g0 : ∀ k : Nat, n ≤ k → Lg k = v := fun k hk => by rw [eLg]; exact if_pos (by omega)
      have g1' : ∀ k : Nat, k < n → Lg k = L k := fun k hk => by rw [eLg]; exact if_neg (by omega)
      obtain ⟨stf, hf, Lf, g1, g2, g3, g4⟩ := ih (n + T) (i + 1) Lg st2 h2 (by omega) (by omega) (by omega) hr2 hh2 (fun k hk => by
        by_cases z : k < n
        · rw [g1' k z]; exact hL k z
        · rw [g0 k (by omega)]; exact hv)
      refine ⟨stf, hf, Lf, g1, g2, fun S A o hS hC hD h8 hA => ?_, fun S B hS hC hD h4 hB => ?_⟩
      · have ho := hC.2.2.1
        have h5 : A.1 9 5 = 0 := by rw [hA.2.1.2.1]; exact c2
        have h89 : ∀ k : Nat, k < n → A.1 89 k = L k := by
          intro k hk
          rw [hA.2.2.2 89 k (by omega) (by omega) (by omega)]
          exact h8 k hk
        obtain ⟨A1, f1, f2, f3, f4⟩ := bl_fill (q := q) (T := T) (v := v) (x2 := M) (x4 := i) (x5 := s) (by omega) T 0 n A (by omega) (by omega) h5
        obtain ⟨S1, s1, s2, s3⟩ := CB_X (X := fun a _ => a = 89) (fun a k z => by omega) hA f1
        have hC1 : RdC S1 o en t := RdC_ey hC s1.ey (fun k => show ¬ (2 : Nat) = 89 by decide)
        obtain ⟨S2, A2, m1, m2, m3, m4⟩ := g3 S1 A1 o (by rw [s1.2 9 7 (show ¬ (9 : Nat) = 89 by decide)]; exact hS) hC1 (CodC_ex hD s1 (fun a k z => by omega)) (fun k hk => by
          rw [s2 89 k rfl]
          by_cases z : k < n
          · rw [f3 k z, g1' k z]; exact h89 k z
          · rw [f2 k (by omega) hk, g0 k (by omega)]) s3
        rw [show ((i + 1 : Nat) : Int) = (i : Int) + 1 by omega] at m2
        have k138 : EV q 138 138 [some (.ref 30), some (.ref 9), some (vI M), some (vI n), some (vI i), some (vI s), some (vI T), none, none] [vI v] A none A2 := vc_Blocks_openLengths_138 _ _ _ _ _ _ (f4 none A2 (vc_Blocks_openLengths_174 _ _ _ _ _ _ _ m2))
        refine ⟨S2, A2, EX.trans s1 m1, vc_Blocks_openLengths_87 _ _ _ _ _ ?_, m3, m4⟩
        rw [wT (), wMn ()]
        refine cY cT (vc_Blocks_openLengths_103 _ _ _ _ _ ?_)
        rw [ws, wn (), wn1 ()]
        by_cases y1 : s < 16
        · rw [v15 y1] at k138
          exact cNo (by omega) k138
        · by_cases y2 : s = 16
          · obtain ⟨z1, z2⟩ := v16 y2
            have e9 : A.1 89 ((n : Int) - 1) = v := by
              have := h89 (n - 1) (by omega)
              rw [show ((n - 1 : Nat) : Int) = (n : Int) - 1 by omega] at this
              rw [this, z2]
            rw [e9]
            exact cY (by omega) (cNN y2 (cNo (by omega) ⟨by omega, k138⟩))
          · rw [v17 (by omega)] at k138
            exact cY (by omega) (cY y2 (vc_Blocks_openLengths_137 _ _ _ _ _ k138))
      · have kf := md_fine (q := q) hr2 hB
        rw [if_pos c2] at kf
        have h19 : B.1 367 19 = 0 := by rw [hB.2.1.2.2.1]; exact c2
        have h40 : ∀ k : Nat, k < n → B.1 401 k = L k := by
          intro k hk
          rw [hB.2.2.2 401 k (by omega) (by omega)]
          exact h4 k hk
        obtain ⟨B1, f1, f2, f3, f4⟩ := ml_fill (q := q) (T := T) (v := v) (x1 := a) (x2 := b) (x3 := x3) (x5 := s) (by omega) T 0 n B (by omega) (by omega) h19
        obtain ⟨S1, s1, s2, s3⟩ := MB_X (X := fun a _ => a = 401) (fun a k z => by omega) hB f1
        have hC1 : RdM S1 en t := RdM_ey hC s1.ey (fun k => show ¬ (368 : Nat) = 401 by decide)
        obtain ⟨S2, B2, m1, m2, m3, m4⟩ := g4 S1 B1 (by rw [s1.2 367 18 (show ¬ (367 : Nat) = 401 by decide)]; exact hS) hC1 (CodM_ex hD s1 (fun a k z => by omega)) (fun k hk => by
          rw [s2 401 k rfl]
          by_cases z : k < n
          · rw [f3 k z, g1' k z]; exact h40 k z
          · rw [f2 k (by omega) hk, g0 k (by omega)]) s3
        refine ⟨S2, B2, EX.trans s1 m1, m2, m3, fun r T' y1 y2 => vc_MD_readOwn_292 _ _ _ _ _ _ _ ⟨1, B, kf, cNo (by decide) ?_⟩⟩
        rw [wnT (), wab ()]
        exact cY (by omega) (vc_MD_readOwn_318 _ _ _ _ _ _ _ (f4 r T' (vc_MD_readOwn_353 _ _ _ _ _ _ _ _ (m4 r T' y1 y2))))
    -- the symbol
    obtain ⟨s, st1, h1, ⟨i1, i2, i3, i4⟩, i5, i6, i7, i8⟩ := jsym (q := q) (hi := 0) (n := 19) he ht (Or.inl rfl) (by decide) hl3 hr hh
    have hc : ∀ (S A : ms) (o : Nat), S.1 9 7 = 0 → RdC S o en t → CodC S 75 19 l3 → CB S A o en t st h → ∃ A1, CB S A1 o en t st1 h1 ∧ ∀ T : ms, (((¬ w32 s = 16) → EV q 138 52 [some (.ref 30), some (.ref 9), some (vI M), some (vI n), some (vI i), some (vI s), none, none, none] [] A1 none T) ∧ ((¬ (¬ w32 s = 16)) → ((¬ w32 (n : Int) = 0) → EV q 138 52 [some (.ref 30), some (.ref 9), some (vI M), some (vI n), some (vI i), some (vI s), none, none, none] [] A1 none T) ∧ ((¬ (¬ w32 (n : Int) = 0)) → ∃ (S4 : ms), EV q 124 0 [some (.ref 9), some (vI 8)] [] A1 none S4 ∧ EV q 138 52 [some (.ref 30), some (.ref 9), some (vI M), some (vI n), some (vI i), some (vI s), none, none, none] [] S4 none T))) → EV q 138 5 [some (.ref 30), some (.ref 9), some (vI M), some (vI n), some (vI i), none, none, none, none] [] A none T := by
      intro S A o hS hC hD hA
      obtain ⟨A1, k1, k2⟩ := i7 S A o 75 hS hC hD hA
      refine ⟨A1, k2, fun T y => vc_Blocks_openLengths_5 _ _ _ ?_⟩
      have h5 : A.1 9 5 = 0 := by rw [hA.2.1.2.1]; exact c
      rw [wM (), wi (), h5]
      refine cNo (by omega) ?_
      refine ⟨fun z => absurd z (by rw [wn ()]; omega), fun _ => cNN (by decide) ⟨s, A1, k1, y⟩⟩
    have hm' : ∀ (S B : ms), S.1 367 18 = 0 → RdM S en t → CodM S 389 20 390 20 19 l3 → MB S B en st h → ∃ B1, MB S B1 en st1 h1 ∧ ∀ (r : Option Value) (T : ms), (((0 ≤ w32 s) → ((¬ w32 s = 16) → EV q 346 201 [some (.ref 367), some (vI a), some (vI b), some (vI x3), some (vI n), some (vI s), none, none, none] [] B1 r T) ∧ ((¬ (¬ w32 s = 16)) → ((¬ w32 (n : Int) = 0) → EV q 346 201 [some (.ref 367), some (vI a), some (vI b), some (vI x3), some (vI n), some (vI s), none, none, none] [] B1 r T) ∧ ((¬ (¬ w32 (n : Int) = 0)) → ∃ (S7 : ms), EV q 337 0 [some (.ref 367), some (vI 8)] [] B1 none S7 ∧ r = none ∧ T = S7))) ∧ ((¬ 0 ≤ w32 s) → r = none ∧ T = B1)) → EV q 346 145 [some (.ref 367), some (vI a), some (vI b), some (vI x3), some (vI n), none, none, none, none] [] B r T := by
      intro S B hS hC hD hB
      obtain ⟨B1, k1, k2⟩ := i8 S B 389 20 390 20 hS hC hD hB
      have kf := md_fine (q := q) hr hB
      rw [if_pos c] at kf
      refine ⟨B1, k2, fun r T y => vc_MD_readOwn_145 _ _ _ _ ⟨1, B, kf, cNo (by decide) ?_⟩⟩
      rw [wab ()]
      exact ⟨fun z => absurd z (by rw [wn ()]; omega), fun _ => ⟨s, B1, k1, y⟩⟩
    by_cases c1 : st1.1 = 0
    case neg =>
      have es := i6 c1
      have ws : w32 s = -1 := by rw [es]; decide
      refine ⟨st1, h1, L, ⟨i1, i2, i3⟩, fun y => absurd y c1, fun S A o hS hC hD h8 hA => ?_, fun S B hS hC hD h4 hB => ?_⟩
      · obtain ⟨A1, k1, k2⟩ := hc S A o hS hC hD hA
        obtain ⟨A2, k3, k4⟩ := bl87 (q := q) (n := n) (x2 := M) (x4 := i) (s := s) (y := 1) c1 (by omega) i1 hC.2.2.1 k1
        refine ⟨S, A2, EX.refl _ S, k2 A2 ?_, k4, fun y => absurd y c1⟩
        rw [ws]
        refine cY (by decide) (vc_Blocks_openLengths_52 _ _ _ _ ?_)
        rw [ws]
        exact cNo (by decide) k3
      · obtain ⟨B1, k1, k2⟩ := hm' S B hS hC hD hB
        refine ⟨S, B1, EX.refl _ S, k1, fun y => absurd y c1, fun r T y1 y2 => k2 r T ?_⟩
        rw [ws]
        exact cNo (by decide) (y2 c1)
    obtain ⟨sr, sp⟩ := i5 c1
    have ws : w32 s = s := w32_of (by omega)
    by_cases c16 : s < 16
    · obtain ⟨stf, hf, Lf, ⟨g1, g2, g3⟩, g4, g5, g6⟩ := go s s 1 1 st1 h1 i1 i3 (by omega) (fun z => absurd c16 (by omega)) (fun _ => rfl) (fun z => absurd c16 (by omega)) (fun _ => ⟨rfl, by decide, by decide⟩)
      refine ⟨stf, hf, Lf, ⟨g1, Fw_t i2 g2, g3⟩, fun y => ⟨by have := (g4 y).1; omega, (g4 y).2⟩, fun S A o hS hC hD h8 hA => ?_, fun S B hS hC hD h4 hB => ?_⟩
      · obtain ⟨A1, k1, k2⟩ := hc S A o hS hC hD hA
        obtain ⟨S2, A2, m1, m2, m3, m4⟩ := g5 S A1 o hS hC hD h8 k1
        refine ⟨S2, A2, m1, k2 A2 ?_, m3, m4⟩
        rw [ws]
        refine cY (by omega) (vc_Blocks_openLengths_52 _ _ _ _ ?_)
        rw [ws]
        exact cNo (by omega) m2
      · obtain ⟨B1, k1, k2⟩ := hm' S B hS hC hD hB
        obtain ⟨S2, B2, m1, m2, m3, m4⟩ := g6 S B1 hS hC hD h4 k1
        refine ⟨S2, B2, m1, m2, m3, fun r T y1 y2 => k2 r T ?_⟩
        rw [ws]
        refine cY (by omega) (cY (by omega) (vc_MD_readOwn_201 _ _ _ _ _ ?_))
        rw [ws]
        refine cY (by omega) (cNo (by omega) (vc_MD_readOwn_233 _ _ _ _ _ _ ?_))
        rw [ws]
        exact cNo (by omega) (m4 r T y1 y2)
    obtain ⟨kb, bs, ekb, ebs⟩ : ∃ (kb : Nat) (bs : Int), ((s = 16 ∧ kb = 2) ∨ (s = 17 ∧ kb = 3) ∨ (s = 18 ∧ kb = 7)) ∧ ((s = 18 ∧ bs = 11) ∨ (s ≠ 18 ∧ bs = 3)) := by
      by_cases y1 : s = 16
      · exact ⟨2, 3, by omega, by omega⟩
      · by_cases y2 : s = 17
        · exact ⟨3, 3, by omega, by omega⟩
        · exact ⟨7, 11, by omega, by omega⟩
    -- the class: 52 to 76
    have k52 : ∀ (A T : ms) (z : Int) (A2 : ms), EV q 123 0 [some (.ref 9), some (vI kb), none, none, none] [] A (some (vL z)) A2 → EV q 138 87 [some (.ref 30), some (.ref 9), some (vI M), some (vI n), some (vI i), some (vI s), none, none, none] [vI (bs + z)] A2 none T → EV q 138 52 [some (.ref 30), some (.ref 9), some (vI M), some (vI n), some (vI i), some (vI s), none, none, none] [] A none T := by
      intro A T z A2 k1 k2
      have k78 : EV q 78 0 [some (vI s)] [] A (some (vI kb)) A := by
        refine vc_Blocks_stepBits _ ?_
        rw [ws]
        rcases ekb with ⟨y1, y2⟩ | ⟨y1, y2⟩ | ⟨y1, y2⟩
        · rw [y2]; exact cY (by omega) (cNN y1 ⟨rfl, rfl⟩)
        · rw [y2]; exact cY (by omega) (cY (by omega) (cNN y1 ⟨rfl, rfl⟩))
        · rw [y2]; exact cY (by omega) (cY (by omega) (cY (by omega) ⟨rfl, rfl⟩))
      have k76 : EV q 138 76 [some (.ref 30), some (.ref 9), some (vI M), some (vI n), some (vI i), some (vI s), none, none, none] [vI bs] A none T := vc_Blocks_openLengths_76 _ _ _ _ _ ⟨kb, A, k78, z, A2, k1, k2⟩
      refine vc_Blocks_openLengths_52 _ _ _ _ ?_
      rw [ws]
      rcases ebs with ⟨y1, y2⟩ | ⟨y1, y2⟩
      · rw [y2] at k76; exact cY (by omega) (cNN y1 k76)
      · rw [y2] at k76; exact cY (by omega) (cY y1 k76)
    by_cases c0 : s = 16 ∧ n = 0
    · have c3 : (rdTell 8 st1).1 ≠ 0 := rdTell_1 (by decide)
      have hr3 : rdR en (rdTell 8 st1) := rdR_tell i1 (by decide)
      have hh3 : hR (rdTell 8 st1) h1 := hR_n i3 Fw_tellAt
      obtain ⟨z, z', st', h', ⟨f1, f2, f3, f4⟩, fR, f5, f6, f7⟩ := jbitsR0 (q := q) (hi := 0) he.2 ht (Or.inl rfl) (n := kb) (by omega) hr3 hh3
      have e' := f2.1 c3
      have wz : w32 (n : Int) = 0 := by rw [wn ()]; omega
      refine ⟨rdTell 8 st1, h1, L, ⟨hr3, Fw_t i2 Fw_tellAt, hh3⟩, fun y => absurd y c3, fun S A o hS hC hD h8 hA => ?_, fun S B hS hC hD h4 hB => ?_⟩
      · obtain ⟨A1, k1, k2⟩ := hc S A o hS hC hD hA
        obtain ⟨A2, k3, k4⟩ := sb_tell (q := q) (k := 8) i1 hC.2.2.1 k1
        obtain ⟨A3, k5, k6⟩ := f6 S A2 o hS hC k4
        rw [e'] at k6
        obtain ⟨A4, k7, k8⟩ := bl87 (q := q) (n := n) (x2 := M) (x4 := i) (s := s) (y := bs + z) c3 (by omega) hr3 hC.2.2.1 k6
        refine ⟨S, A4, EX.refl _ S, k2 A4 ?_, CB_told c3 k8, fun y => absurd y c3⟩
        rw [ws]
        exact cNN c0.1 (cNN wz ⟨A2, k3, k52 A2 A4 z A3 k5 k7⟩)
      · obtain ⟨B1, k1, k2⟩ := hm' S B hS hC hD hB
        obtain ⟨B2, k3, k4⟩ := mb_tell (q := q) (k := 8) i1 he.2 i3 k1
        refine ⟨S, B2, EX.refl _ S, k4, fun y => absurd y c3, fun r T y1 y2 => k2 r T ?_⟩
        rw [ws]
        exact cY (by omega) (cNN c0.1 (cNN wz ⟨B2, k3, y2 c3⟩))
    obtain ⟨z, z', st2, h2, ⟨f1, f2, f3, f4⟩, fR, f5, f6, f7⟩ := jbitsR0 (q := q) (hi := 0) he.2 ht (Or.inl rfl) (n := kb) (by omega) i1 i3
    have pk : (2 : Int) ^ kb ≤ 128 := by
      rcases ekb with ⟨_, y⟩ | ⟨_, y⟩ | ⟨_, y⟩
      · rw [y]; decide
      · rw [y]; decide
      · rw [y]; decide
    obtain ⟨v, v16, v17⟩ : ∃ v : Int, (s = 16 → v = L ((n : Int) - 1)) ∧ (16 < s → v = 0) := by
      by_cases y : s = 16
      · exact ⟨L ((n : Int) - 1), fun _ => rfl, fun z => by omega⟩
      · exact ⟨0, fun z => absurd z y, fun _ => rfl⟩
    obtain ⟨stf, hf, Lf, ⟨g1, g2, g3⟩, g4, g5, g6⟩ := go s v (bs + z) (bs + z') st2 h2 f1 f3 (by omega) (fun y => ⟨by omega, v16 y⟩) (fun y => absurd y c16) v17 (fun y => by have := (f5 y).1; have := fR.1; omega)
    refine ⟨stf, hf, Lf, ⟨g1, Fw_t i2 (Fw_t f2 g2), g3⟩, fun y => ⟨by have := (g4 y).1; have := (f5 (Fw_z g2 y)).2.2; omega, (g4 y).2⟩, fun S A o hS hC hD h8 hA => ?_, fun S B hS hC hD h4 hB => ?_⟩
    · obtain ⟨A1, k1, k2⟩ := hc S A o hS hC hD hA
      obtain ⟨A2, k3, k4⟩ := f6 S A1 o hS hC k1
      obtain ⟨S2, A3, m1, m2, m3, m4⟩ := g5 S A2 o hS hC hD h8 k4
      have k5 := k52 A1 A3 z A2 k3 m2
      refine ⟨S2, A3, m1, k2 A3 ?_, m3, m4⟩
      rw [ws]
      by_cases y : s = 16
      · exact cNN y (cY (by rw [wn ()]; omega) k5)
      · exact cY y k5
    · obtain ⟨B1, k1, k2⟩ := hm' S B hS hC hD hB
      obtain ⟨B2, k3, k4⟩ := f7 S B1 hS hC k1
      obtain ⟨S2, B3, m1, m2, m3, m4⟩ := g6 S B2 hS hC hD h4 k4
      refine ⟨S2, B3, m1, m2, m3, fun r T y1 y2 => k2 r T ?_⟩
      have k292 := m4 r T y1 y2
      have k233 : EV q 346 233 [some (.ref 367), some (vI a), some (vI b), some (vI x3), some (vI n), some (vI s), none, none, none] [vI v] B1 r T := by
        refine vc_MD_readOwn_233 _ _ _ _ _ _ ?_
        rw [ws]
        rcases ekb with ⟨w1, w2⟩ | ⟨w1, w2⟩ | ⟨w1, w2⟩
        · rw [w2] at k3
          rw [show bs = 3 by omega] at k292
          exact cY (by omega) (cNN w1 ⟨z', B2, k3, k292⟩)
        · rw [w2] at k3
          rw [show bs = 3 by omega] at k292
          exact cY (by omega) (cY (by omega) (cNN w1 ⟨z', B2, k3, k292⟩))
        · rw [w2] at k3
          rw [show bs = 11 by omega] at k292
          exact cY (by omega) (cY (by omega) (cY (by omega) ⟨z', B2, k3, k292⟩))
      have k201 : EV q 346 201 [some (.ref 367), some (vI a), some (vI b), some (vI x3), some (vI n), some (vI s), none, none, none] [] B1 r T := by
        refine vc_MD_readOwn_201 _ _ _ _ _ ?_
        rw [ws, wn1 ()]
        by_cases y : s = 16
        · have e9 : B1.1 401 ((n : Int) - 1) = v := by
            rw [k1.2.2.2 401 _ (by omega) (by omega)]
            have := h4 (n - 1) (by omega)
            rw [show ((n - 1 : Nat) : Int) = (n : Int) - 1 by omega] at this
            rw [this, v16 y]
          rw [e9]
          exact cNN y ⟨by omega, k233⟩
        · rw [v17 (by omega)] at k233
          exact cY y (cY (by omega) k233)
      rw [ws]
      by_cases y : s = 16
      · exact cY (by omega) (cNN y (cY (by rw [wn ()]; omega) k201))
      · exact cY (by omega) (cY y k201)
end Len2
