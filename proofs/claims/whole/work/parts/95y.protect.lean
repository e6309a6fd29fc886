/-! protect on both sides: the call -/
section Protect3
variable {q : Nat × (Nat → Int32)} {S T : ms} {a b d : Int}
abbrev XB (a : Nat) (k : Int) : Prop := a = 174 ∨ a = 175 ∨ a = 177 ∨ a = 439 ∨ a = 440 ∨ a = 441 ∨ (a = 173 ∧ (k = 2 ∨ k = 3 ∨ k = 4 ∨ k = 6)) ∨ (a = 367 ∧ (k = 0 ∨ (112 ≤ k ∧ k ≤ 115)))
/-- the size of a part -/
theorem pz_ex {D C : Nat} {n0 : Int} (h0 : 0 ≤ n0 ∧ n0 ≤ 6000) (hD : 1 ≤ D ∧ D ≤ 32) (hC : C ≤ 16) : ∃ y z : Int, Int.tdiv (n0 + D - 1) D = y ∧ (0 ≤ y ∧ y ≤ 6000) ∧ z = max 1 y ∧ (1 ≤ z ∧ z ≤ 6000) ∧ n0 ≤ D * z ∧ 0 ≤ D * z ∧ (D + C) * z ≤ 102000 ∧ D * z ≤ 102000 := by
  have e := Int.tdiv_eq_ediv_of_nonneg (a := n0 + D - 1) (b := (D : Int)) (by omega)
  have h1 := Int.mul_ediv_add_emod (n0 + D - 1) D
  have h2 := Int.emod_nonneg (n0 + D - 1) (b := (D : Int)) (by omega)
  have h3 := Int.emod_lt_of_pos (n0 + D - 1) (b := (D : Int)) (by omega)
  have h4 : 0 ≤ (n0 + D - 1) / (D : Int) := Int.ediv_nonneg (by omega) (by omega)
  generalize (n0 + D - 1) / (D : Int) = y at e h1 h4
  generalize (n0 + D - 1) % (D : Int) = r at h1 h2 h3
  have y6 : y ≤ 6000 := by
    apply Classical.byContradiction
    intro c
    have : (D : Int) * 6001 ≤ D * y := Int.mul_le_mul_of_nonneg_left (by omega) (by omega)
    omega
  have y1 : 1 ≤ n0 → 1 ≤ y := by
    intro c
    apply Classical.byContradiction
    intro c2
    have : y = 0 := by omega
    rw [this, Int.mul_zero] at h1
    omega
  obtain ⟨z, hz⟩ : ∃ z : Int, z = max 1 y := ⟨_, rfl⟩
  have z1 : 1 ≤ z ∧ z ≤ 6000 := by omega
  have zD : n0 ≤ D * z ∧ D * z ≤ 6000 + D - 1 := by
    by_cases c : 1 ≤ n0
    · have : z = y := by have := y1 c; omega
      rw [this]
      omega
    · have e0 : n0 = 0 := by omega
      by_cases cy : 1 ≤ y
      · have : z = y := by omega
        rw [this]
        omega
      · have : z = 1 := by omega
        rw [this]
        omega
  have c16 : (C : Int) * z ≤ 16 * z := Int.mul_le_mul_of_nonneg_right (by omega) (by omega)
  have ex : ((D : Int) + C) * z = D * z + C * z := Int.add_mul _ _ _
  refine ⟨y, z, e, ⟨h4, y6⟩, hz, z1, zD.1, by omega, ?_, by omega⟩
  by_cases cd : D = 1
  · rw [ex]
    have : (D : Int) * z = z := by rw [cd]; exact Int.one_mul z
    omega
  · have : 2 * z ≤ D * z := Int.mul_le_mul_of_nonneg_right (by omega) (by omega)
    rw [ex]
    omega
/-- protect(data, check) -/
theorem op26_ok (ha : -2147483648 ≤ a ∧ a < 2147483648) (hb : -2147483648 ≤ b ∧ b < 2147483648) (h : RT S) (hq : RQ S) (hR : RG S) : op_26 q a b d S (fun T => EX XB S T ∧ (T = wI S 367 0 0 ∨ (RP T ∧ RP2 T))) := by
  have ea : Unit → w32 a = a := fun _ => w32_of ha
  have eb : Unit → w32 b = b := fun _ => w32_of hb
  have x0 : EX XB S (wI S 367 0 0) := (EX.refl _ _).wr (by decide)
  by_cases c1 : 1 ≤ a ∧ a ≤ 32
  · by_cases c2 : 0 ≤ b ∧ b ≤ 16
    · obtain ⟨D, hD⟩ : ∃ D : Nat, a = D := ⟨a.toNat, by omega⟩
      obtain ⟨C, hC⟩ : ∃ C : Nat, b = C := ⟨b.toNat, by omega⟩
      subst hD hC
      obtain ⟨h1, h2, h3⟩ := h
      obtain ⟨n0, en0⟩ : ∃ n0 : Int, S.1 1 1 = n0 := ⟨_, rfl⟩
      rw [en0] at h1 h2 h3
      obtain ⟨y, z, ey, hy, ez, hz, nz, dz0, bz, dz1⟩ := pz_ex (D := D) (C := C) (n0 := n0) h1 (by omega) (by omega)
      have r1 : isRow 1 6000 := ⟨rfl, rfl⟩
      obtain ⟨fl, hfl⟩ : ∃ fl : Int → Int, ∀ k : Int, fl k = if k < n0 then S.1 2 k else 0 := ⟨_, fun _ => rfl⟩
      have flr : ∀ k : Int, 0 ≤ k → 0 ≤ fl k ∧ fl k < 256 := by
        intro k k0
        rw [hfl]
        by_cases c : k < n0
        · rw [if_pos c]
          exact (h3 k k0 c).1
        · rw [if_neg c]
          decide
      obtain ⟨g, hgd⟩ : ∃ g : Nat → Int → Int, ∀ (d : Nat) (i : Int), g d i = fl (d * z + i) := ⟨_, fun _ _ => rfl⟩
      have hg : ∀ (d : Nat) (i : Int), d < D → 0 ≤ i → i < z → 0 ≤ g d i ∧ g d i < 256 := fun d i hd i0 i1 => by
        have m0 := Int.mul_nonneg (a := (d : Int)) (b := z) (by omega) (by omega)
        rw [hgd]
        exact flr _ (by omega)
      -- the class
      obtain ⟨A0, dA0⟩ : ∃ A0 : ms, A0 = wI (wI (wI (wI S 173 6 D) 173 2 C) 173 4 n0) 173 3 z := ⟨_, rfl⟩
      obtain ⟨A1, dA1⟩ : ∃ A1 : ms, A1 = wC A0 174 0 (D * z) (fun k => if k < n0 then A0.1 2 k else 0) := ⟨_, rfl⟩
      have a0 : ∀ (a : Nat) (k : Int), A0.1 a k = if a = 173 ∧ k = 3 then z else if a = 173 ∧ k = 4 then n0 else if a = 173 ∧ k = 2 then (C : Int) else if a = 173 ∧ k = 6 then (D : Int) else S.1 a k := fun _ _ => by rw [dA0]; rfl
      have a1 : ∀ (a : Nat) (k : Int), a ≠ 174 → A1.1 a k = A0.1 a k := fun a k h => by rw [dA1]; exact wC_ne _ _ _ _ h
      have gA1 : ∀ (l : Nat) (i : Int), l < D → 0 ≤ i → i < z → A1.1 174 (l * z + i) = g l i := by
        intro l i hl i0 i1
        have ix := pa_ix (D := D) (z := z) (p := l) (i := i) (by omega) (by omega) i0 i1
        have e : A1.1 174 (l * z + i) = if l * z + i - 0 < n0 then A0.1 2 (l * z + i - 0) else 0 := by
          rw [dA1]
          exact wC_in (f := fun k => if k < n0 then A0.1 2 k else 0) (by omega) (by omega)
        have ea0 : A0.1 2 (l * z + i) = S.1 2 (l * z + i) := by rw [a0, if_neg (by omega), if_neg (by omega), if_neg (by omega), if_neg (by omega)]
        rw [e, Int.sub_zero, hgd, hfl, ea0]
      have R1 : RG A1 := RG_cg hR (fun a k h => by rw [a1 a k (by omega), a0, if_neg (by omega), if_neg (by omega), if_neg (by omega), if_neg (by omega)])
      obtain ⟨A3, kA3, A2, hA2, hA3⟩ := lp_mk2 (q := q) (S := A1) (D := D) (C := C) (z := z) (x2 := D) (x3 := C) (g := g) (rr := none) (P := fun A3 => ∃ A2, PC A1 A2 g D z (D + C) ∧ PE A2 A3 175 177 (vP g D z) (D + C)) (by rw [a1 _ _ (by decide), a0, if_pos ⟨rfl, rfl⟩]) hz (by rw [a1 _ _ (by decide), a0, if_neg (by decide), if_neg (by decide), if_neg (by decide), if_pos ⟨rfl, rfl⟩]) (by omega) (by rw [a1 _ _ (by decide), a0, if_neg (by decide), if_neg (by decide), if_pos ⟨rfl, rfl⟩]) (by omega) bz hg R1 (fun T hT => by
        obtain ⟨T', k1, k2⟩ := lp_mk3 (q := q) (S := T) (D := D) (C := C) (z := z) (x2 := D) (x3 := C) (g := g) (by rw [hT.2.1 _ _ (by decide), a1 _ _ (by decide), a0, if_pos ⟨rfl, rfl⟩]) hz (by rw [hT.2.1 _ _ (by decide), a1 _ _ (by decide), a0, if_neg (by decide), if_neg (by decide), if_neg (by decide), if_pos ⟨rfl, rfl⟩]) (by omega) (by rw [hT.2.1 _ _ (by decide), a1 _ _ (by decide), a0, if_neg (by decide), if_neg (by decide), if_pos ⟨rfl, rfl⟩]) (by omega) bz hg hT.2.2 (D + C) 0 T (by omega) ⟨rfl, fun _ _ _ _ => rfl, fun l hl => absurd hl (by omega)⟩
        exact ⟨T', k1, T, hT, k2⟩) C 0 A1 (by omega) ⟨rfl, fun _ _ _ => rfl, fun l i hl i0 i1 => by
          rw [gA1 l i (by omega) i0 i1]
          unfold cF
          rw [if_pos (by omega)]⟩
      have kA1 := lp_mk1 (q := q) (S := A0) (D := D) (n0 := n0) (z := z) (x2 := D) (x3 := C) (by rw [a0, if_pos ⟨rfl, rfl⟩]) (by rw [a0, if_neg (by decide), if_neg (by decide), if_neg (by decide), if_pos ⟨rfl, rfl⟩]) (by rw [a0, if_neg (by decide), if_pos ⟨rfl, rfl⟩]) h1 ⟨dz0, dz1⟩ (by rw [← dA1]; exact kA3) (D * z).toNat 0 (by omega) (by omega)
      rw [wC_00] at kA1
      have e3 : ∀ (a : Nat) (k : Int), a ≠ 174 → a ≠ 175 → a ≠ 177 → A3.1 a k = A0.1 a k := fun a k h1 h2 h3 => by rw [hA3.2.1 a k h2 h3, hA2.2.1 a k h1, a1 a k h1]
      have e3z : A3.1 173 3 = z := by rw [e3 _ _ (by decide) (by decide) (by decide), a0, if_pos ⟨rfl, rfl⟩]
      have kcls : EV q 224 0 [some (.ref 173), some (.ref 1), some (vI (D : Int)), some (vI (C : Int)), none] [] S none A3 := by
        refine vc_Parts_make _ _ 1 6000 r1 (fun S1 f1 S2 f2 S3 f3 => ?_)
        have m1 : Unit → max (w32 1) (w32 (D : Int)) = D := fun _ => by
          rw [ea (), show w32 1 = 1 by decide]
          omega
        rw [m1 ()] at f1
        have e2 : S2.1 1 1 = n0 := by
          subst f2 f1
          rw [rI_I, if_neg (by decide), rI_I, if_neg (by decide), en0]
        rw [e2] at f3
        have e36 : S3.1 173 6 = D := by
          subst f3 f2 f1
          rw [rI_I, if_neg (by decide), rI_I, if_neg (by decide), rI_I, if_pos ⟨rfl, rfl⟩]
        have e34 : S3.1 173 4 = n0 := by
          subst f3
          rw [rI_I, if_pos ⟨rfl, rfl⟩]
        have ws : w32 (n0 + D - 1) = n0 + D - 1 := w32_of (by omega)
        have wy : w32 y = y := w32_of (by omega)
        rw [e36, e34, ea (), ws, ey, wy, show w32 1 = 1 by decide, ← ez]
        refine ⟨by omega, fun S5 f5 => ?_⟩
        subst f1 f2 f3 f5
        rw [← dA0]
        exact kA1
      -- the reference
      obtain ⟨B4, dB4⟩ : ∃ B4 : ms, B4 = wI (wI (wI (wI (wI (wI A3 367 0 0) 367 112 D) 367 113 C) 367 114 y) 367 114 z) 367 115 n0 := ⟨_, rfl⟩
      have b4 : ∀ (a : Nat) (k : Int), B4.1 a k = if a = 367 ∧ k = 115 then n0 else if a = 367 ∧ k = 114 then z else if a = 367 ∧ k = 114 then y else if a = 367 ∧ k = 113 then (C : Int) else if a = 367 ∧ k = 112 then (D : Int) else if a = 367 ∧ k = 0 then 0 else A3.1 a k := fun _ _ => by rw [dB4]; rfl
      have b4n : ∀ (a : Nat) (k : Int), ¬ (a = 367 ∧ (k = 0 ∨ (112 ≤ k ∧ k ≤ 115))) → B4.1 a k = A3.1 a k := fun a k h => by rw [b4, if_neg (by omega), if_neg (by omega), if_neg (by omega), if_neg (by omega), if_neg (by omega), if_neg (by omega)]
      have b4s : ∀ (a : Nat) (k : Int), 173 ≠ a → a ≠ 174 → a ≠ 175 → a ≠ 177 → ¬ (a = 367 ∧ (k = 0 ∨ (112 ≤ k ∧ k ≤ 115))) → B4.1 a k = S.1 a k := fun a k h0 h1 h2 h3 h4 => by rw [b4n a k h4, e3 a k h1 h2 h3, a0, if_neg (by omega), if_neg (by omega), if_neg (by omega), if_neg (by omega)]
      obtain ⟨B5, dB5⟩ : ∃ B5 : ms, B5 = wC B4 439 0 (D * z) (fun k => b8 (fl k)) := ⟨_, rfl⟩
      have b5 : ∀ (a : Nat) (k : Int), a ≠ 439 → B5.1 a k = B4.1 a k := fun a k h => by rw [dB5]; exact wC_ne _ _ _ _ h
      have R5 : RG B5 := RG_cg hR (fun a k h => by rw [b5 a k (by omega), b4s a k (by omega) (by omega) (by omega) (by omega) (by omega)])
      obtain ⟨T, kT, B6, hB6, hT⟩ := lp_mm2' (q := q) (S := B5) (D := D) (C := C) (z := z) (x1 := D) (g := g) (rr := some (vI z)) (P := fun T => ∃ B6, PM B5 B6 g D z (D + C) ∧ PE B6 T 441 440 (vP g D z) (D + C)) (by rw [b5 _ _ (by decide), b4, if_neg (by decide), if_pos ⟨rfl, rfl⟩]) hz (by rw [b5 _ _ (by decide), b4, if_neg (by decide), if_neg (by decide), if_neg (by decide), if_neg (by decide), if_pos ⟨rfl, rfl⟩]) (by omega) (by omega) bz hg R5 (fun U hU => by
        obtain ⟨T', k1, k2⟩ := lp_mm3' (q := q) (S := U) (D := D) (C := C) (z := z) (g := g) (by rw [hU.2.1 _ _ (by decide), b5 _ _ (by decide), b4, if_neg (by decide), if_pos ⟨rfl, rfl⟩]) hz (by omega) (by omega) bz (fun t ht => by rw [hU.2.1 _ _ (by decide), b5 _ _ (by decide), b4s _ _ (by decide) (by decide) (by decide) (by decide) (by omega)]; exact hq.1 t ht) hg hU.2.2 (D + C) 0 U (by omega) ⟨rfl, fun _ _ _ _ => rfl, fun l hl => absurd hl (by omega)⟩
        exact ⟨T', k1, U, hU, k2⟩) C 0 B5 (by omega) ⟨rfl, fun _ _ _ => rfl, fun l i hl i0 i1 => by
          have ix := pa_ix (D := D) (z := z) (p := l) (i := i) (by omega) (by omega) i0 i1
          have e : B5.1 439 (l * z + i) = b8 (fl (l * z + i - 0)) := by
            rw [dB5]
            exact wC_in (f := fun k => b8 (fl k)) (by omega) (by omega)
          rw [e, Int.sub_zero]
          unfold cF
          rw [if_pos (by omega), hgd]⟩
      have kB1 := lp_mm1' (q := q) (S := B4) (D := D) (n0 := n0) (z := z) (x2 := C) (f := fun k => b8 (fl k)) (by rw [b4, if_neg (by decide), if_pos ⟨rfl, rfl⟩]) (by rw [b4s _ _ (by decide) (by decide) (by decide) (by decide) (by omega), h2]) h1 ⟨dz0, dz1⟩ (fun k k0 k1 => ⟨fun c => by
        show b8 (B4.1 368 k) = b8 (fl k)
        rw [hfl, if_pos c, b4s _ _ (by decide) (by decide) (by decide) (by decide) (by omega), (h3 k k0 c).2, b8_of (b8_rg _)], fun c => by
        show b8 0 = b8 (fl k)
        rw [hfl, if_neg c]⟩) (by rw [← dB5]; exact kT) (D * z).toNat 0 (by omega) (by omega)
      rw [wC_00] at kB1
      have eT : ∀ (a : Nat) (k : Int), a ≠ 439 → a ≠ 440 → a ≠ 441 → T.1 a k = B4.1 a k := fun a k h1 h2 h3 => by rw [hT.2.1 a k h3 h2, hB6.2.1 a k h1, b5 a k h1]
      refine ⟨z, A3, z, T, vc_PH_protect _ _ ?_, vc_MD_protect _ _ (fun S1 f => ?_), rfl, ⟨?_, fun a k hx => ?_⟩, Or.inr ⟨⟨⟨?_, ?_, ?_, ?_⟩, ⟨?_, ?_, ?_, ?_, ?_⟩, fun p p0 p1 => ?_, fun k k0 k1 => ?_⟩, ?_, ?_, fun c => ?_⟩⟩
      · rw [ea (), eb ()]
        exact ⟨fun n => absurd n (by omega), fun _ => ⟨fun n => absurd n (by omega), fun _ => ⟨fun n => absurd n (by omega), fun _ => ⟨fun _ => ⟨A3, kcls, by rw [e3z], rfl⟩, fun n => absurd (by omega) n⟩⟩⟩⟩
      · subst f
        refine ⟨1, _, md_in1 (by rw [ea ()]; exact c1.1) (by rw [ea ()]; exact c1.2), fun n => absurd n (by decide), fun _ => ⟨1, _, md_in1 (by rw [eb ()]; exact c2.1) (by rw [eb ()]; exact c2.2), fun _ S8 f8 S9 f9 => ⟨by rw [ea ()]; omega, fun S11 f11 => ?_⟩, fun n => absurd (by decide) n⟩⟩
        have e2 : S9.1 367 2 = n0 := by
          subst f9 f8
          rw [rI_I, if_neg (by decide), rI_I, if_neg (by decide), rI_I, if_neg (by decide), e3 _ _ (by decide) (by decide) (by decide), a0, if_neg (by decide), if_neg (by decide), if_neg (by decide), if_neg (by decide), h2]
        have ws : w32 (n0 + D - 1) = n0 + D - 1 := w32_of (by omega)
        have wy : w32 y = y := w32_of (by omega)
        rw [e2, ea (), ws, ey] at f11
        have e114 : S11.1 367 114 = y := by
          subst f11
          rw [rI_I, if_pos ⟨rfl, rfl⟩]
        rw [e114, wy]
        have fin : ∀ y0 : Int, y0 = z → EV q 407 69 [some (.ref 367), some (vI (D : Int)), some (vI (C : Int)), none] [vI y0, .ref 367] S11 (some (vI z)) T := by
          intro y0 e0
          refine vc_MD_protect_69 _ _ _ (fun V1 g1 V2 g2 => ?_)
          have e5 : V1.1 367 2 = n0 := by
            subst g1 f11
            rw [rI_I, if_neg (by decide), rI_I, if_neg (by decide), e2]
          rw [e5] at g2
          rw [e0] at g1
          subst f8 f9 f11 g1 g2
          rw [← dB4]
          exact kB1
        exact ⟨fun c => fin y (by omega), fun c => fin 1 (by omega)⟩
      · rw [hT.1, hB6.1, dB5]
        show B4.2 = S.2
        rw [dB4]
        show A3.2 = S.2
        rw [hA3.1, hA2.1, dA1]
        show A0.2 = S.2
        rw [dA0]
        rfl
      · rw [eT a k (by omega) (by omega) (by omega), b4n a k (by omega), e3 a k (by omega) (by omega) (by omega), a0, if_neg (by omega), if_neg (by omega), if_neg (by omega), if_neg (by omega)]
      · rw [eT _ _ (by decide) (by decide) (by decide), eT _ _ (by decide) (by decide) (by decide), b4, if_neg (by decide), if_neg (by decide), if_neg (by decide), if_neg (by decide), if_pos ⟨rfl, rfl⟩, b4n _ _ (by decide), e3 _ _ (by decide) (by decide) (by decide), a0, if_neg (by decide), if_neg (by decide), if_neg (by decide), if_pos ⟨rfl, rfl⟩]
      · rw [eT _ _ (by decide) (by decide) (by decide), eT _ _ (by decide) (by decide) (by decide), b4, if_neg (by decide), if_neg (by decide), if_neg (by decide), if_pos ⟨rfl, rfl⟩, b4n _ _ (by decide), e3 _ _ (by decide) (by decide) (by decide), a0, if_neg (by decide), if_neg (by decide), if_pos ⟨rfl, rfl⟩]
      · rw [eT _ _ (by decide) (by decide) (by decide), eT _ _ (by decide) (by decide) (by decide), b4, if_neg (by decide), if_pos ⟨rfl, rfl⟩, b4n _ _ (by decide), e3z]
      · rw [eT _ _ (by decide) (by decide) (by decide), eT _ _ (by decide) (by decide) (by decide), b4, if_pos ⟨rfl, rfl⟩, b4n _ _ (by decide), e3 _ _ (by decide) (by decide) (by decide), a0, if_neg (by decide), if_pos ⟨rfl, rfl⟩]
      all_goals
        have t6 : T.1 173 6 = D := by rw [eT _ _ (by decide) (by decide) (by decide), b4n _ _ (by decide), e3 _ _ (by decide) (by decide) (by decide), a0, if_neg (by decide), if_neg (by decide), if_neg (by decide), if_pos ⟨rfl, rfl⟩]
        have t2 : T.1 173 2 = C := by rw [eT _ _ (by decide) (by decide) (by decide), b4n _ _ (by decide), e3 _ _ (by decide) (by decide) (by decide), a0, if_neg (by decide), if_neg (by decide), if_pos ⟨rfl, rfl⟩]
        have t3 : T.1 173 3 = z := by rw [eT _ _ (by decide) (by decide) (by decide), b4n _ _ (by decide), e3z]
        have t4 : T.1 173 4 = n0 := by rw [eT _ _ (by decide) (by decide) (by decide), b4n _ _ (by decide), e3 _ _ (by decide) (by decide) (by decide), a0, if_neg (by decide), if_pos ⟨rfl, rfl⟩]
      · rw [t6]
        omega
      · rw [t2]
        omega
      · rw [t3]
        omega
      · rw [t3]
        omega
      · rw [t6, t2, t3]
        exact bz
      · rw [t6, t2] at p1
        obtain ⟨p', ep⟩ : ∃ p' : Nat, p = p' := ⟨p.toNat, by omega⟩
        subst ep
        obtain ⟨v1, v2⟩ := hA3.2.2 p' (by omega)
        obtain ⟨v3, v4⟩ := hT.2.2 p' (by omega)
        rw [eT _ _ (by decide) (by decide) (by decide), b4n _ _ (by omega), v1, v3, v4, eT _ _ (by decide) (by decide) (by decide), b4n _ _ (by omega), v2]
        exact ⟨Or.inl rfl, rfl, rfl⟩
      · rw [t6, t2, t3] at k1
        obtain ⟨p, i, p0, p1, i0, i1, ek⟩ := pa_dec hz.1 k0 k1
        obtain ⟨p', ep⟩ : ∃ p' : Nat, p = p' := ⟨p.toNat, by omega⟩
        subst ep
        have w1 := hA2.2.2 p' i (by omega) i0 i1
        have w2 := hB6.2.2 p' i (by omega) i0 i1
        rw [ek, eT _ _ (by decide) (by decide) (by decide), b4n _ _ (by omega), hA3.2.1 _ _ (by decide) (by decide), w1, hT.2.1 _ _ (by decide) (by decide), w2]
        exact ⟨cF_rg (fun hp => hg p' i hp i0 i1), rfl⟩
      · rw [t4]
        exact h1
      · rw [t4, t6, t3]
        exact nz
      · rw [t6] at c
        omega
    · refine ⟨-2, S, -2, wI S 367 0 0, vc_PH_protect _ _ ?_, vc_MD_protect _ _ (fun S1 f => ?_), rfl, x0, Or.inl rfl⟩
      · rw [ea (), eb ()]
        exact ⟨fun _ => ⟨rfl, rfl⟩, fun _ => ⟨fun _ => ⟨rfl, rfl⟩, fun _ => ⟨fun _ => ⟨rfl, rfl⟩, fun n1 => ⟨fun n2 => absurd ⟨by omega, n2⟩ c2, fun _ => ⟨rfl, rfl⟩⟩⟩⟩⟩
      · subst f
        exact ⟨1, _, md_in1 (by rw [ea ()]; exact c1.1) (by rw [ea ()]; exact c1.2), fun n => absurd n (by decide), fun _ => ⟨0, _, md_in0 (by rw [eb ()]; show b < 0 ∨ 16 < b; omega), fun n => absurd rfl n, fun _ => ⟨rfl, rfl⟩⟩⟩
  · refine ⟨-2, S, -2, wI S 367 0 0, vc_PH_protect _ _ ?_, vc_MD_protect _ _ (fun S1 f => ?_), rfl, x0, Or.inl rfl⟩
    · rw [ea (), eb ()]
      exact ⟨fun _ => ⟨rfl, rfl⟩, fun n1 => ⟨fun _ => ⟨rfl, rfl⟩, fun n2 => absurd ⟨by omega, by omega⟩ c1⟩⟩
    · subst f
      exact ⟨0, _, md_in0 (by rw [ea ()]; show a < 1 ∨ 32 < a; omega), fun _ => ⟨rfl, rfl⟩, fun n => absurd rfl n⟩
end Protect3
