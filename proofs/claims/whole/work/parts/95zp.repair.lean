/-! repair: the checks are made again, and the ends -/
section Again
variable {q : Nat × (Nat → Int32)} {S T : ms} {n D C N : Nat} {z : Int}
/-- the first j checks that are gone are made again -/
def hC (G : Nat → Int → Int) (D : Nat) (gc : Nat → Int) (j p : Nat) (e : Int) : Int := if D ≤ p ∧ p < D + j ∧ gc (p - D) = 1 then ckS G (p - D) D e else G p e
theorem hC_l {G : Nat → Int → Int} {gc : Nat → Int} {j p : Nat} {e : Int} (h : p < D) : hC G D gc j p e = G p e := if_neg (by omega)
theorem hC_rg {G : Nat → Int → Int} (h : fR N z G) (gc : Nat → Int) (j : Nat) : fR N z (hC G D gc j) := by
  intro p e hp e0 e1
  unfold hC
  split
  · exact ckS_rg _ _ _ _
  · exact h p e hp e0 e1
theorem hC_s {G : Nat → Int → Int} {gc : Nat → Int} {j p : Nat} {e : Int} (h : p ≠ D + j ∨ gc j ≠ 1) : hC G D gc (j + 1) p e = hC G D gc j p e := by
  unfold hC
  by_cases y : D ≤ p ∧ p < D + j ∧ gc (p - D) = 1
  · rw [if_pos y, if_pos ⟨y.1, by omega, y.2.2⟩]
  · rw [if_neg y, if_neg]
    intro w
    by_cases c : p = D + j
    · rcases h with h | h
      · exact h c
      · apply h
        have := w.2.2
        rw [c, show D + j - D = j by omega] at this
        exact this
    · exact y ⟨w.1, by omega, w.2.2⟩
theorem hC_n {G : Nat → Int → Int} {gc : Nat → Int} {j : Nat} {e : Int} (h : gc j = 1) : hC G D gc (j + 1) (D + j) e = ckS G j D e := by
  unfold hC
  rw [show D + j - D = j by omega, if_pos ⟨by omega, by omega, h⟩]
theorem ck_geo {j : Nat} (hz : 1 ≤ z) (hj : D + j < N) (hN : (N : Int) * z ≤ 102000) : 0 ≤ ((D : Int) + j) * z ∧ (D : Int) * z ≤ ((D : Int) + j) * z ∧ ((D : Int) + j) * z + z ≤ 102000 := by
  have m1 : ((D : Int) + j + 1) * z ≤ N * z := Int.mul_le_mul_of_nonneg_right (by omega) (by omega)
  rw [Int.add_mul _ 1, Int.one_mul] at m1
  exact ⟨Int.mul_nonneg (by omega) (by omega), Int.mul_le_mul_of_nonneg_right (by omega) (by omega), by omega⟩
/-- the class: nothing is lost any more -/
theorem lp_lst {x1 : Int} : ∀ (t : Nat) (i : Int), 0 ≤ i → i + t = 48 → EV q 235 120 [some (.ref 173), some (vI x1), some (vI i)] [] (wC S 175 0 i (fun _ => 0)) none (wC S 175 0 (48 : Nat) (fun _ => 0)) := by
  intro t
  induction t with
  | zero =>
    intro i h0 hi
    have e : i = (48 : Nat) := by omega
    subst e
    exact vc_Parts_haveAgain_120 _ _ ⟨fun _ => ⟨rfl, rfl⟩, fun n => absurd (by decide) n⟩
  | succ t ih =>
    intro i h0 hi
    have w1 : w32 i = i := w32_of (by omega)
    have gd := wC_gd S 175 0 i (fun _ => 0) h0
    rw [Int.zero_add] at gd
    refine vc_Parts_haveAgain_120 _ _ ?_
    rw [w1]
    refine ⟨fun n => absurd n (by omega), fun _ => ⟨by omega, fun S2 f => ?_⟩⟩
    have f' : S2 = wC S 175 0 (i + 1) (fun _ => 0) := by
      rw [← gd]
      exact f
    subst f'
    exact ih (i + 1) (by omega) (by omega)
/-- the class makes the gone checks again -/
theorem lp_ckc {G : Nat → Int → Int} {gc : Nat → Int} {x1 : Int} (hD32 : D ≤ 32) (hC16 : C ≤ 16) (eN : N = D + C) (hz2 : 1 ≤ z ∧ z ≤ 6000) (hN : (N : Int) * z ≤ 102000) (h6 : S.1 173 6 = D) (h2 : S.1 173 2 = C) (h3 : S.1 173 3 = z) (hgc : ∀ j, j < C → (gc j = 0 ∨ gc j = 1) ∧ S.1 176 ((D : Int) + j) = gc j) (hG : fR N z G) (hR : RG S) : ∀ (t j : Nat) (U : ms), j + t = C → CS S U N z (hC G D gc j) → ∃ V, CS S V N z (hC G D gc C) ∧ EV q 235 85 [some (.ref 173), some (vI x1), some (vI j)] [] U none (wC V 175 0 (48 : Nat) (fun _ => 0)) := by
  intro t
  induction t with
  | zero =>
    intro j U hj hU
    have e : j = C := by omega
    subst e
    have kl := lp_lst (q := q) (S := U) (x1 := x1) 48 0 (by omega) (by omega)
    rw [wC_00] at kl
    refine ⟨U, hU, vc_Parts_haveAgain_85 _ _ ?_⟩
    rw [hU.2.1 173 2 (by decide) (by decide), h2]
    exact ⟨fun _ => kl, fun n => absurd (Int.le_refl _) n⟩
  | succ t ih =>
    intro j U hj hU
    obtain ⟨g1, g2⟩ := hgc j (by omega)
    have geo := ck_geo (D := D) (N := N) (j := j) hz2.1 (by omega) hN
    have z0 : ¬ (C : Int) ≤ j := by omega
    have z1 : 0 ≤ (D : Int) + j ∧ (D : Int) + j < (48 : Nat) := by omega
    have ek : ((j + 1 : Nat) : Int) = (j : Int) + 1 := by omega
    have wg : w32 (gc j) = gc j := w32_of (by omega)
    have wC' : Unit → w32 (C : Int) = C := fun _ => w32_of (by omega)
    have wj' : Unit → w32 (j : Int) = j := fun _ => w32_of (by omega)
    have wD' : Unit → w32 ((D : Int) + j) = D + j := fun _ => w32_of (by omega)
    by_cases c1 : gc j = 1
    · have rng := hC_rg (D := D) hG gc j
      obtain ⟨W, kW, w1, w2, w3⟩ := sp_chk (q := q) (S := U) (j := j) (D := D) (z := z) (to := ((D : Int) + j) * z) (by omega) (by rw [hU.2.1 _ _ (by decide) (by decide), h6]) hD32 (by rw [hU.2.1 _ _ (by decide) (by decide), h3]) (by omega) rfl geo (fun k k0 k1 => by
        obtain ⟨p, i, p0, p1, i0, i1, e⟩ := pa_dec hz2.1 k0 k1
        have := hU.2.2 p.toNat i (by omega) i0 i1
        rw [show ((p.toNat : Nat) : Int) = p by omega] at this
        rw [e, this]
        exact rng p.toNat i (by omega) i0 i1) (RG_cg hR (fun a k h => hU.2.1 a k (by omega) (by omega)))
      have hW : CS S W N z (hC G D gc (j + 1)) := by
        refine ⟨w1.trans hU.1, fun a k h4 h5 => by rw [w2 a k (by omega), hU.2.1 a k h4 h5], fun p e hp e0 e1 => ?_⟩
        by_cases cp : p = D + j
        · subst cp
          rw [show ((D + j : Nat) : Int) = (D : Int) + j by omega, w3 e e0 e1, hC_n c1]
          exact ckS_cg (fun d hd => by
            show U.1 174 (d * z + e) = G d e
            rw [hU.2.2 d e (by omega) e0 e1, hC_l hd])
        · rw [w2 _ _ (fun y => cp (by
            have y1 := y.2.1
            have y2 := y.2.2
            have := pz_inj (p := p) (p' := D + j) (e := e) (e' := (p : Int) * z + e - ((D : Int) + j) * z) hz2.1 e0 e1 (by omega) (by omega) (by
              rw [show ((D + j : Nat) : Int) = (D : Int) + j by omega]
              omega)
            exact this.1)), hU.2.2 p e hp e0 e1, hC_s (Or.inl cp)]
      obtain ⟨V, hV, k1⟩ := ih (j + 1) W (by omega) hW
      rw [ek] at k1
      refine ⟨V, hV, vc_Parts_haveAgain_85 _ _ ?_⟩
      rw [hU.2.1 173 2 (by decide) (by decide), h2, hU.2.1 173 6 (by decide) (by decide), h6, wC' (), wj' (), wD' (), hU.2.1 176 _ (by decide) (by decide), g2, wg]
      exact ⟨fun n => absurd n z0, fun _ => ⟨z1, fun n => absurd n (by omega), fun _ => ⟨W, kW, vc_Parts_haveAgain_112 _ _ k1⟩⟩⟩
    · obtain ⟨V, hV, k1⟩ := ih (j + 1) U (by omega) ⟨hU.1, hU.2.1, fun p e hp e0 e1 => by rw [hU.2.2 p e hp e0 e1, hC_s (Or.inr c1)]⟩
      rw [ek] at k1
      refine ⟨V, hV, vc_Parts_haveAgain_85 _ _ ?_⟩
      rw [hU.2.1 173 2 (by decide) (by decide), h2, hU.2.1 173 6 (by decide) (by decide), h6, wC' (), wj' (), wD' (), hU.2.1 176 _ (by decide) (by decide), g2, wg]
      exact ⟨fun n => absurd n z0, fun _ => ⟨z1, fun _ => vc_Parts_haveAgain_112 _ _ k1, fun n => absurd (by omega) n⟩⟩
/-- nothing is lost any more -/
theorem lp_nl {x1 x2 x3 : Int} (hN48 : N ≤ 48) (hN : S.1 367 112 + S.1 367 113 = N) : ∀ (t p : Nat), p + t = N → EV q 417 165 [some (.ref 367), some (vI x1), some (vI x2), some (vI x3), some (vI p)] [] (wC S 441 0 p (fun _ => 0)) (some (vI x1)) (wC S 441 0 N (fun _ => 0)) := by
  intro t
  induction t with
  | zero =>
    intro p hp
    have e : p = N := by omega
    subst e
    refine vc_MD_repair_165 _ _ _ _ ?_
    rw [wC_ne _ _ _ _ (by decide), wC_ne _ _ _ _ (by decide), hN]
    exact ⟨fun _ => ⟨rfl, rfl⟩, fun n => absurd (Int.le_refl _) n⟩
  | succ t ih =>
    intro p hp
    have z0 : ¬ (N : Int) ≤ p := by omega
    have z1 : 0 ≤ (p : Int) ∧ (p : Int) < (48 : Nat) := by omega
    have gd := wC_gd S 441 0 p (fun _ => 0) (by omega)
    rw [Int.zero_add] at gd
    have ek : (p : Int) + 1 = ((p + 1 : Nat) : Int) := by omega
    have wN : Unit → w32 (N : Int) = N := fun _ => w32_of (by omega)
    have wp : Unit → w32 (p : Int) = p := fun _ => w32_of (by omega)
    refine vc_MD_repair_165 _ _ _ _ ?_
    rw [wC_ne _ _ _ _ (by decide), wC_ne _ _ _ _ (by decide), hN, wN (), wp ()]
    refine ⟨fun n => absurd n z0, fun _ => ⟨z1, fun S2 f => ?_⟩⟩
    have f' : S2 = wC S 441 0 ((p + 1 : Nat) : Int) (fun _ => 0) := by
      rw [← ek, ← gd]
      exact f
    subst f'
    rw [ek]
    exact ih (p + 1) (by omega)
/-- the reference makes the gone checks again -/
theorem lp_ckm {G : Nat → Int → Int} {gc : Nat → Int} {x1 x2 x3 : Int} (hD32 : D ≤ 32) (hC16 : C ≤ 16) (eN : N = D + C) (hz2 : 1 ≤ z ∧ z ≤ 6000) (hN : (N : Int) * z ≤ 102000) (h6 : S.1 367 112 = D) (h2 : S.1 367 113 = C) (h3 : S.1 367 114 = z) (hgc : ∀ j, j < C → (gc j = 0 ∨ gc j = 1) ∧ S.1 442 ((D : Int) + j) = gc j) (hG : fR N z G) (hR : RG S) : ∀ (t j : Nat) (U : ms), j + t = C → MSt S U N z (hC G D gc j) → ∃ V, MSt S V N z (hC G D gc C) ∧ EV q 417 126 [some (.ref 367), some (vI x1), some (vI x2), some (vI x3), some (vI j)] [] U (some (vI x1)) (wC V 441 0 N (fun _ => 0)) := by
  intro t
  induction t with
  | zero =>
    intro j U hj hU
    have e : j = C := by omega
    subst e
    have kn := lp_nl (q := q) (S := U) (N := N) (x1 := x1) (x2 := x2) (x3 := x3) (by omega) (by rw [hU.2.1 367 112 (by decide) (by decide), hU.2.1 367 113 (by decide) (by decide), h6, h2]; omega) N 0 (by omega)
    rw [show ((0 : Nat) : Int) = 0 from rfl, wC_00] at kn
    refine ⟨U, hU, vc_MD_repair_126 _ _ _ _ ?_⟩
    rw [hU.2.1 367 113 (by decide) (by decide), h2]
    exact ⟨fun _ => kn, fun n => absurd (Int.le_refl _) n⟩
  | succ t ih =>
    intro j U hj hU
    obtain ⟨g1, g2⟩ := hgc j (by omega)
    have geo := ck_geo (D := D) (N := N) (j := j) hz2.1 (by omega) hN
    have z0 : ¬ (C : Int) ≤ j := by omega
    have z1 : 0 ≤ (D : Int) + j ∧ (D : Int) + j < (48 : Nat) := by omega
    have ek : ((j + 1 : Nat) : Int) = (j : Int) + 1 := by omega
    have wg : w32 (gc j) = gc j := w32_of (by omega)
    have wC' : Unit → w32 (C : Int) = C := fun _ => w32_of (by omega)
    have wj' : Unit → w32 (j : Int) = j := fun _ => w32_of (by omega)
    have wD' : Unit → w32 ((D : Int) + j) = D + j := fun _ => w32_of (by omega)
    by_cases c1 : gc j = 1
    · obtain ⟨W, kW, w1, w2, w3⟩ := md_chk (q := q) (S := U) (j := j) (D := D) (z := z) (to := ((D : Int) + j) * z) (g := G) (by omega) (by rw [hU.2.1 _ _ (by decide) (by decide), h6]) hD32 (by rw [hU.2.1 _ _ (by decide) (by decide), h3]) (by omega) rfl geo (fun d i hd i0 i1 => by
        have h1 := hG d i (by omega) i0 i1
        refine ⟨h1, oct_eq h1 ?_⟩
        rw [hU.2.2 d i (by omega) i0 i1, hC_l hd]) (RG_cg hR (fun a k h => hU.2.1 a k (by omega) (by omega)))
      have hW : MSt S W N z (hC G D gc (j + 1)) := by
        refine ⟨w1.trans hU.1, fun a k h4 h5 => by rw [w2 a k (by omega), hU.2.1 a k h4 h5], fun p e hp e0 e1 => ?_⟩
        have mc := Int.mul_comm z (p : Int)
        by_cases cp : p = D + j
        · subst cp
          rw [mc, show ((D + j : Nat) : Int) = (D : Int) + j by omega, w3 e e0 e1, hC_n c1]
        · rw [w2 _ _ (fun y => cp (by
            have y1 := y.2.1
            have y2 := y.2.2
            have := pz_inj (p := p) (p' := D + j) (e := e) (e' := (p : Int) * z + e - ((D : Int) + j) * z) hz2.1 e0 e1 (by omega) (by omega) (by
              rw [show ((D + j : Nat) : Int) = (D : Int) + j by omega]
              omega)
            exact this.1)), hU.2.2 p e hp e0 e1, hC_s (Or.inl cp)]
      obtain ⟨V, hV, k1⟩ := ih (j + 1) W (by omega) hW
      rw [ek] at k1
      refine ⟨V, hV, vc_MD_repair_126 _ _ _ _ ?_⟩
      rw [hU.2.1 367 113 (by decide) (by decide), h2, hU.2.1 367 112 (by decide) (by decide), h6, wC' (), wj' (), wD' (), hU.2.1 442 _ (by decide) (by decide), g2, wg]
      exact ⟨fun n => absurd n z0, fun _ => ⟨z1, fun n => absurd n (by omega), fun _ => ⟨W, kW, vc_MD_repair_156 _ _ _ _ k1⟩⟩⟩
    · obtain ⟨V, hV, k1⟩ := ih (j + 1) U (by omega) ⟨hU.1, hU.2.1, fun p e hp e0 e1 => by rw [hU.2.2 p e hp e0 e1, hC_s (Or.inr c1)]⟩
      rw [ek] at k1
      refine ⟨V, hV, vc_MD_repair_126 _ _ _ _ ?_⟩
      rw [hU.2.1 367 113 (by decide) (by decide), h2, hU.2.1 367 112 (by decide) (by decide), h6, wC' (), wj' (), wD' (), hU.2.1 442 _ (by decide) (by decide), g2, wg]
      exact ⟨fun n => absurd n z0, fun _ => ⟨z1, fun _ => vc_MD_repair_156 _ _ _ _ k1, fun n => absurd (by omega) n⟩⟩
end Again
