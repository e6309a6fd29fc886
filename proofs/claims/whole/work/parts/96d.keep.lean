/-! BETWEEN THE CALLS: names, shelf, parts -/
section KpD
variable {q : Nat × (Nat → Int32)} {S T : ms} {a b d m : Int} {sh i : Nat}
theorem KX_N (h : KX i S) (e2 : T.2 = S.2) (hN : RN T) (e : ∀ (a : Nat) (k : Int), a ≠ 5 → a ≠ 6 → ¬ (a = 367 ∧ (k = 0 ∨ k = 103)) → a ≠ 431 → T.1 a k = S.1 a k) : KX (i + 1) T := by
  obtain ⟨h1, h2, h3, h4, h5, ⟨h6, h6'⟩, h7, h8, h9, h10⟩ := KX_mono h
  exact ⟨RT_k h1 (fun a k y => e a k (by omega) (by omega) (by omega) (by omega)), RS_k h2 (fun a k y => e a k (by omega) (by omega) (by omega) (by omega)), RKB_k h3 (fun a k y => e a k (by omega) (by omega) (by omega) (by omega)), hN, KSh_k h5 (by rw [e2]) (by rw [e2]) (fun a k y => e a k (by omega) (by omega) (by omega) (by omega)), ⟨RP_k h6 (fun a k y => e a k (by unfold dP at y; omega) (by unfold dP at y; omega) (by unfold dP at y; omega) (by unfold dP at y; omega)), RP2_k h6' (fun a k y => e a k (by unfold dP at y; omega) (by unfold dP at y; omega) (by unfold dP at y; omega) (by unfold dP at y; omega))⟩, RO_cg h7 (fun a k y => e a k (by omega) (by omega) (by omega) (by omega)), FQ_k h8 (fun a k y => e a k (by omega) (by omega) (by omega) (by omega)), TbK_k h9 (fun a k y => e a k (by omega) (by omega) (by omega) (by omega)), KA_k h10 (fun a k y => e a k (by unfold dA at y; omega) (by unfold dA at y; omega) (by unfold dA at y; omega) (by unfold dA at y; omega))⟩
/-- name -/
theorem kx_16a (h : KX i S) : KX (i + 1) (wI (wI (CL S 5) 367 0 0) 367 103 0) := by
  obtain ⟨T, eT⟩ : ∃ T, T = wI (wI (CL S 5) 367 0 0) 367 103 0 := ⟨_, rfl⟩
  rw [← eT]
  refine KX_N h (by rw [eT]; rfl) ?_ (fun c k y1 y2 y3 y4 => by rw [eT, wI_no _ (by omega), wI_no _ (by omega), CL_n _ y1])
  have e51 : T.1 5 1 = 0 := by rw [eT, wI_no _ (by omega), wI_no _ (by omega), CL_1]
  unfold RN
  rw [e51]
  exact ⟨by decide, by rw [eT, wI_at], fun k k0 k1 => absurd k1 (by omega)⟩
theorem kx_16b {v : Int} (h : KX i S) (d1 : 1 ≤ d) (d8 : d ≤ 8) (hz : ¬ nz v d 0) (hp : S.1 5 1 + d ≤ 100) : KX (i + 1) (HW (wI (RW S 5 (S.1 5 1) d (fun i => ocH v (d - 1 - i))) 367 0 0) (S.1 5 1) d (fun i => ocM v (d - 1 - i))) := by
  obtain ⟨p, ep⟩ : ∃ p, S.1 5 1 = p := ⟨_, rfl⟩
  obtain ⟨t1, t2, t3⟩ := h.2.2.2.1
  rw [ep] at t1 t2 t3 hp ⊢
  obtain ⟨T, eT⟩ : ∃ T, T = HW (wI (RW S 5 p d (fun i => ocH v (d - 1 - i))) 367 0 0) p d (fun i => ocM v (d - 1 - i)) := ⟨_, rfl⟩
  have key : ∀ (a : Nat) (k : Int), T.1 a k = if a = 367 ∧ k = 103 then p + d else if a = 431 ∧ p ≤ k ∧ k < p + d then ocM v (d - 1 - (k - p)) else if a = 367 ∧ k = 0 then 0 else if a = 5 ∧ k = 1 then p + d else if a = 5 + 1 ∧ p ≤ k ∧ k < p + d then ocH v (d - 1 - (k - p)) else S.1 a k := fun a k => by rw [eT]; rfl
  rw [← eT]
  refine KX_N h (by rw [eT]; rfl) ?_ (fun a k y1 y2 y3 y4 => by rw [key, if_neg (by omega), if_neg (by omega), if_neg (by omega), if_neg (by omega), if_neg (by omega)])
  have e11 : T.1 5 1 = p + d := by rw [key, if_neg (by omega), if_neg (by omega), if_neg (by omega), if_pos ⟨rfl, rfl⟩]
  unfold RN
  rw [e11]
  refine ⟨by omega, by rw [key, if_pos ⟨rfl, rfl⟩], fun k k0 k1 => ?_⟩
  by_cases c : p ≤ k
  · rw [key, if_neg (by omega), if_neg (by omega), if_neg (by omega), if_neg (by omega), if_pos ⟨rfl, c, k1⟩, key, if_neg (by omega), if_pos ⟨rfl, c, k1⟩, oc_b8 (by omega) (by omega)]
    have r := ocH_rg v (d - 1 - (k - p))
    have z : ocH v (d - 1 - (k - p)) ≠ 0 := fun y => hz ⟨d - 1 - (k - p), by omega, by omega, y⟩
    exact ⟨⟨by omega, r.2⟩, rfl⟩
  · rw [key, if_neg (by omega), if_neg (by omega), if_neg (by omega), if_neg (by omega), if_neg (by omega), key, if_neg (by omega), if_neg (by omega), if_neg (by omega), if_neg (by omega), if_neg (by omega)]
    exact t3 k k0 (by omega)
/-- wipe -/
theorem kx_23 (h : KX i S) (hs : S.2.2 0 13 = sh) : KX (i + 1) (wI (wI (wI S sh 4 0) 367 0 0) 367 88 0) := by
  obtain ⟨sh', si, g1, g2, g3, g4⟩ := h.2.2.2.2.1
  have es : sh' = sh := by rw [← hs]; exact g3.1.symm
  subst es
  obtain ⟨T, eT⟩ : ∃ T, T = wI (wI (wI S sh' 4 0) 367 0 0) 367 88 0 := ⟨_, rfl⟩
  have e : ∀ (c : Nat) (k : Int), ¬ (c = sh' ∧ k = 4) → ¬ (c = 367 ∧ (k = 0 ∨ k = 88)) → T.1 c k = S.1 c k := fun c k y1 y2 => by rw [eT, wI_no _ (by omega), wI_no _ (by omega), wI_no _ y1]
  rw [← eT]
  have e4 : T.1 sh' 4 = 0 := by rw [eT, wI_no _ (by omega), wI_no _ (by omega), wI_at]
  obtain ⟨h1, h2, h3, h4, h5, ⟨h6, h6'⟩, h7, h8, h9, h10⟩ := KX_mono h
  refine ⟨RT_k h1 (fun a k y => e a k (by omega) (by omega)), RS_k h2 (fun a k y => e a k (by omega) (by omega)), RKB_k h3 (fun a k y => e a k (by omega) (by omega)), RN_k h4 (fun a k y => e a k (by omega) (by omega)), ⟨sh', si, g1, by rw [eT]; exact g2, ⟨by rw [eT]; exact g3.1, g3.2.1, by rw [e4]; decide, by rw [e4, eT, wI_at], fun j hj => by rw [e4] at hj; omega⟩, fun j hj => by rw [e4] at hj; omega⟩, ⟨RP_k h6 (fun a k y => e a k (by unfold dP at y; omega) (by unfold dP at y; omega)), RP2_k h6' (fun a k y => e a k (by unfold dP at y; omega) (by unfold dP at y; omega))⟩, RO_cg h7 (fun a k y => e a k (by omega) (by omega)), FQ_k h8 (fun a k y => e a k (by omega) (by omega)), TbK_k h9 (fun a k y => e a k (by omega) (by omega)), KA_k h10 (fun a k y => e a k (by unfold dA at y; omega) (by unfold dA at y; omega))⟩
/-- parts -/
theorem KX_P (h : KX i S) (e2 : T.2 = S.2) (hP : RP T ∧ RP2 T) (e : ∀ (a : Nat) (k : Int), ¬ (173 ≤ a ∧ a ≤ 181) → ¬ (a = 367 ∧ (k = 0 ∨ (112 ≤ k ∧ k ≤ 115))) → a ≠ 408 → ¬ (439 ≤ a ∧ a ≤ 445) → T.1 a k = S.1 a k) : KX (i + 1) T := by
  obtain ⟨h1, h2, h3, h4, h5, ⟨h6, h6'⟩, h7, h8, h9, h10⟩ := KX_mono h
  exact ⟨RT_k h1 (fun a k y => e a k (by omega) (by omega) (by omega) (by omega)), RS_k h2 (fun a k y => e a k (by omega) (by omega) (by omega) (by omega)), RKB_k h3 (fun a k y => e a k (by omega) (by omega) (by omega) (by omega)), RN_k h4 (fun a k y => e a k (by omega) (by omega) (by omega) (by omega)), KSh_k h5 (by rw [e2]) (by rw [e2]) (fun a k y => e a k (by omega) (by omega) (by omega) (by omega)), hP, RO_cg h7 (fun a k y => e a k (by omega) (by omega) (by omega) (by omega)), FQ_k h8 (fun a k y => e a k (by omega) (by omega) (by omega) (by omega)), TbK_k h9 (fun a k y => e a k (by omega) (by omega) (by omega) (by omega)), KA_k h10 (fun a k y => e a k (by unfold dA at y; omega) (by unfold dA at y; omega) (by unfold dA at y; omega) (by unfold dA at y; omega))⟩
theorem kx_28 (h : KX i S) : KX (i + 1) (wI (wI (wI S 175 a 1) 367 0 0) 441 a 1) := by
  obtain ⟨T, eT⟩ : ∃ T, T = wI (wI (wI S 175 a 1) 367 0 0) 441 a 1 := ⟨_, rfl⟩
  have e : ∀ (c : Nat) (k : Int), ¬ ((c = 175 ∨ c = 441) ∧ k = a) → ¬ (c = 367 ∧ k = 0) → T.1 c k = S.1 c k := fun c k y1 y2 => by rw [eT, wI_no _ (by omega), wI_no _ (by omega), wI_no _ (by omega)]
  rw [← eT]
  obtain ⟨p1, p2⟩ := h.2.2.2.2.2.1
  refine KX_P h (by rw [eT]; rfl) ⟨?_, ?_⟩ (fun c k y1 y2 y3 y4 => e c k (by omega) (by omega))
  · unfold RP at p1 ⊢
    rw [e 173 2 (by omega) (by omega), e 173 3 (by omega) (by omega), e 173 4 (by omega) (by omega), e 173 6 (by omega) (by omega), e 367 112 (by omega) (by omega), e 367 113 (by omega) (by omega), e 367 114 (by omega) (by omega), e 367 115 (by omega) (by omega)]
    refine ⟨p1.1, p1.2.1, fun p p0 pn => ?_, fun k k0 k1 => ?_⟩
    · rw [e 440 p (by omega) (by omega), e 177 p (by omega) (by omega)]
      by_cases c : p = a
      · rw [c, show T.1 175 a = 1 by rw [eT, wI_no _ (by omega), wI_no _ (by omega), wI_at], show T.1 441 a = 1 by rw [eT, wI_at]]
        rw [c] at p0 pn
        exact ⟨Or.inr rfl, rfl, (p1.2.2.1 a p0 pn).2.2⟩
      · rw [e 175 p (by omega) (by omega), e 441 p (by omega) (by omega)]
        exact p1.2.2.1 p p0 pn
    · rw [e 174 k (by omega) (by omega), e 439 k (by omega) (by omega)]
      exact p1.2.2.2 k k0 k1
  · unfold RP2 at p2 ⊢
    rw [e 173 2 (by omega) (by omega), e 173 3 (by omega) (by omega), e 173 4 (by omega) (by omega), e 173 6 (by omega) (by omega)]
    exact p2
theorem kx_29 {x : Int} (h : KX i S) (hx : 0 ≤ x ∧ x < (S.1 173 6 + S.1 173 2) * S.1 173 3) (d0 : 0 ≤ d) (d1 : d < 256) : KX (i + 1) (wI (wI (wI S 174 x (bX (S.1 174 x) d)) 367 0 0) 439 x (b8 (b8 (bX (S.1 174 x) d)))) := by
  obtain ⟨T, eT⟩ : ∃ T, T = wI (wI (wI S 174 x (bX (S.1 174 x) d)) 367 0 0) 439 x (b8 (b8 (bX (S.1 174 x) d))) := ⟨_, rfl⟩
  have e : ∀ (c : Nat) (k : Int), ¬ ((c = 174 ∨ c = 439) ∧ k = x) → ¬ (c = 367 ∧ k = 0) → T.1 c k = S.1 c k := fun c k y1 y2 => by rw [eT, wI_no _ (by omega), wI_no _ (by omega), wI_no _ (by omega)]
  rw [← eT]
  obtain ⟨p1, p2⟩ := h.2.2.2.2.2.1
  refine KX_P h (by rw [eT]; rfl) ⟨?_, ?_⟩ (fun c k y1 y2 y3 y4 => e c k (by omega) (by omega))
  · unfold RP at p1 ⊢
    rw [e 173 2 (by omega) (by omega), e 173 3 (by omega) (by omega), e 173 4 (by omega) (by omega), e 173 6 (by omega) (by omega), e 367 112 (by omega) (by omega), e 367 113 (by omega) (by omega), e 367 114 (by omega) (by omega), e 367 115 (by omega) (by omega)]
    refine ⟨p1.1, p1.2.1, fun p p0 pn => ?_, fun k k0 k1 => ?_⟩
    · rw [e 175 p (by omega) (by omega), e 441 p (by omega) (by omega), e 440 p (by omega) (by omega), e 177 p (by omega) (by omega)]
      exact p1.2.2.1 p p0 pn
    · by_cases c : k = x
      · rw [c, show T.1 174 x = bX (S.1 174 x) d by rw [eT, wI_no _ (by omega), wI_no _ (by omega), wI_at], show T.1 439 x = b8 (b8 (bX (S.1 174 x) d)) by rw [eT, wI_at]]
        exact ⟨bX_rg (p1.2.2.2 x hx.1 hx.2).1 ⟨d0, d1⟩, b8_of (b8_rg _)⟩
      · rw [e 174 k (by omega) (by omega), e 439 k (by omega) (by omega)]
        exact p1.2.2.2 k k0 k1
  · unfold RP2 at p2 ⊢
    rw [e 173 2 (by omega) (by omega), e 173 3 (by omega) (by omega), e 173 4 (by omega) (by omega), e 173 6 (by omega) (by omega)]
    exact p2
set_option maxHeartbeats 8000000 in
/-- entry -/
theorem kx_17 (h : KX i S) (hE : RE S sh) (hL : Lv S a) (hb : 0 ≤ b ∧ b ≤ 511) (hd : 0 ≤ d ∧ d < 2147483648) (hm : 1 ≤ S.1 5 1) (hp : S.1 sh 4 < 16) (hn : S.1 (sR a) 1 ≤ 6000) : KX (i + 1) (EM (wI (CL (AE S sh (S.1 sh 4) 5 (S.1 5 1) (sR a + 1) 0 (S.1 (sR a) 1) b d) 5) 367 0 0) (S.1 sh 4) (S.1 5 1) (S.1 (sR a) 1) a b d) := by
  obtain ⟨sh', si, g1, g2, g3, g4⟩ := h.2.2.2.2.1
  have es : sh' = sh := by rw [← hE.1]; exact g3.1.symm
  subst es
  have hsr : sh' = 193 ∨ sh' = 268 := g3.2.1
  obtain ⟨a1, a2, a3⟩ := hL
  obtain ⟨-, -, s3⟩ := h.2.1 a a1 a2
  obtain ⟨⟨n0, n1⟩, s4, s5⟩ := s3 a3
  have rg := sR_rg a1 a2
  obtain ⟨-, -, p0, e88, hOld⟩ := hE
  obtain ⟨m1, m2, m3⟩ := h.2.2.2.1
  obtain ⟨n, en⟩ : ∃ n, S.1 (sR a) 1 = n := ⟨_, rfl⟩
  obtain ⟨p, ep⟩ : ∃ p, S.1 sh' 4 = p := ⟨_, rfl⟩
  obtain ⟨m, em⟩ : ∃ m, S.1 5 1 = m := ⟨_, rfl⟩
  have hOldM := g4
  unfold RM at hOldM
  rw [ep] at p0 e88 hOld hp hOldM ⊢
  rw [en] at n0 n1 s4 s5 hn ⊢
  rw [em] at m1 m2 m3 hm ⊢
  obtain ⟨P, eP⟩ : ∃ P : Nat, (P : Int) = p := ⟨p.toNat, by omega⟩
  have eP' : p.toNat = P := by omega
  obtain ⟨A1, e1⟩ : ∃ A1, A1 = RW (CL S (sh' + 11 + 4 * P)) (sh' + 11 + 4 * P) 0 m (fun k => S.1 (5 + 1) k) := ⟨_, rfl⟩
  obtain ⟨A2, e2⟩ : ∃ A2, A2 = RW (CL A1 (sh' + 13 + 4 * P)) (sh' + 13 + 4 * P) 0 n (fun k => S.1 (sR a + 1) (0 + k)) := ⟨_, rfl⟩
  obtain ⟨A3, e3⟩ : ∃ A3, A3 = wI (wI (wI A2 (sh' + 3) p b) (sh' + 4) p d) sh' 4 (p + 1) := ⟨_, rfl⟩
  obtain ⟨U, e4⟩ : ∃ U, U = wI (CL A3 5) 367 0 0 := ⟨_, rfl⟩
  have eU : wI (CL (AE S sh' p 5 m (sR a + 1) 0 n b d) 5) 367 0 0 = U := by
    rw [e4, e3, e2, e1]
    unfold AE
    rw [eP']
  rw [eU]
  have atA1 : ∀ (c : Nat) (k : Int), c ≠ sh' + 11 + 4 * P → c ≠ sh' + 11 + 4 * P + 1 → A1.1 c k = S.1 c k := fun c k y1 y2 => by rw [e1, RW_at, if_neg (fun z => y1 z.1), if_neg (fun z => y2 z.1), CL_n _ y1]
  have atA2 : ∀ (c : Nat) (k : Int), c ≠ sh' + 13 + 4 * P → c ≠ sh' + 13 + 4 * P + 1 → A2.1 c k = A1.1 c k := fun c k y1 y2 => by rw [e2, RW_at, if_neg (fun z => y1 z.1), if_neg (fun z => y2 z.1), CL_n _ y1]
  have atA3 : ∀ (c : Nat) (k : Int), ¬ (c = sh' + 3 ∧ k = p) → ¬ (c = sh' + 4 ∧ k = p) → ¬ (c = sh' ∧ k = 4) → A3.1 c k = A2.1 c k := fun c k y1 y2 y3 => by rw [e3, wI_no _ y3, wI_no _ y2, wI_no _ y1]
  have atU : ∀ (c : Nat) (k : Int), c ≠ 5 → ¬ (c = 367 ∧ k = 0) → U.1 c k = A3.1 c k := fun c k y1 y2 => by rw [e4, wI_no _ y2, CL_n _ y1]
  obtain ⟨V, e5⟩ : ∃ V, V = wI (wI (wI (wI (wI (wC U 419 (100 * p) m (fun k => b8 (U.1 431 k))) 420 p m) 367 103 0) 421 p b) 422 p d) 424 p n := ⟨_, rfl⟩
  obtain ⟨T, e6⟩ : ∃ T, T = wI (wC V 423 (6000 * p) n (fun k => b8 (V.1 369 (12000 * a + k)))) 367 88 (p + 1) := ⟨_, rfl⟩
  have eT : EM U p m n a b d = T := by
    rw [e6, e5]
    rfl
  rw [eT]
  have kV : ∀ (c : Nat) (k : Int), V.1 c k = if c = 424 ∧ k = p then n else if c = 422 ∧ k = p then d else if c = 421 ∧ k = p then b else if c = 367 ∧ k = 103 then 0 else if c = 420 ∧ k = p then m else if c = 419 ∧ 100 * p ≤ k ∧ k < 100 * p + m then b8 (U.1 431 (k - 100 * p)) else U.1 c k := fun c k => by rw [e5]; rfl
  have kT : ∀ (c : Nat) (k : Int), T.1 c k = if c = 367 ∧ k = 88 then p + 1 else if c = 423 ∧ 6000 * p ≤ k ∧ k < 6000 * p + n then b8 (V.1 369 (12000 * a + (k - 6000 * p))) else V.1 c k := fun c k => by rw [e6]; rfl
  have loT : ∀ (c : Nat) (k : Int), ¬ (c = 367 ∧ (k = 88 ∨ k = 103)) → ¬ (419 ≤ c ∧ c ≤ 424) → T.1 c k = U.1 c k := fun c k y1 y2 => by
    rw [kT, if_neg (by omega), if_neg (by omega), kV, if_neg (by omega), if_neg (by omega), if_neg (by omega), if_neg (by omega), if_neg (by omega), if_neg (by omega)]
  -- what was not written
  have far : ∀ (c : Nat) (k : Int), c ≠ 5 → ¬ (c = 367 ∧ (k = 0 ∨ k = 88 ∨ k = 103)) → ¬ (419 ≤ c ∧ c ≤ 424) → ¬ (sh' ≤ c ∧ c < sh' + 75) → T.1 c k = S.1 c k := fun c k y1 y2 y3 y4 => by
    rw [loT c k (by omega) y3, atU c k y1 (by omega), atA3 c k (by omega) (by omega) (by omega), atA2 c k (by omega) (by omega), atA1 c k (by omega) (by omega)]
  have t4 : T.1 sh' 4 = p + 1 := by rw [loT _ _ (by omega) (by omega), atU _ _ (by omega) (by omega), e3, wI_at]
  have t88 : T.1 367 88 = p + 1 := by rw [kT, if_pos ⟨rfl, rfl⟩]
  have U431 : ∀ k : Int, U.1 431 k = S.1 431 k := fun k => by rw [atU _ _ (by omega) (by omega), atA3 _ _ (by omega) (by omega) (by omega), atA2 _ _ (by omega) (by omega), atA1 _ _ (by omega) (by omega)]
  have V369 : ∀ k : Int, V.1 369 k = S.1 369 k := fun k => by rw [kV, if_neg (by omega), if_neg (by omega), if_neg (by omega), if_neg (by omega), if_neg (by omega), if_neg (by omega), atU _ _ (by omega) (by omega), atA3 _ _ (by omega) (by omega) (by omega), atA2 _ _ (by omega) (by omega), atA1 _ _ (by omega) (by omega)]
  have e22 : T.2.2 = S.2.2 := by
    rw [e6]
    show V.2.2 = S.2.2
    rw [e5]
    show U.2.2 = S.2.2
    rw [e4]
    show A3.2.2 = S.2.2
    rw [e3]
    show A2.2.2 = S.2.2
    rw [e2]
    show A1.2.2 = S.2.2
    rw [e1]
    rfl
  obtain ⟨h1, h2, h3, h4, h5, ⟨h6, h6'⟩, h7, h8, h9, h10⟩ := KX_mono h
  have hRE : RE T sh' := by
    refine ⟨by rw [e22]; exact g3.1, g3.2.1, by rw [t4]; omega, by rw [t4, t88], fun j hj => ?_⟩
    rw [t4] at hj
    by_cases c : j = P
    · subst c
      have c1 : T.1 (sh' + 11 + 4 * j) 1 = m := by rw [loT _ _ (by omega) (by omega), atU _ _ (by omega) (by omega), atA3 _ _ (by omega) (by omega) (by omega), atA2 _ _ (by omega) (by omega), e1, RW_at, if_pos ⟨rfl, rfl⟩]; omega
      have c2 : ∀ k : Int, 0 ≤ k → k < m → T.1 (sh' + 11 + 4 * j + 1) k = S.1 6 k := fun k k0 k1 => by rw [loT _ _ (by omega) (by omega), atU _ _ (by omega) (by omega), atA3 _ _ (by omega) (by omega) (by omega), atA2 _ _ (by omega) (by omega), e1, RW_at, if_neg (by omega), if_pos ⟨rfl, k0, by omega⟩, show k - 0 = k by omega]
      have c3 : T.1 (sh' + 13 + 4 * j) 1 = n := by rw [loT _ _ (by omega) (by omega), atU _ _ (by omega) (by omega), atA3 _ _ (by omega) (by omega) (by omega), e2, RW_at, if_pos ⟨rfl, rfl⟩]; omega
      have c4 : ∀ k : Int, 0 ≤ k → k < n → T.1 (sh' + 13 + 4 * j + 1) k = S.1 (sR a + 1) k := fun k k0 k1 => by rw [loT _ _ (by omega) (by omega), atU _ _ (by omega) (by omega), atA3 _ _ (by omega) (by omega) (by omega), e2, RW_at, if_neg (by omega), if_pos ⟨rfl, k0, by omega⟩, show 0 + (k - 0) = k by omega]
      rw [c1, c3, eP]
      refine ⟨⟨⟨hm, m1.2⟩, ?_, fun k k0 k1 => ?_⟩, ⟨?_, ?_⟩, ⟨n0, hn⟩, ?_, fun k k0 k1 => ?_⟩
      · rw [kT, if_neg (by omega), if_neg (by omega), kV, if_neg (by omega), if_neg (by omega), if_neg (by omega), if_neg (by omega), if_pos ⟨rfl, rfl⟩]
      · rw [c2 k k0 k1, kT, if_neg (by omega), if_neg (by omega), kV, if_neg (by omega), if_neg (by omega), if_neg (by omega), if_neg (by omega), if_neg (by omega), if_pos ⟨rfl, by omega, by omega⟩, show 100 * p + k - 100 * p = k by omega, U431, (m3 k k0 k1).2]
        exact ⟨(m3 k k0 k1).1, b8_of (b8_rg _)⟩
      · rw [kT, if_neg (by omega), if_neg (by omega), kV, if_neg (by omega), if_neg (by omega), if_pos ⟨rfl, rfl⟩, loT _ _ (by omega) (by omega), atU _ _ (by omega) (by omega), e3, wI_no _ (by omega), wI_no _ (by omega), wI_at]
      · rw [kT, if_neg (by omega), if_neg (by omega), kV, if_neg (by omega), if_pos ⟨rfl, rfl⟩, loT _ _ (by omega) (by omega), atU _ _ (by omega) (by omega), e3, wI_no _ (by omega), wI_at]
      · rw [kT, if_neg (by omega), if_neg (by omega), kV, if_pos ⟨rfl, rfl⟩]
      · rw [c4 k k0 k1, kT, if_neg (by omega), if_pos ⟨rfl, by omega, by omega⟩, show 6000 * p + k - 6000 * p = k by omega, V369, (s5 k k0 k1).2]
        exact ⟨(s5 k k0 k1).1, b8_of (b8_rg _)⟩
    · have jl : (j : Int) < p := by omega
      obtain ⟨⟨o1, o2, o3⟩, ⟨o4, o5⟩, o6, o7, o8⟩ := hOld j jl
      have fS : ∀ (c : Nat) (k : Int), (c = sh' + 11 + 4 * j ∨ c = sh' + 11 + 4 * j + 1 ∨ c = sh' + 13 + 4 * j ∨ c = sh' + 13 + 4 * j + 1) ∨ ((c = sh' + 3 ∨ c = sh' + 4) ∧ k = j) → T.1 c k = S.1 c k := fun c k y => by
        rw [loT c k (by omega) (by omega), atU c k (by omega) (by omega), atA3 c k (by omega) (by omega) (by omega), atA2 c k (by omega) (by omega), atA1 c k (by omega) (by omega)]
      have fM : ∀ (c : Nat) (k : Int), ((c = 420 ∨ c = 421 ∨ c = 422 ∨ c = 424) ∧ k = j) ∨ (c = 419 ∧ k < 100 * p) ∨ (c = 423 ∧ k < 6000 * p) → T.1 c k = S.1 c k := fun c k y => by
        rw [kT, if_neg (by omega), if_neg (by omega), kV, if_neg (by omega), if_neg (by omega), if_neg (by omega), if_neg (by omega), if_neg (by omega), if_neg (by omega), atU c k (by omega) (by omega), atA3 c k (by omega) (by omega) (by omega), atA2 c k (by omega) (by omega), atA1 c k (by omega) (by omega)]
      rw [fS (sh' + 11 + 4 * j) 1 (by omega), fS (sh' + 13 + 4 * j) 1 (by omega), fS (sh' + 3) j (by omega), fS (sh' + 4) j (by omega), fM 420 j (by omega), fM 421 j (by omega), fM 422 j (by omega), fM 424 j (by omega)]
      refine ⟨⟨o1, o2, fun k k0 k1 => ?_⟩, ⟨o4, o5⟩, o6, o7, fun k k0 k1 => ?_⟩
      · rw [fS (sh' + 11 + 4 * j + 1) k (by omega), fM 419 _ (by omega)]
        exact o3 k k0 k1
      · rw [fS (sh' + 13 + 4 * j + 1) k (by omega), fM 423 _ (by omega)]
        exact o8 k k0 k1
  have hRM : RM T sh' := fun j hj => by
    rw [t4] at hj
    by_cases c : j = P
    · subst c
      rw [eP, show T.1 (sh' + 3) p = b by rw [loT _ _ (by omega) (by omega), atU _ _ (by omega) (by omega), e3, wI_no _ (by omega), wI_no _ (by omega), wI_at], show T.1 (sh' + 4) p = d by rw [loT _ _ (by omega) (by omega), atU _ _ (by omega) (by omega), e3, wI_no _ (by omega), wI_at]]
      omega
    · rw [show T.1 (sh' + 3) j = S.1 (sh' + 3) j by rw [loT _ _ (by omega) (by omega), atU _ _ (by omega) (by omega), atA3 _ _ (by omega) (by omega) (by omega), atA2 _ _ (by omega) (by omega), atA1 _ _ (by omega) (by omega)], show T.1 (sh' + 4) j = S.1 (sh' + 4) j by rw [loT _ _ (by omega) (by omega), atU _ _ (by omega) (by omega), atA3 _ _ (by omega) (by omega) (by omega), atA2 _ _ (by omega) (by omega), atA1 _ _ (by omega) (by omega)]]
      exact hOldM j (by omega)
  have t51 : T.1 5 1 = 0 := by rw [loT _ _ (by omega) (by omega), e4, wI_no _ (by omega), CL_1]
  have hRN : RN T := by
    unfold RN
    rw [t51]
    exact ⟨by decide, by rw [kT, if_neg (by omega), if_neg (by omega), kV, if_neg (by omega), if_neg (by omega), if_neg (by omega), if_pos ⟨rfl, rfl⟩], fun k k0 k1 => absurd k1 (by omega)⟩
  exact ⟨RT_k h1 (fun c k y => far c k (by omega) (by omega) (by omega) (by omega)), RS_k h2 (fun c k y => far c k (by omega) (by omega) (by omega) (by omega)), RKB_k h3 (fun c k y => far c k (by omega) (by omega) (by omega) (by omega)), hRN, ⟨sh', si, g1, by rw [e22]; exact g2, hRE, hRM⟩, ⟨RP_k h6 (fun c k y => by unfold dP at y; exact far c k (by omega) (by omega) (by omega) (by omega)), RP2_k h6' (fun c k y => by unfold dP at y; exact far c k (by omega) (by omega) (by omega) (by omega))⟩, RO_cg h7 (fun c k y => far c k (by omega) (by omega) (by omega) (by omega)), FQ_k h8 (fun c k y => far c k (by omega) (by omega) (by omega) (by omega)), TbK_k h9 (fun c k y => far c k (by omega) (by omega) (by omega) (by omega)), KA_k h10 (fun c k y => by unfold dA at y; exact far c k (by omega) (by omega) (by omega) (by omega))⟩
end KpD
