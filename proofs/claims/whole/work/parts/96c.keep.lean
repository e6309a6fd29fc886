/-! BETWEEN THE CALLS: a new STREAM, and calls whose cells are said -/
section KpC
variable {q : Nat × (Nat → Int32)} {S T : ms} {a b d m : Int} {sh i : Nat}
/-- names, shelf, parts, store, tables -/
def dNm (a : Nat) (k : Int) : Prop := (a = 5 ∧ k = 1) ∨ a = 6 ∨ (a = 367 ∧ k = 103) ∨ a = 431
def dSf (a : Nat) (k : Int) : Prop := (193 ≤ a ∧ a ≤ 342 ∧ ¬ (200 ≤ a ∧ a ≤ 203) ∧ ¬ (275 ≤ a ∧ a ≤ 278)) ∨ (a = 367 ∧ k = 88) ∨ (419 ≤ a ∧ a ≤ 424)
def dD (a : Nat) (k : Int) : Prop := dNm a k ∨ dSf a k ∨ dP a k ∨ RF a k ∨ dA a
theorem dD_no {a : Nat} {k : Int} (h : dD a k) : a ≠ 4 ∧ ¬ (369 ≤ a ∧ a ≤ 371) ∧ ¬ (343 ≤ a ∧ a ≤ 366) ∧ ¬ (a = 367 ∧ k = 0) := by
  rcases h with h | h | h | h | h
  · unfold dNm at h; omega
  · unfold dSf at h; omega
  · unfold dP at h; omega
  · omega
  · unfold dA at h; omega
theorem dD_c {a : Nat} {k : Int} (h : dD a k) (n1 : ¬ dNm a k) (n2 : ¬ dSf a k) (n3 : ¬ dP a k) (n4 : ¬ RF a k) (n5 : ¬ dA a) : False := by
  rcases h with h | h | h | h | h
  · exact n1 h
  · exact n2 h
  · exact n3 h
  · exact n4 h
  · exact n5 h
theorem KX_gen (h : KX i S) (e13 : T.2.2 0 13 = S.2.2 0 13) (e14 : T.2.2 0 14 = S.2.2 0 14) (hT : RT T) (hS : RS T) (hK : RKB T) (hF : FQ T) (hTb : TbK T) (e : ∀ (a : Nat) (k : Int), dD a k → T.1 a k = S.1 a k) : KX (i + 1) T := by
  obtain ⟨h1, h2, h3, h4, h5, ⟨h6, h6'⟩, h7, h8, h9, h10⟩ := KX_mono h
  exact ⟨hT, hS, hK, RN_k h4 (fun a k y => e a k (Or.inl y)), KSh_k h5 e13 e14 (fun a k y => e a k (Or.inr (Or.inl y))), ⟨RP_k h6 (fun a k y => e a k (Or.inr (Or.inr (Or.inl y)))), RP2_k h6' (fun a k y => e a k (Or.inr (Or.inr (Or.inl y))))⟩, RO_cg h7 (fun a k y => e a k (Or.inr (Or.inr (Or.inr (Or.inl y))))), hF, hTb, KA_k h10 (fun a k y => e a k (Or.inr (Or.inr (Or.inr (Or.inr y)))))⟩
theorem RS_new {X : Nat → Int → Prop} {S' : ms} {f n : Int} {g : Int → Int} (hS : RS S) (e : S'.1 = S.1) (hX : ∀ (a : Nat) (k : Int), X a k → a ≠ 4 ∧ (a < 343 ∨ 366 < a) ∧ a ≠ 369 ∧ a ≠ 370 ∧ a ≠ 371) (h : NY X S' T f n g) : RS T := by
  obtain ⟨⟨f1, n1, g1⟩, -, ⟨c1, c2, c3⟩, ⟨m1, m2, m3⟩, fr⟩ := h
  rw [e] at fr
  have rf := sR_rg f1.1 f1.2
  intro s s1 s2
  have rg := sR_rg s1 s2
  by_cases c : s = f
  · rw [c, c1, m1]
    refine ⟨Or.inr rfl, rfl, fun _ => ?_⟩
    rw [c2, m2]
    refine ⟨n1, rfl, fun k k0 k1 => ?_⟩
    rw [c3 k k0 k1, m3 k k0 k1]
    exact ⟨g1 k k0 k1, rfl⟩
  · have ne : sR s ≠ sR f ∧ sR s ≠ sR f + 1 ∧ sR s + 1 ≠ sR f ∧ sR s + 1 ≠ sR f + 1 := by
      unfold sR
      omega
    have fr' : ∀ (a : Nat) (k : Int), a = 4 ∨ a = 370 ∨ a = 371 → k = s → T.1 a k = S.1 a k := fun a k y z => fr a k (fun w => by have := hX a k w; omega) (by omega) (by omega) (by omega) (by omega) (by omega) (by omega)
    have fr2 : ∀ (a : Nat) (k : Int), a = sR s ∨ a = sR s + 1 → T.1 a k = S.1 a k := fun a k y => fr a k (fun w => by have := hX a k w; omega) (by omega) (by omega) (by omega) (by omega) (by omega) (by omega)
    obtain ⟨h1, h2, h3⟩ := hS s s1 s2
    rw [fr' 4 s (by omega) rfl, fr' 371 s (by omega) rfl, fr' 370 s (by omega) rfl, fr2 (sR s) 1 (Or.inl rfl)]
    refine ⟨h1, h2, fun y => ?_⟩
    obtain ⟨h4, h5, h6⟩ := h3 y
    refine ⟨h4, h5, fun k k0 k1 => ?_⟩
    rw [fr2 (sR s + 1) k (Or.inr rfl), fr 369 (12000 * s + k) (fun w => by have := hX _ _ w; omega) (by omega) (by omega) (by omega) (by omega) (by omega) (by omega)]
    exact h6 k k0 k1
theorem RS_free {X : Nat → Int → Prop} {S' : ms} {f : Int} (hS : RS S) (hF : FR S f) (hf : f ≤ 12) (e : S'.1 = S.1) (hX : ∀ (a : Nat) (k : Int), X a k → a ≠ 4 ∧ (a < 343 ∨ 366 < a) ∧ a ≠ 369 ∧ a ≠ 370 ∧ a ≠ 371) (h : EY (fun a k => X a k ∨ a = sR f ∨ a = sR f + 1) S' T) : RS T := by
  obtain ⟨f1, -, f3⟩ := hF
  have f0 := f3 hf
  have rf := sR_rg f1.1 hf
  have fr : ∀ (a : Nat) (k : Int), ¬ X a k → a ≠ sR f → a ≠ sR f + 1 → T.1 a k = S.1 a k := fun a k y1 y2 y3 => by
    rw [h.2 a k (fun z => by
      rcases z with z | z | z
      · exact y1 z
      · exact y2 z
      · exact y3 z), e]
  intro s s1 s2
  have rg := sR_rg s1 s2
  obtain ⟨h1, h2, h3⟩ := hS s s1 s2
  have x4 : ∀ (a : Nat) (k : Int), a = 4 ∨ a = 369 ∨ a = 370 ∨ a = 371 → T.1 a k = S.1 a k := fun a k y => fr a k (fun w => by have := hX a k w; omega) (by omega) (by omega)
  rw [x4 4 s (by omega), x4 371 s (by omega), x4 370 s (by omega)]
  refine ⟨h1, h2, fun y => ?_⟩
  have c : s ≠ f := fun z => by rw [z, f0] at y; omega
  have ne : sR s ≠ sR f ∧ sR s ≠ sR f + 1 ∧ sR s + 1 ≠ sR f ∧ sR s + 1 ≠ sR f + 1 := by
    unfold sR
    omega
  have fr2 : ∀ (a : Nat) (k : Int), a = sR s ∨ a = sR s + 1 → T.1 a k = S.1 a k := fun a k y => fr a k (fun w => by have := hX a k w; omega) (by omega) (by omega)
  rw [fr2 (sR s) 1 (Or.inl rfl)]
  obtain ⟨h4, h5, h6⟩ := h3 y
  refine ⟨h4, h5, fun k k0 k1 => ?_⟩
  rw [fr2 (sR s + 1) k (Or.inr rfl), x4 369 _ (by omega)]
  exact h6 k k0 k1
/-- what a new STREAM, or the try of one, leaves: outside of X and the STREAMS nothing is written -/
def Out (X : Nat → Int → Prop) (S T : ms) : Prop := RS T ∧ ∀ (a : Nat) (k : Int), ¬ X a k → a ≠ 4 → a ≠ 369 → a ≠ 370 → a ≠ 371 → ¬ (343 ≤ a ∧ a ≤ 366) → T.1 a k = S.1 a k
theorem Out_n {X : Nat → Int → Prop} {S' : ms} {f n : Int} {g : Int → Int} (hS : RS S) (e : S'.1 = S.1) (hX : ∀ (a : Nat) (k : Int), X a k → a ≠ 4 ∧ (a < 343 ∨ 366 < a) ∧ a ≠ 369 ∧ a ≠ 370 ∧ a ≠ 371) (h : NY X S' T f n g) : Out X S T := by
  have rf := sR_rg h.1.1.1 h.1.1.2
  refine ⟨RS_new hS e hX h, fun a k y1 y2 y3 y4 y5 y6 => ?_⟩
  rw [h.2.2.2.2 a k y1 (by omega) (by omega) (by omega) (by omega) (by omega) (by omega), e]
theorem Out_e {X : Nat → Int → Prop} {S' : ms} {f : Int} (hS : RS S) (hF : FR S f) (hf : f ≤ 12) (e : S'.1 = S.1) (hX : ∀ (a : Nat) (k : Int), X a k → a ≠ 4 ∧ (a < 343 ∨ 366 < a) ∧ a ≠ 369 ∧ a ≠ 370 ∧ a ≠ 371) (h : EY (fun a k => X a k ∨ a = sR f ∨ a = sR f + 1) S' T) : Out X S T := by
  have rf := sR_rg hF.1.1 hf
  refine ⟨RS_free hS hF hf e hX h, fun a k y1 y2 y3 y4 y5 y6 => ?_⟩
  rw [h.2 a k (fun z => by
    rcases z with z | z | z
    · exact y1 z
    · omega
    · omega), e]
/-- drop -/
theorem kx_9 (h : KX i S) (hL : Lv S a) : KX (i + 1) (wI (wI (wI S 4 a 0) 367 0 0) 371 a 0) := by
  obtain ⟨T, eT⟩ : ∃ T, T = wI (wI (wI S 4 a 0) 367 0 0) 371 a 0 := ⟨_, rfl⟩
  have e : ∀ (c : Nat) (k : Int), ¬ ((c = 4 ∨ c = 371) ∧ k = a) → ¬ (c = 367 ∧ k = 0) → T.1 c k = S.1 c k := fun c k y1 y2 => by rw [eT, wI_no _ (by omega), wI_no _ (by omega), wI_no _ (by omega)]
  rw [← eT]
  have h' := h
  obtain ⟨h1, h2, h3, h4, h5, h6, h7, h8, h9, h10⟩ := h'
  refine KX_gen h (by rw [eT]; rfl) (by rw [eT]; rfl) (RT_k h1 (fun c k y => e c k (by omega) (by omega))) (fun s s1 s2 => ?_) (RKB_k h3 (fun c k y => e c k (by omega) (by omega))) (FQ_k h8 (fun c k y => e c k (by omega) (by omega))) (TbK_k h9 (fun c k y => e c k (by omega) (by omega))) (fun c k y => by
    have n := dD_no y
    exact e c k (by omega) (by omega))
  have rg := sR_rg s1 s2
  obtain ⟨g1, g2, g3⟩ := h2 s s1 s2
  by_cases c : s = a
  · rw [c, show T.1 4 a = 0 by rw [eT, wI_no _ (by omega), wI_no _ (by omega), wI_at], show T.1 371 a = 0 by rw [eT, wI_at]]
    exact ⟨Or.inl rfl, rfl, fun y => absurd y (by decide)⟩
  · rw [e 4 s (by omega) (by omega), e 371 s (by omega) (by omega), e 370 s (by omega) (by omega), e (sR s) 1 (by omega) (by omega)]
    refine ⟨g1, g2, fun y => ⟨(g3 y).1, (g3 y).2.1, fun k k0 k1 => ?_⟩⟩
    rw [e (sR s + 1) k (by omega) (by omega), e 369 _ (by omega) (by omega)]
    exact (g3 y).2.2 k k0 k1
/-- extract -/
theorem kx_22 {f : Int} (h : KX i S) (hE : RE S sh) (hF : FR S f) (hf : f ≤ 12) (a0 : 0 ≤ a) (a1 : a < S.1 sh 4) : KX (i + 1) (let n := S.1 (sh + 13 + 4 * a.toNat) 1; let U := wI (wI (wI (wI (RW (CL S (sR f)) (sR f) 0 n (fun k => S.1 (sh + 13 + 4 * a.toNat + 1) k)) 4 f 1) 367 0 0) 371 f 1) 370 f n; wC U 369 (12000 * f) n (fun k => b8 (U.1 423 (6000 * a + k)))) := by
  obtain ⟨-, hs, -, -, h5⟩ := hE
  have hsr : sh = 193 ∨ sh = 268 := hs
  obtain ⟨-, -, ⟨n0, n1⟩, -, s5⟩ := h5 a.toNat (by omega)
  rw [show ((a.toNat : Nat) : Int) = a by omega] at s5
  have rf := sR_rg hF.1.1 hf
  obtain ⟨n, en⟩ : ∃ n, S.1 (sh + 13 + 4 * a.toNat) 1 = n := ⟨_, rfl⟩
  obtain ⟨t, et⟩ : ∃ t : Int → Int, (fun k => S.1 (sh + 13 + 4 * a.toNat + 1) k) = t := ⟨_, rfl⟩
  have et' : ∀ k, S.1 (sh + 13 + 4 * a.toNat + 1) k = t k := fun k => by rw [← et]
  show KX (i + 1) (wC (wI (wI (wI (wI (RW (CL S (sR f)) (sR f) 0 (S.1 (sh + 13 + 4 * a.toNat) 1) (fun k => S.1 (sh + 13 + 4 * a.toNat + 1) k)) 4 f 1) 367 0 0) 371 f 1) 370 f (S.1 (sh + 13 + 4 * a.toNat) 1)) 369 (12000 * f) (S.1 (sh + 13 + 4 * a.toNat) 1) (fun k => b8 ((wI (wI (wI (wI (RW (CL S (sR f)) (sR f) 0 (S.1 (sh + 13 + 4 * a.toNat) 1) (fun k => S.1 (sh + 13 + 4 * a.toNat + 1) k)) 4 f 1) 367 0 0) 371 f 1) 370 f (S.1 (sh + 13 + 4 * a.toNat) 1)).1 423 (6000 * a + k))))
  rw [en, et]
  rw [en] at n0 n1 s5
  obtain ⟨U, eU⟩ : ∃ U, U = wI (wI (wI (wI (RW (CL S (sR f)) (sR f) 0 n t) 4 f 1) 367 0 0) 371 f 1) 370 f n := ⟨_, rfl⟩
  have kU : ∀ (c : Nat) (k : Int), U.1 c k = if c = 370 ∧ k = f then n else if c = 371 ∧ k = f then 1 else if c = 367 ∧ k = 0 then 0 else if c = 4 ∧ k = f then 1 else if c = sR f ∧ k = 1 then 0 + n else if c = sR f + 1 ∧ 0 ≤ k ∧ k < 0 + n then t (k - 0) else (CL S (sR f)).1 c k := fun c k => by rw [eU]; rfl
  have kU0 : ∀ (c : Nat) (k : Int), ¬ (c = 367 ∧ k = 0) → c ≠ sR f → c ≠ sR f + 1 → ¬ (c = 4 ∧ k = f) → ¬ (c = 371 ∧ k = f) → ¬ (c = 370 ∧ k = f) → U.1 c k = S.1 c k := fun c k y1 y2 y3 y4 y5 y6 => by rw [kU, if_neg y6, if_neg y5, if_neg y1, if_neg y4, if_neg (fun z => y2 z.1), if_neg (fun z => y3 z.1), CL_n _ y2]
  obtain ⟨T, eT⟩ : ∃ T, T = wC U 369 (12000 * f) n (fun k => b8 (U.1 423 (6000 * a + k))) := ⟨_, rfl⟩
  have kT : ∀ (c : Nat) (k : Int), T.1 c k = if c = 369 ∧ 12000 * f ≤ k ∧ k < 12000 * f + n then b8 (U.1 423 (6000 * a + (k - 12000 * f))) else U.1 c k := fun c k => by rw [eT]; rfl
  rw [← eU, ← eT]
  have hN : NY (fun c k => c = 367 ∧ k = 0) S T f n t := by
    refine ⟨⟨⟨hF.1.1, hf⟩, by omega, fun k k0 k1 => by rw [← et']; exact (s5 k k0 k1).1⟩, by rw [eT, eU]; rfl, ⟨?_, ?_, fun k k0 k1 => ?_⟩, ⟨?_, ?_, fun k k0 k1 => ?_⟩, fun c k y1 y2 y3 y4 y5 y6 y7 => ?_⟩
    · rw [kT, if_neg (by omega), kU, if_neg (by omega), if_neg (by omega), if_neg (by omega), if_pos ⟨rfl, rfl⟩]
    · rw [kT, if_neg (by omega), kU, if_neg (by omega), if_neg (by omega), if_neg (by omega), if_neg (by omega), if_pos ⟨rfl, rfl⟩]
      omega
    · rw [kT, if_neg (by omega), kU, if_neg (by omega), if_neg (by omega), if_neg (by omega), if_neg (by omega), if_neg (by omega), if_pos ⟨rfl, k0, by omega⟩, show k - 0 = k by omega]
    · rw [kT, if_neg (by omega), kU, if_neg (by omega), if_pos ⟨rfl, rfl⟩]
    · rw [kT, if_neg (by omega), kU, if_pos ⟨rfl, rfl⟩]
    · rw [kT, if_pos ⟨rfl, by omega, by omega⟩, show 12000 * f + k - 12000 * f = k by omega, kU0 _ _ (by omega) (by omega) (by omega) (by omega) (by omega) (by omega), (s5 k k0 k1).2, et']
      exact b8_of (b8_rg _)
    · rw [kT, if_neg (fun z => y7 ⟨z.1, z.2.1, by omega⟩)]
      exact kU0 c k y1 y2 y3 y4 y5 y6
  obtain ⟨o1, o2⟩ := Out_n h.2.1 rfl (fun c k y => by omega) hN
  obtain ⟨h1, h2, h3, h4, h5, h6, h7, h8, h9, h10⟩ := id h
  have e : ∀ (c : Nat) (k : Int), ¬ (c = 367 ∧ k = 0) → c ≠ 4 → c ≠ 369 → c ≠ 370 → c ≠ 371 → ¬ (343 ≤ c ∧ c ≤ 366) → T.1 c k = S.1 c k := fun c k => o2 c k
  exact KX_gen h (by rw [eT, eU]; rfl) (by rw [eT, eU]; rfl) (RT_k h1 (fun c k y => e c k (by omega) (by omega) (by omega) (by omega) (by omega) (by omega))) o1 (RKB_k h3 (fun c k y => e c k (by omega) (by omega) (by omega) (by omega) (by omega) (by omega))) (FQ_k h8 (fun c k y => e c k (by omega) (by omega) (by omega) (by omega) (by omega) (by omega))) (TbK_k h9 (fun c k y => e c k (by omega) (by omega) (by omega) (by omega) (by omega) (by omega))) (fun c k y => by
    have n := dD_no y
    exact e c k n.2.2.2 n.1 (by omega) (by omega) (by omega) n.2.2.1)
end KpC
