/-! WHAT HOLDS BETWEEN THE CALLS -/
section KpA
variable {q : Nat × (Nat → Int32)} {S T : ms} {a b d m : Int} {sh : Nat}
theorem RT_k (h : RT S) (e : ∀ (a : Nat) (k : Int), (a = 1 ∧ k = 1) ∨ a = 2 ∨ (a = 367 ∧ k = 2) ∨ a = 368 → T.1 a k = S.1 a k) : RT T := by
  unfold RT at h ⊢
  rw [e 1 1 (by omega), e 367 2 (by omega)]
  refine ⟨h.1, h.2.1, fun k k0 k1 => ?_⟩
  rw [e 2 k (by omega), e 368 k (by omega)]
  exact h.2.2 k k0 k1
/-- one STREAM -/
theorem RS_k (h : RS S) (e : ∀ (a : Nat) (k : Int), a = 4 ∨ (369 ≤ a ∧ a ≤ 371) ∨ (343 ≤ a ∧ a ≤ 366) → T.1 a k = S.1 a k) : RS T := fun s s1 s2 => by
  have rg := sR_rg s1 s2
  obtain ⟨h1, h2, h3⟩ := h s s1 s2
  rw [e 4 s (by omega), e 371 s (by omega), e 370 s (by omega), e (sR s) 1 (by omega)]
  refine ⟨h1, h2, fun y => ⟨(h3 y).1, (h3 y).2.1, fun k k0 k1 => ?_⟩⟩
  rw [e (sR s + 1) k (by omega), e 369 _ (by omega)]
  exact (h3 y).2.2 k k0 k1
theorem RKB_k (h : RKB S) (e : ∀ (a : Nat) (k : Int), (a = 10 ∧ k = 12) ∨ (16 ≤ a ∧ a ≤ 18) ∨ (a = 367 ∧ (k = 83 ∨ k = 84)) ∨ (416 ≤ a ∧ a ≤ 418) ∨ (a = 0 ∧ k = 15) → T.1 a k = S.1 a k) : RKB T := by
  unfold RKB RK at h ⊢
  rw [e 10 12 (by omega), e 367 84 (by omega), e 367 83 (by omega), e 0 15 (by omega)]
  refine ⟨⟨h.1.1, h.1.2.1, fun k k0 k1 => ?_⟩, h.2⟩
  rw [e 416 k (by omega), e 417 k (by omega), e 418 k (by omega), e 16 k (by omega), e 17 k (by omega), e 18 k (by omega)]
  exact h.1.2.2 k k0 k1
theorem RN_k (h : RN S) (e : ∀ (a : Nat) (k : Int), (a = 5 ∧ k = 1) ∨ a = 6 ∨ (a = 367 ∧ k = 103) ∨ a = 431 → T.1 a k = S.1 a k) : RN T := by
  unfold RN at h ⊢
  rw [e 5 1 (by omega), e 367 103 (by omega)]
  refine ⟨h.1, h.2.1, fun k k0 k1 => ?_⟩
  rw [e 6 k (by omega), e 431 k (by omega)]
  exact h.2.2 k k0 k1
def dE (sh a : Nat) (k : Int) : Prop := (a = sh ∧ k = 4) ∨ a = sh + 3 ∨ a = sh + 4 ∨ (sh + 11 ≤ a ∧ a < sh + 75) ∨ (a = 367 ∧ k = 88) ∨ (419 ≤ a ∧ a ≤ 424)
theorem RE_k (h : RE S sh) (e2 : T.2.2 0 13 = S.2.2 0 13) (e : ∀ (a : Nat) (k : Int), dE sh a k → T.1 a k = S.1 a k) : RE T sh := by
  obtain ⟨h1, h2, h3, h4, h5⟩ := h
  refine ⟨by rw [e2]; exact h1, h2, by rw [e sh 4 (by unfold dE; omega)]; exact h3, by rw [e sh 4 (by unfold dE; omega), e 367 88 (by unfold dE; omega)]; exact h4, fun i hi => ?_⟩
  rw [e sh 4 (by unfold dE; omega)] at hi
  obtain ⟨⟨a1, a2, a3⟩, ⟨a4, a5⟩, a6, a7, a8⟩ := h5 i hi
  rw [e (sh + 11 + 4 * i) 1 (by unfold dE; omega), e 420 i (by unfold dE; omega), e 421 i (by unfold dE; omega), e 422 i (by unfold dE; omega), e (sh + 3) i (by unfold dE; omega), e (sh + 4) i (by unfold dE; omega), e (sh + 13 + 4 * i) 1 (by unfold dE; omega), e 424 i (by unfold dE; omega)]
  refine ⟨⟨a1, a2, fun k k0 k1 => ?_⟩, ⟨a4, a5⟩, a6, a7, fun k k0 k1 => ?_⟩
  · rw [e (sh + 11 + 4 * i + 1) k (by unfold dE; omega), e 419 _ (by unfold dE; omega)]
    exact a3 k k0 k1
  · rw [e (sh + 13 + 4 * i + 1) k (by unfold dE; omega), e 423 _ (by unfold dE; omega)]
    exact a8 k k0 k1
theorem RM_k (h : RM S sh) (e : ∀ (a : Nat) (k : Int), dE sh a k → T.1 a k = S.1 a k) : RM T sh := fun i hi => by
  rw [e sh 4 (by unfold dE; omega)] at hi
  rw [e (sh + 3) i (by unfold dE; omega), e (sh + 4) i (by unfold dE; omega)]
  exact h i hi
def dP (a : Nat) (k : Int) : Prop := (a = 173 ∧ (k = 2 ∨ k = 3 ∨ k = 4 ∨ k = 6)) ∨ a = 174 ∨ a = 175 ∨ a = 177 ∨ (a = 367 ∧ 112 ≤ k ∧ k ≤ 115) ∨ (439 ≤ a ∧ a ≤ 441)
theorem RP_k (h : RP S) (e : ∀ (a : Nat) (k : Int), dP a k → T.1 a k = S.1 a k) : RP T := by
  unfold RP at h ⊢
  rw [e 173 2 (by unfold dP; omega), e 173 3 (by unfold dP; omega), e 173 4 (by unfold dP; omega), e 173 6 (by unfold dP; omega), e 367 112 (by unfold dP; omega), e 367 113 (by unfold dP; omega), e 367 114 (by unfold dP; omega), e 367 115 (by unfold dP; omega)]
  refine ⟨h.1, h.2.1, fun p p0 p1 => ?_, fun k k0 k1 => ?_⟩
  · rw [e 175 p (by unfold dP; omega), e 441 p (by unfold dP; omega), e 440 p (by unfold dP; omega), e 177 p (by unfold dP; omega)]
    exact h.2.2.1 p p0 p1
  · rw [e 174 k (by unfold dP; omega), e 439 k (by unfold dP; omega)]
    exact h.2.2.2 k k0 k1
theorem RP2_k (h : RP2 S) (e : ∀ (a : Nat) (k : Int), dP a k → T.1 a k = S.1 a k) : RP2 T := by
  unfold RP2 at h ⊢
  rw [e 173 2 (by unfold dP; omega), e 173 3 (by unfold dP; omega), e 173 4 (by unfold dP; omega), e 173 6 (by unfold dP; omega)]
  exact h
theorem FQ_k (h : FQ S) (e : ∀ (a : Nat) (k : Int), (a = 367 ∧ 79 ≤ k ∧ k ≤ 81) ∨ (a = 0 ∧ 16 ≤ k ∧ k ≤ 18) → T.1 a k = S.1 a k) : FQ T := by
  unfold FQ at h ⊢
  rw [e 367 79 (by omega), e 367 80 (by omega), e 367 81 (by omega), e 0 16 (by omega), e 0 17 (by omega), e 0 18 (by omega)]
  exact h
/-- what stays -/
def KA (S : ms) : Prop := RQ S ∧ RG S ∧ BlC S ∧ CodC S 31 288 flF ∧ CodC S 42 32 (fun _ => 5)
def dA (a : Nat) : Prop := (31 ≤ a ∧ a ≤ 52) ∨ a = 92 ∨ a = 93 ∨ a = 182 ∨ a = 183 ∨ a = 372 ∨ a = 373 ∨ a = 437 ∨ a = 438
theorem CodC_k {b n : Nat} {l : Int → Int} (h : CodC S b n l) (e : ∀ (a : Nat) (k : Int), b ≤ a → a ≤ b + 10 → T.1 a k = S.1 a k) : CodC T b n l := ⟨h.1, h.2.1, h.2.2.1, by rw [e b 5 (by omega) (by omega)]; exact h.2.2.2.1, fun k k1 k2 => by rw [e (b + 5) k (by omega) (by omega)]; exact h.2.2.2.2.1 k k1 k2, fun t h1 h2 => by rw [e (b + 4) _ (by omega) (by omega)]; exact h.2.2.2.2.2 t h1 h2⟩
theorem KA_k (h : KA S) (e : ∀ (a : Nat) (k : Int), dA a → T.1 a k = S.1 a k) : KA T := by
  obtain ⟨⟨q1, q2⟩, ⟨g1, g2⟩, h3, h4, h5⟩ := h
  refine ⟨⟨fun t ht => by rw [e 372 t (by unfold dA; omega)]; exact q1 t ht, fun t ht => by rw [e 373 t (by unfold dA; omega)]; exact q2 t ht⟩, ⟨fun k k0 k1 => by rw [e 182 k (by unfold dA; omega), e 437 k (by unfold dA; omega)]; exact g1 k k0 k1, fun x x0 x1 => by rw [e 183 x (by unfold dA; omega), e 438 x (by unfold dA; omega)]; exact g2 x x0 x1⟩, BlC_e h3 (fun a k y => e a k (by unfold dA; omega)), CodC_k h4 (fun a k y1 y2 => e a k (by unfold dA; omega)), CodC_k h5 (fun a k y1 y2 => e a k (by unfold dA; omega))⟩
def KSh (S : ms) : Prop := ∃ sh si : Nat, ((sh = 193 ∧ si = 268) ∨ (sh = 268 ∧ si = 193)) ∧ S.2.2 0 14 = si ∧ RE S sh ∧ RM S sh
theorem KSh_k (h : KSh S) (e1 : T.2.2 0 13 = S.2.2 0 13) (e2 : T.2.2 0 14 = S.2.2 0 14) (e : ∀ (a : Nat) (k : Int), (193 ≤ a ∧ a ≤ 342 ∧ ¬ (200 ≤ a ∧ a ≤ 203) ∧ ¬ (275 ≤ a ∧ a ≤ 278)) ∨ (a = 367 ∧ k = 88) ∨ (419 ≤ a ∧ a ≤ 424) → T.1 a k = S.1 a k) : KSh T := by
  obtain ⟨sh, si, h1, h2, h3, h4⟩ := h
  have k : ∀ (a : Nat) (k : Int), dE sh a k → T.1 a k = S.1 a k := fun a k y => e a k (by unfold dE at y; omega)
  exact ⟨sh, si, h1, by rw [e2]; exact h2, RE_k h3 e1 k, RM_k h4 k⟩
def mI (i : Nat) : Int := ((min i 100000 : Nat) : Int)
theorem RO_m {m m' : Int} (h : RO m S) (h1 : m ≤ m') (h2 : m' ≤ 100000) : RO m' S := by
  obtain ⟨a, ⟨b1, b2, b3, b4⟩, c⟩ := h
  exact ⟨a, ⟨b1, b2, by omega, h2⟩, c⟩
theorem mI_r (i : Nat) : mI i ≤ mI (i + 1) ∧ mI (i + 1) ≤ 100000 := by
  unfold mI
  omega
/-- between the calls; i calls were made -/
def KX (i : Nat) (S : ms) : Prop := RT S ∧ RS S ∧ RKB S ∧ RN S ∧ KSh S ∧ (RP S ∧ RP2 S) ∧ RO (mI i) S ∧ FQ S ∧ TbK S ∧ KA S
def KK (i : Nat) (S : ms) : Prop := KX i S ∧ BOk (hp S)
theorem KX_mono {i : Nat} (h : KX i S) : KX (i + 1) S := by
  obtain ⟨h1, h2, h3, h4, h5, h6, h7, h8⟩ := h
  exact ⟨h1, h2, h3, h4, h5, h6, RO_m h7 (mI_r i).1 (mI_r i).2, h8⟩
/-- nothing that stays is written -/
theorem KX_0 {i : Nat} (h : KX i S) : KX (i + 1) (wI S 367 0 0) := by
  have e : ∀ (a : Nat) (k : Int), ¬ (a = 367 ∧ k = 0) → (wI S 367 0 0).1 a k = S.1 a k := fun a k y => wI_no _ y
  obtain ⟨h1, h2, h3, h4, h5, ⟨h6, h6'⟩, h7, h8, h9, h10⟩ := KX_mono h
  exact ⟨RT_k h1 (fun a k y => e a k (by omega)), RS_k h2 (fun a k y => e a k (by omega)), RKB_k h3 (fun a k y => e a k (by omega)), RN_k h4 (fun a k y => e a k (by omega)), KSh_k h5 rfl rfl (fun a k y => e a k (by omega)), ⟨RP_k h6 (fun a k y => e a k (by unfold dP at y; omega)), RP2_k h6' (fun a k y => e a k (by unfold dP at y; omega))⟩, RO_cg h7 (fun a k y => e a k (by omega)), FQ_k h8 (fun a k y => e a k (by omega)), TbK_k h9 (fun a k y => e a k (by omega)), KA_k h10 (fun a k y => e a k (by unfold dA at y; omega))⟩
end KpA
