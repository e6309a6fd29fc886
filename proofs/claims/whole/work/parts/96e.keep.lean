/-! BETWEEN THE CALLS: the other calls -/
section KpE
variable {q : Nat × (Nat → Int32)} {S T : ms} {a b d m : Int} {sh i : Nat}
theorem KX_out {X : Nat → Int → Prop} (h : KX i S) (o : Out X S T) (e13 : T.2.2 0 13 = S.2.2 0 13) (e14 : T.2.2 0 14 = S.2.2 0 14) (hT : RT T) (hK : RKB T) (hF : FQ T) (hTb : TbK T) (hX : ∀ (a : Nat) (k : Int), X a k → ¬ dD a k) : KX (i + 1) T := KX_gen h e13 e14 hT o.1 hK hF hTb (fun a k y => by
  have n := dD_no y
  exact o.2 a k (fun z => hX a k z y) n.1 (by omega) (by omega) (by omega) n.2.2.1)
theorem RT_o {X : Nat → Int → Prop} (h : RT S) (o : Out X S T) (hX : ∀ (a : Nat) (k : Int), X a k → a ≠ 1 ∧ a ≠ 2 ∧ ¬ (a = 367 ∧ k = 2) ∧ a ≠ 368) : RT T := RT_k h (fun a k y => o.2 a k (fun z => by have := hX a k z; omega) (by omega) (by omega) (by omega) (by omega) (by omega))
theorem RKB_o {X : Nat → Int → Prop} (h : RKB S) (o : Out X S T) (hX : ∀ (a : Nat) (k : Int), X a k → ¬ (a = 10 ∧ k = 12) ∧ ¬ (16 ≤ a ∧ a ≤ 18) ∧ ¬ (a = 367 ∧ (k = 83 ∨ k = 84)) ∧ ¬ (416 ≤ a ∧ a ≤ 418) ∧ ¬ (a = 0 ∧ k = 15)) : RKB T := RKB_k h (fun a k y => o.2 a k (fun z => by have := hX a k z; omega) (by omega) (by omega) (by omega) (by omega) (by omega))
theorem FQ_o {X : Nat → Int → Prop} (h : FQ S) (o : Out X S T) (hX : ∀ (a : Nat) (k : Int), X a k → ¬ (a = 367 ∧ 79 ≤ k ∧ k ≤ 81) ∧ ¬ (a = 0 ∧ 16 ≤ k ∧ k ≤ 18)) : FQ T := FQ_k h (fun a k y => o.2 a k (fun z => by have := hX a k z; omega) (by omega) (by omega) (by omega) (by omega) (by omega))
theorem TbK_o {X : Nat → Int → Prop} (h : TbK S) (o : Out X S T) (hX : ∀ (a : Nat) (k : Int), X a k → ¬ (391 ≤ a ∧ a ≤ 394) ∧ ¬ (a = 367 ∧ k = 45)) : TbK T := TbK_k h (fun a k y => o.2 a k (fun z => by have := hX a k z; omega) (by omega) (by omega) (by omega) (by omega) (by omega))
theorem Out_x {X : Nat → Int → Prop} (hS : RS S) (h : EX X S T) (hX : ∀ (a : Nat) (k : Int), X a k → a ≠ 4 ∧ (a < 343 ∨ 366 < a) ∧ a ≠ 369 ∧ a ≠ 370 ∧ a ≠ 371) : Out X S T := ⟨RS_k hS (fun a k y => h.2 a k (fun z => by have := hX a k z; omega)), fun a k y1 _ _ _ _ _ => h.2 a k y1⟩
/-- whole -/
theorem kx_31 (h : KX i S) (hT : EX XP S T ∨ ∃ f : Int, FR S f ∧ f ≤ 12 ∧ NW XP S T f (S.1 173 4) (fun k => S.1 174 k)) : KX (i + 1) T := by
  have hX : ∀ (a : Nat) (k : Int), XP a k → a ≠ 4 ∧ (a < 343 ∨ 366 < a) ∧ a ≠ 369 ∧ a ≠ 370 ∧ a ≠ 371 := fun a k y => by unfold XP at y; omega
  have o : Out XP S T ∧ T.2 = S.2 := by
    rcases hT with y | ⟨f, -, -, y⟩
    · exact ⟨Out_x h.2.1 y hX, y.1⟩
    · exact ⟨Out_n h.2.1 rfl hX (NW_NY y), y.2.1⟩
  obtain ⟨h1, h2, h3, h4, h5, h6, h7, h8, h9, h10⟩ := id h
  exact KX_out h o.1 (by rw [o.2]) (by rw [o.2]) (RT_o h1 o.1 (fun a k y => by unfold XP at y; omega)) (RKB_o h3 o.1 (fun a k y => by unfold XP at y; omega)) (FQ_o h8 o.1 (fun a k y => by unfold XP at y; omega)) (TbK_o h9 o.1 (fun a k y => by unfold XP at y; omega)) (fun a k y w => dD_c w (by unfold XP at y; unfold dNm; omega) (by unfold XP at y; unfold dSf; omega) (by unfold XP at y; unfold dP; omega) (by unfold XP at y; omega) (by unfold XP at y; unfold dA; omega))
/-- restore -/
theorem kx_33 (h : KX i S) (hT : EX XR S T ∨ ∃ (f n : Int) (g : Int → Int), FR S f ∧ f ≤ 12 ∧ NW XR S T f n g) : KX (i + 1) T := by
  have hX : ∀ (a : Nat) (k : Int), XR a k → a ≠ 4 ∧ (a < 343 ∨ 366 < a) ∧ a ≠ 369 ∧ a ≠ 370 ∧ a ≠ 371 := fun a k y => by unfold XR at y; omega
  have o : Out XR S T ∧ T.2 = S.2 := by
    rcases hT with y | ⟨f, n, g, -, -, y⟩
    · exact ⟨Out_x h.2.1 y hX, y.1⟩
    · exact ⟨Out_n h.2.1 rfl hX (NW_NY y), y.2.1⟩
  obtain ⟨h1, h2, h3, h4, h5, h6, h7, h8, h9, h10⟩ := id h
  exact KX_out h o.1 (by rw [o.2]) (by rw [o.2]) (RT_o h1 o.1 (fun a k y => by unfold XR at y; omega)) (RKB_o h3 o.1 (fun a k y => by unfold XR at y; omega)) (FQ_o h8 o.1 (fun a k y => by unfold XR at y; omega)) (TbK_o h9 o.1 (fun a k y => by unfold XR at y; omega)) (fun a k y w => dD_c w (by unfold XR at y; unfold dNm; omega) (by unfold XR at y; unfold dSf; omega) (by unfold XR at y; unfold dP; omega) (by unfold XR at y; omega) (by unfold XR at y; unfold dA; omega))
/-- shared -/
theorem kx_35 (h : KX i S) (hT : EX (fun a k => a = 189 ∨ (a = 367 ∧ k = 0)) S T) : KX (i + 1) T := by
  have o : Out (fun a k => a = 189 ∨ (a = 367 ∧ k = 0)) S T := Out_x h.2.1 hT (fun a k y => by omega)
  obtain ⟨h1, h2, h3, h4, h5, h6, h7, h8, h9, h10⟩ := id h
  exact KX_out h o (by rw [hT.1]) (by rw [hT.1]) (RT_o h1 o (fun a k y => by omega)) (RKB_o h3 o (fun a k y => by omega)) (FQ_o h8 o (fun a k y => by omega)) (TbK_o h9 o (fun a k y => by omega)) (fun a k y w => dD_c w (by unfold dNm; omega) (by unfold dSf; omega) (by unfold dP; omega) (by omega) (by unfold dA; omega))
/-- forget, save -/
theorem kx_O (h : KX i S) (hT : EX XO S T) (hO : RO (mI (i + 1)) T) : KX (i + 1) T := by
  have e : ∀ (a : Nat) (k : Int), ¬ XO a k → T.1 a k = S.1 a k := fun a k y => hT.2 a k y
  obtain ⟨h1, h2, h3, h4, h5, ⟨h6, h6'⟩, h7, h8, h9, h10⟩ := KX_mono h
  exact ⟨RT_k h1 (fun a k y => e a k (by unfold XO; omega)), RS_k h2 (fun a k y => e a k (by unfold XO; omega)), RKB_k h3 (fun a k y => e a k (by unfold XO; omega)), RN_k h4 (fun a k y => e a k (by unfold XO; omega)), KSh_k h5 (by rw [hT.1]) (by rw [hT.1]) (fun a k y => e a k (by unfold XO; omega)), ⟨RP_k h6 (fun a k y => e a k (by unfold dP at y; unfold XO; omega)), RP2_k h6' (fun a k y => e a k (by unfold dP at y; unfold XO; omega))⟩, hO, FQ_k h8 (fun a k y => e a k (by unfold XO; omega)), TbK_k h9 (fun a k y => e a k (by unfold XO; omega)), KA_k h10 (fun a k y => e a k (by unfold dA at y; unfold XO; omega))⟩
/-- protect, repair -/
theorem kx_26 (h : KX i S) (hT : EX XB S T ∧ (T = wI S 367 0 0 ∨ (RP T ∧ RP2 T))) : KX (i + 1) T := by
  obtain ⟨y1, y2⟩ := hT
  rcases y2 with y | y
  · rw [y]; exact KX_0 h
  · exact KX_P h y1.1 y (fun a k z1 z2 z3 z4 => y1.2 a k (by unfold XB; omega))
theorem kx_30 (h : KX i S) (hT : EX XQ S T ∧ (EX XP S T ∨ (RP T ∧ RP2 T))) : KX (i + 1) T := by
  obtain ⟨y1, y2⟩ := hT
  have hP : RP T ∧ RP2 T := by
    rcases y2 with y | y
    · obtain ⟨p1, p2⟩ := h.2.2.2.2.2.1
      exact ⟨RP_k p1 (fun a k z => y.2 a k (by unfold dP at z; unfold XP; omega)), RP2_k p2 (fun a k z => y.2 a k (by unfold dP at z; unfold XP; omega))⟩
    · exact y
  exact KX_P h y1.1 hP (fun a k z1 z2 z3 z4 => y1.2 a k (by unfold XQ; omega))
/-- delta -/
theorem kx_24 (h : KX i S) (hT : PQ XD S T) : KX (i + 1) T := by
  have hX : ∀ (a : Nat) (k : Int), XD a k → a ≠ 4 ∧ (a < 343 ∨ 366 < a) ∧ a ≠ 369 ∧ a ≠ 370 ∧ a ≠ 371 := fun a k y => by unfold XD at y; omega
  obtain ⟨f, o', ⟨hF, hf⟩, y⟩ := hT
  have o : Out XD S T ∧ T.2 = (wR S 10 2 o').2 := by
    rcases y with y | ⟨n, g, y⟩
    · exact ⟨Out_e (S' := wR S 10 2 o') h.2.1 hF hf rfl hX y.ey, y.1⟩
    · exact ⟨Out_n (S' := wR S 10 2 o') h.2.1 rfl hX (NW_NY y), y.2.1⟩
  obtain ⟨h1, h2, h3, h4, h5, h6, h7, h8, h9, h10⟩ := id h
  exact KX_out h o.1 (by rw [o.2]; rfl) (by rw [o.2]; rfl) (RT_o h1 o.1 (fun a k y => by unfold XD at y; omega)) (RKB_o h3 o.1 (fun a k y => by unfold XD at y; omega)) (FQ_o h8 o.1 (fun a k y => by unfold XD at y; omega)) (TbK_o h9 o.1 (fun a k y => by unfold XD at y; omega)) (fun a k y w => dD_c w (by unfold XD at y; unfold dNm; omega) (by unfold XD at y; unfold dSf; omega) (by unfold XD at y; unfold dP; omega) (by unfold XD at y; omega) (by unfold XD at y; unfold dA; omega))
/-- apply, open -/
theorem kx_OY {X : Nat → Int → Prop} (h : KX i S) (hT : OY X S T) (hTb : TbK T) (hX : ∀ (a : Nat) (k : Int), X a k → (a ≠ 4 ∧ (a < 343 ∨ 366 < a) ∧ a ≠ 369 ∧ a ≠ 370 ∧ a ≠ 371) ∧ (a ≠ 1 ∧ a ≠ 2 ∧ ¬ (a = 367 ∧ k = 2) ∧ a ≠ 368) ∧ (¬ (a = 10 ∧ k = 12) ∧ ¬ (16 ≤ a ∧ a ≤ 18) ∧ ¬ (a = 367 ∧ (k = 83 ∨ k = 84)) ∧ ¬ (416 ≤ a ∧ a ≤ 418) ∧ ¬ (a = 0 ∧ k = 15)) ∧ ¬ dD a k) : KX (i + 1) T := by
  obtain ⟨f, ⟨hF, hf⟩, hQ, y⟩ := hT
  have o : Out X S T ∧ T.2.2 = (wR (wR S 9 1 (sR f)) 367 13 368).2.2 := by
    rcases y with y | ⟨n, g, y⟩
    · exact ⟨Out_e (S' := wR (wR S 9 1 (sR f)) 367 13 368) h.2.1 hF hf rfl (fun a k z => (hX a k z).1) y, y.1⟩
    · exact ⟨Out_n (S' := wR (wR S 9 1 (sR f)) 367 13 368) h.2.1 rfl (fun a k z => (hX a k z).1) y, y.2.1⟩
  obtain ⟨h1, h2, h3, h4, h5, h6, h7, h8, h9, h10⟩ := id h
  exact KX_out h o.1 (by rw [o.2]; rfl) (by rw [o.2]; rfl) (RT_o h1 o.1 (fun a k y => (hX a k y).2.1)) (RKB_o h3 o.1 (fun a k y => (hX a k y).2.2.1)) hQ hTb (fun a k y => (hX a k y).2.2.2)
theorem kx_25 (h : KX i S) (hT : OQ XOp S T) : KX (i + 1) T := by
  have hX : ∀ (a : Nat) (k : Int), XOp a k → a ≠ 4 ∧ (a < 343 ∨ 366 < a) ∧ a ≠ 369 ∧ a ≠ 370 ∧ a ≠ 371 := fun a k y => by unfold XOp at y; omega
  have hY : OY XOp S T := by
    obtain ⟨f, hF, hQ, y⟩ := hT
    refine ⟨f, hF, hQ, ?_⟩
    rcases y with y | ⟨n, g, y⟩
    · exact Or.inl y.ey
    · exact Or.inr ⟨n, g, NW_NY y⟩
  have hTb : TbK T := by
    obtain ⟨f, ⟨hF, hf⟩, -, y⟩ := hY
    have o : Out XOp S T := by
      rcases y with y | ⟨n, g, y⟩
      · exact Out_e (S' := wR (wR S 9 1 (sR f)) 367 13 368) h.2.1 hF hf rfl hX y
      · exact Out_n (S' := wR (wR S 9 1 (sR f)) 367 13 368) h.2.1 rfl hX y
    exact TbK_o h.2.2.2.2.2.2.2.2.1 o (fun a k y => by unfold XOp at y; omega)
  exact kx_OY h hY hTb (fun a k y => ⟨hX a k y, by unfold XOp at y; omega, by unfold XOp at y; omega, fun w => dD_c w (by unfold XOp at y; unfold dNm; omega) (by unfold XOp at y; unfold dSf; omega) (by unfold XOp at y; unfold dP; omega) (by unfold XOp at y; omega) (by unfold XOp at y; unfold dA; omega)⟩)
theorem kx_12 (h : KX i S) (hT : OY X12 S T ∧ TbK T) : KX (i + 1) T := kx_OY h hT.1 hT.2 (fun a k y => by
  unfold X12 XOp XKc XKm at y
  refine ⟨by omega, by omega, by omega, fun w => dD_c w (by unfold dNm; omega) (by unfold dSf; omega) (by unfold dP; omega) (by omega) (by unfold dA; omega)⟩)
/-- pack -/
theorem kx_11 (h : KX i S) (hT : PY X11 S T ∧ TbK T ∧ RKB T) : KX (i + 1) T := by
  obtain ⟨⟨f, o', ⟨hF, hf⟩, y⟩, hTb, hK⟩ := hT
  have hX : ∀ (a : Nat) (k : Int), X11 a k → a ≠ 4 ∧ (a < 343 ∨ 366 < a) ∧ a ≠ 369 ∧ a ≠ 370 ∧ a ≠ 371 := fun a k y => by unfold X11 XPb at y; omega
  have o : Out X11 S T ∧ T.2.2 = (wR S 10 2 o').2.2 := by
    rcases y with y | ⟨n, g, y⟩
    · exact ⟨Out_e (S' := wR S 10 2 o') h.2.1 hF hf rfl hX y, y.1⟩
    · exact ⟨Out_n (S' := wR S 10 2 o') h.2.1 rfl hX y, y.2.1⟩
  obtain ⟨h1, h2, h3, h4, h5, h6, h7, h8, h9, h10⟩ := id h
  exact KX_out h o.1 (by rw [o.2]; rfl) (by rw [o.2]; rfl) (RT_o h1 o.1 (fun a k y => by unfold X11 XPb at y; omega)) hK (FQ_o h8 o.1 (fun a k y => by unfold X11 XPb at y; omega)) hTb (fun a k y w => dD_c w (by unfold X11 XPb at y; unfold dNm; omega) (by unfold X11 XPb at y; unfold dSf; omega) (by unfold X11 XPb at y; unfold dP; omega) (by unfold X11 XPb at y; omega) (by unfold X11 XPb at y; unfold dA; omega))
/-- write -/
theorem kx_18 (h : KX i S) (hsh : sh = 193 ∨ sh = 268) (hT : P18 S sh T) : KX (i + 1) T := by
  obtain ⟨⟨f, o', ⟨hF, hf⟩, y⟩, hTb, t1, t2⟩ := hT
  have hX : ∀ (a : Nat) (k : Int), X18 sh a k → a ≠ 4 ∧ (a < 343 ∨ 366 < a) ∧ a ≠ 369 ∧ a ≠ 370 ∧ a ≠ 371 := fun a k y => by unfold X18 Xwm8 XPb at y; omega
  have o : Out (X18 sh) S T ∧ T.2.2 = (wR S 10 2 o').2.2 := by
    rcases y with y | ⟨n, g, y⟩
    · exact ⟨Out_e (S' := wR S 10 2 o') h.2.1 hF hf rfl hX y, y.1⟩
    · exact ⟨Out_n (S' := wR S 10 2 o') h.2.1 rfl hX y, y.2.1⟩
  obtain ⟨h1, h2, h3, h4, h5, h6, h7, h8, h9, h10⟩ := id h
  have lo : ∀ (a : Nat) (k : Int), a = 1 ∨ a = 2 → T.1 a k = S.1 a k := fun a k z => o.1.2 a k (by unfold X18 Xwm8 XPb; omega) (by omega) (by omega) (by omega) (by omega) (by omega)
  have hRT : RT T := by
    obtain ⟨r1, r2, r3⟩ := h1
    refine ⟨by rw [lo 1 1 (by omega)]; exact r1, by rw [lo 1 1 (by omega), t1]; exact r2, fun k k0 k1 => ?_⟩
    rw [lo 1 1 (by omega)] at k1
    rw [lo 2 k (by omega), t2 k k0 (by omega)]
    exact r3 k k0 k1
  exact KX_out h o.1 (by rw [o.2]; rfl) (by rw [o.2]; rfl) hRT (RKB_o h3 o.1 (fun a k y => by unfold X18 Xwm8 XPb at y; omega)) (FQ_o h8 o.1 (fun a k y => by unfold X18 Xwm8 XPb at y; omega)) hTb (fun a k y w => dD_c w (by unfold X18 Xwm8 XPb at y; unfold dNm; omega) (by unfold X18 Xwm8 XPb at y; unfold dSf; omega) (by unfold X18 Xwm8 XPb at y; unfold dP; omega) (by unfold X18 Xwm8 XPb at y; omega) (by unfold X18 Xwm8 XPb at y; unfold dA; omega))
/-- read -/
theorem kx_19 {si : Nat} (h : KX i S) (hss : (sh = 193 ∧ si = 268) ∨ (sh = 268 ∧ si = 193)) (h14 : S.2.2 0 14 = si) (hE : RE S sh) (hM : RM S sh) (hT : P19 S sh si T) : KX (i + 1) T := by
  obtain ⟨hF, hTb, y⟩ := hT
  obtain ⟨h1, h2, h3, h4, h5, ⟨h6, h6'⟩, h7, h8, h9, h10⟩ := KX_mono h
  have e : ∀ (a : Nat) (k : Int), ¬ X19 si a k → ¬ (419 ≤ a ∧ a ≤ 424) → ¬ (a = 367 ∧ k = 88) → T.1 a k = S.1 a k := fun a k z1 z2 z3 => by
    rcases y with y | ⟨y, -⟩
    · exact y.2 a k z1
    · exact y.2 a k (fun z => by
        rcases z with z | z | z
        · exact z1 z
        · exact z2 z
        · exact z3 z)
  have n19 : ∀ (a : Nat) (k : Int), X19 si a k → (si ≤ a ∧ a < si + 75) ∨ (53 ≤ a ∧ a ≤ 85) ∨ a = 89 ∨ a = 7 ∨ a = 8 ∨ a = 9 ∨ (a = 0 ∧ 16 ≤ k ∧ k ≤ 18) ∨ (a = 367 ∧ (k = 0 ∨ (14 ≤ k ∧ k ≤ 22) ∨ k = 45 ∨ k = 58 ∨ k = 59 ∨ (79 ≤ k ∧ k ≤ 81) ∨ k = 95)) ∨ a = 375 ∨ (385 ≤ a ∧ a ≤ 394) ∨ a = 401 ∨ (425 ≤ a ∧ a ≤ 430) := fun a k z => by
    unfold X19 xSh XCc XOp xSi XBm XCm XTb at z
    omega
  have hSh : KSh T := by
    rcases y with y | ⟨y, y2, y3⟩
    · have k : ∀ (a : Nat) (k : Int), dE sh a k → T.1 a k = S.1 a k := fun a k z => y.2 a k (fun w => by have := n19 a k w; unfold dE at z; omega)
      exact ⟨sh, si, hss, by rw [y.1]; exact h14, RE_k hE (by rw [y.1]; rfl) k, RM_k hM k⟩
    · exact ⟨si, sh, by omega, by rw [y.1]; rfl, y2, y3⟩
  have e' : ∀ (a : Nat) (k : Int), ¬ ((si ≤ a ∧ a < si + 75) ∨ (53 ≤ a ∧ a ≤ 85) ∨ a = 89 ∨ a = 7 ∨ a = 8 ∨ a = 9 ∨ (a = 0 ∧ 16 ≤ k ∧ k ≤ 18) ∨ (a = 367 ∧ (k = 0 ∨ (14 ≤ k ∧ k ≤ 22) ∨ k = 45 ∨ k = 58 ∨ k = 59 ∨ (79 ≤ k ∧ k ≤ 81) ∨ k = 88 ∨ k = 95)) ∨ a = 375 ∨ (385 ≤ a ∧ a ≤ 394) ∨ a = 401 ∨ (419 ≤ a ∧ a ≤ 430)) → T.1 a k = S.1 a k := fun a k z => e a k (fun w => by have := n19 a k w; omega) (by omega) (by omega)
  exact ⟨RT_k h1 (fun a k y => e' a k (by omega)), RS_k h2 (fun a k y => e' a k (by omega)), RKB_k h3 (fun a k y => e' a k (by omega)), RN_k h4 (fun a k y => e' a k (by omega)), hSh, ⟨RP_k h6 (fun a k y => e' a k (by unfold dP at y; omega)), RP2_k h6' (fun a k y => e' a k (by unfold dP at y; omega))⟩, RO_cg h7 (fun a k y => e' a k (by omega)), hF, hTb, KA_k h10 (fun a k y => e' a k (by unfold dA at y; omega))⟩
end KpE
