/-! BETWEEN THE CALLS: calls whose memory is said outright -/
section KpB
variable {q : Nat × (Nat → Int32)} {S T : ms} {a b d m : Int} {sh i : Nat}
theorem KX_T (h : KX i S) (e2 : T.2 = S.2) (hT : RT T) (e : ∀ (a : Nat) (k : Int), a ≠ 1 → a ≠ 2 → ¬ (a = 367 ∧ (k = 0 ∨ k = 2)) → a ≠ 368 → T.1 a k = S.1 a k) : KX (i + 1) T := by
  obtain ⟨h1, h2, h3, h4, h5, ⟨h6, h6'⟩, h7, h8, h9, h10⟩ := KX_mono h
  exact ⟨hT, RS_k h2 (fun a k y => e a k (by omega) (by omega) (by omega) (by omega)), RKB_k h3 (fun a k y => e a k (by omega) (by omega) (by omega) (by omega)), RN_k h4 (fun a k y => e a k (by omega) (by omega) (by omega) (by omega)), KSh_k h5 (by rw [e2]) (by rw [e2]) (fun a k y => e a k (by omega) (by omega) (by omega) (by omega)), ⟨RP_k h6 (fun a k y => e a k (by unfold dP at y; omega) (by unfold dP at y; omega) (by unfold dP at y; omega) (by unfold dP at y; omega)), RP2_k h6' (fun a k y => e a k (by unfold dP at y; omega) (by unfold dP at y; omega) (by unfold dP at y; omega) (by unfold dP at y; omega))⟩, RO_cg h7 (fun a k y => e a k (by omega) (by omega) (by omega) (by omega)), FQ_k h8 (fun a k y => e a k (by omega) (by omega) (by omega) (by omega)), TbK_k h9 (fun a k y => e a k (by omega) (by omega) (by omega) (by omega)), KA_k h10 (fun a k y => e a k (by unfold dA at y; omega) (by unfold dA at y; omega) (by unfold dA at y; omega) (by unfold dA at y; omega))⟩
/-- feed -/
theorem kx_0 (h : KX i S) (d1 : 1 ≤ d) (d8 : d ≤ 8) (hp : S.1 1 1 + d ≤ 6000) (v : Int) : KX (i + 1) (MW (wI (RW S 1 (S.1 1 1) d (fun i => ocH v (d - 1 - i))) 367 0 0) (S.1 1 1) d (fun i => ocM v (d - 1 - i))) := by
  obtain ⟨p, ep⟩ : ∃ p, S.1 1 1 = p := ⟨_, rfl⟩
  obtain ⟨t1, t2, t3⟩ := h.1
  rw [ep] at t1 t2 t3 hp ⊢
  obtain ⟨T, eT⟩ : ∃ T, T = MW (wI (RW S 1 p d (fun i => ocH v (d - 1 - i))) 367 0 0) p d (fun i => ocM v (d - 1 - i)) := ⟨_, rfl⟩
  have key : ∀ (a : Nat) (k : Int), T.1 a k = if a = 367 ∧ k = 2 then p + d else if a = 368 ∧ p ≤ k ∧ k < p + d then ocM v (d - 1 - (k - p)) else if a = 367 ∧ k = 0 then 0 else if a = 1 ∧ k = 1 then p + d else if a = 1 + 1 ∧ p ≤ k ∧ k < p + d then ocH v (d - 1 - (k - p)) else S.1 a k := fun a k => by rw [eT]; rfl
  rw [← eT]
  refine KX_T h (by rw [eT]; rfl) ?_ (fun a k y1 y2 y3 y4 => by rw [key, if_neg (by omega), if_neg (by omega), if_neg (by omega), if_neg (by omega), if_neg (by omega)])
  have e11 : T.1 1 1 = p + d := by rw [key, if_neg (by omega), if_neg (by omega), if_neg (by omega), if_pos ⟨rfl, rfl⟩]
  unfold RT
  rw [e11]
  refine ⟨by omega, by rw [key, if_pos ⟨rfl, rfl⟩], fun k k0 k1 => ?_⟩
  by_cases c : p ≤ k
  · rw [key, if_neg (by omega), if_neg (by omega), if_neg (by omega), if_neg (by omega), if_pos ⟨rfl, c, k1⟩, key, if_neg (by omega), if_pos ⟨rfl, c, k1⟩, oc_b8 (by omega) (by omega)]
    exact ⟨ocH_rg _ _, rfl⟩
  · rw [key, if_neg (by omega), if_neg (by omega), if_neg (by omega), if_neg (by omega), if_neg (by omega), key, if_neg (by omega), if_neg (by omega), if_neg (by omega), if_neg (by omega), if_neg (by omega)]
    exact t3 k k0 (by omega)
/-- fill -/
theorem rl_eq {kind r p : Int} {f g : Int → Int} (hk : 0 ≤ kind ∧ kind ≤ 3) (hr : 0 ≤ r ∧ r < 256) (hp : 0 ≤ p) (hf : ∀ k : Int, 0 ≤ k → k < p → (0 ≤ f k ∧ f k < 256) ∧ g k = b8 (f k)) : b8 (b8 (rlM kind r p g)) = b8 (rlC kind r p f % 256) := by
  have bb : ∀ x : Int, b8 (b8 x) = b8 (x % 256) := fun x => by unfold b8; omega
  have b3 : ∀ x : Int, b8 (b8 (b8 x)) = b8 (x % 256) := fun x => by unfold b8; omega
  unfold rlM rlC
  rcases (by omega : kind = 0 ∨ kind = 1 ∨ kind = 2 ∨ kind = 3) with e | e | e | e
  · subst e
    rw [if_neg (show ¬ (0 : Int) = 3 by decide), if_neg (show ¬ (0 : Int) = 2 by decide), if_neg (show ¬ (0 : Int) = 1 by decide), if_neg (show ¬ (0 : Int) = 1 by decide), if_neg (show ¬ (0 : Int) = 2 by decide), if_neg (show ¬ (0 : Int) = 3 by decide)]
    exact bb r
  · subst e
    rw [if_neg (show ¬ (1 : Int) = 3 by decide), if_neg (show ¬ (1 : Int) = 2 by decide), if_pos (show (1 : Int) = 1 from rfl), if_pos (show (1 : Int) = 1 from rfl)]
    exact bb _
  · subst e
    rw [if_neg (show ¬ (2 : Int) = 3 by decide), if_neg (show ¬ (2 : Int) = 1 by decide), if_pos (show (2 : Int) = 2 from rfl), if_pos (show (2 : Int) = 2 from rfl)]
    by_cases c1 : p < 17
    · rw [if_pos c1, if_pos c1]
      by_cases c2 : 240 ≤ r
      · rw [if_pos c2]; exact bb r
      · rw [if_neg c2]; exact bb r
    · rw [if_neg c1, if_neg c1]
      by_cases c2 : 240 ≤ r
      · rw [if_pos c2, if_pos c2]; exact bb r
      · rw [if_neg c2, if_neg c2, (hf (p - 17) (by omega) (by omega)).2]
        exact b3 _
  · subst e
    rw [if_pos (show (3 : Int) = 3 from rfl), if_neg (show ¬ (3 : Int) = 1 by decide), if_neg (show ¬ (3 : Int) = 2 by decide), if_pos (show (3 : Int) = 3 from rfl)]
    by_cases c1 : p < 1
    · rw [if_pos c1, if_pos c1]
      by_cases c2 : 230 ≤ r
      · rw [if_pos c2]; exact bb r
      · rw [if_neg c2]; exact bb r
    · rw [if_neg c1, if_neg c1]
      by_cases c2 : 230 ≤ r
      · rw [if_pos c2, if_pos c2]; exact bb r
      · rw [if_neg c2, if_neg c2, (hf (p - 1) (by omega) (by omega)).2]
        exact b3 _
theorem fC_s {kind : Int} : ∀ (t : Nat) (z : Int) (S : ms), (fC kind t z S).2 = S.2 ∧ ∀ (a : Nat) (k : Int), a ≠ 1 → a ≠ 2 → (fC kind t z S).1 a k = S.1 a k
  | 0, _, _ => ⟨rfl, fun _ _ _ _ => rfl⟩
  | t + 1, z, S => by
    obtain ⟨h1, h2⟩ := fC_s (kind := kind) t (zN z) (wI (wI S 2 (S.1 1 1) (rlC kind (rN z) (S.1 1 1) (S.1 2) % 256)) 1 1 (S.1 1 1 + 1))
    refine ⟨h1, fun a k y1 y2 => ?_⟩
    have e := h2 a k y1 y2
    rw [wI_no _ (by omega), wI_no _ (by omega)] at e
    exact e
theorem fM_s {kind : Int} : ∀ (t : Nat) (z : Int) (S : ms), (fM kind t z S).2 = S.2 ∧ ∀ (a : Nat) (k : Int), ¬ (a = 367 ∧ k = 2) → a ≠ 368 → (fM kind t z S).1 a k = S.1 a k
  | 0, _, _ => ⟨rfl, fun _ _ _ _ => rfl⟩
  | t + 1, z, S => by
    obtain ⟨h1, h2⟩ := fM_s (kind := kind) t (zN z) (wI (wI S 368 (S.1 367 2) (b8 (b8 (rlM kind (rN z) (S.1 367 2) (S.1 368))))) 367 2 (S.1 367 2 + 1))
    refine ⟨h1, fun a k y1 y2 => ?_⟩
    have e := h2 a k y1 y2
    rw [wI_no _ (by omega), wI_no _ (by omega)] at e
    exact e
theorem fill_e {kind : Int} (hk : 0 ≤ kind ∧ kind ≤ 3) : ∀ (t : Nat) (z p : Int) (A B : ms), 0 ≤ p → A.1 1 1 = p → B.1 367 2 = p → (∀ k : Int, 0 ≤ k → k < p → (0 ≤ A.1 2 k ∧ A.1 2 k < 256) ∧ B.1 368 k = b8 (A.1 2 k)) → (fC kind t z A).1 1 1 = p + t ∧ (fM kind t z B).1 367 2 = p + t ∧ ∀ k : Int, 0 ≤ k → k < p + t → (0 ≤ (fC kind t z A).1 2 k ∧ (fC kind t z A).1 2 k < 256) ∧ (fM kind t z B).1 368 k = b8 ((fC kind t z A).1 2 k)
  | 0, z, p, A, B, hp, hA, hB, h => ⟨by show A.1 1 1 = p + ((0 : Nat) : Int); omega, by show B.1 367 2 = p + ((0 : Nat) : Int); omega, fun k k0 k1 => h k k0 (by omega)⟩
  | t + 1, z, p, A, B, hp, hA, hB, h => by
    have e := rl_eq (kind := kind) (r := rN z) (p := p) (f := A.1 2) (g := B.1 368) hk (rN_rg z) hp h
    obtain ⟨A1, eA⟩ : ∃ A1, A1 = wI (wI A 2 (A.1 1 1) (rlC kind (rN z) (A.1 1 1) (A.1 2) % 256)) 1 1 (A.1 1 1 + 1) := ⟨_, rfl⟩
    obtain ⟨B1, eB⟩ : ∃ B1, B1 = wI (wI B 368 (B.1 367 2) (b8 (b8 (rlM kind (rN z) (B.1 367 2) (B.1 368))))) 367 2 (B.1 367 2 + 1) := ⟨_, rfl⟩
    have fA : fC kind (t + 1) z A = fC kind t (zN z) A1 := by rw [eA]; rfl
    have fB : fM kind (t + 1) z B = fM kind t (zN z) B1 := by rw [eB]; rfl
    rw [hA] at eA
    rw [hB, e] at eB
    have ih := fill_e hk t (zN z) (p + 1) A1 B1 (by omega) (by rw [eA, wI_at]) (by rw [eB, wI_at]) (fun k k0 k1 => by
      by_cases c : k = p
      · rw [c, eA, wI_no _ (by omega), wI_at, eB, wI_no _ (by omega), wI_at]
        exact ⟨by omega, rfl⟩
      · rw [eA, wI_no _ (by omega), wI_no _ (fun y => c y.2), eB, wI_no _ (by omega), wI_no _ (fun y => c y.2)]
        exact h k k0 (by omega))
    rw [fA, fB]
    rw [show p + 1 + (t : Int) = p + ((t + 1 : Nat) : Int) by omega] at ih
    exact ih
theorem kx_1 (h : KX i S) (ha : 0 ≤ a ∧ a ≤ 3) (hb : 0 ≤ b) (hp : S.1 1 1 + b ≤ 6000) : KX (i + 1) (fM a b.toNat d (wI (fC a b.toNat d S) 367 0 0)) := by
  obtain ⟨t1, t2, t3⟩ := h.1
  obtain ⟨c1, c2⟩ := fC_s (kind := a) b.toNat d S
  obtain ⟨A, eA⟩ : ∃ A, A = fC a b.toNat d S := ⟨_, rfl⟩
  obtain ⟨m1, m2⟩ := fM_s (kind := a) b.toNat d (wI A 367 0 0)
  obtain ⟨f1, f2, f3⟩ := fill_e (kind := a) ha b.toNat d (S.1 1 1) S (wI A 367 0 0) t1.1 rfl (by rw [wI_no _ (by omega), eA, c2 _ _ (by decide) (by decide)]; exact t2) (fun k k0 k1 => by
    rw [wI_no _ (by omega), eA, c2 _ _ (by decide) (by decide)]
    exact t3 k k0 k1)
  rw [← eA] at c1 c2 f1 f3 ⊢
  obtain ⟨T, eT⟩ : ∃ T, T = fM a b.toNat d (wI A 367 0 0) := ⟨_, rfl⟩
  rw [← eT] at m1 m2 f2 f3 ⊢
  have eT1 : ∀ (c : Nat) (k : Int), c = 1 ∨ c = 2 → T.1 c k = A.1 c k := fun c k y => by rw [m2 c k (by omega) (by omega), wI_no _ (by omega)]
  refine KX_T h (by rw [m1]; exact c1) ?_ (fun c k y1 y2 y3 y4 => by rw [m2 c k (by omega) y4, wI_no _ (by omega), c2 c k y1 y2])
  unfold RT
  rw [eT1 1 1 (by omega), f1]
  refine ⟨by omega, f2, fun k k0 k1 => ?_⟩
  rw [eT1 2 k (by omega)]
  exact f3 k k0 k1
/-- cut -/
theorem kx_2 (h : KX i S) (ha : -2147483648 ≤ a ∧ a < 2147483648) (h0 : 0 ≤ w32 a) (h1 : w32 a ≤ S.1 1 1) : KX (i + 1) (wI (wI (wI S 1 1 a) 367 0 0) 367 2 a) := by
  rw [w32_of ha] at h0 h1
  obtain ⟨t1, t2, t3⟩ := h.1
  obtain ⟨T, eT⟩ : ∃ T, T = wI (wI (wI S 1 1 a) 367 0 0) 367 2 a := ⟨_, rfl⟩
  have e : ∀ (c : Nat) (k : Int), ¬ (c = 1 ∧ k = 1) → ¬ (c = 367 ∧ (k = 0 ∨ k = 2)) → T.1 c k = S.1 c k := fun c k y1 y2 => by rw [eT, wI_no _ (by omega), wI_no _ (by omega), wI_no _ y1]
  rw [← eT]
  refine KX_T h (by rw [eT]; rfl) ?_ (fun c k y1 y2 y3 y4 => e c k (by omega) y3)
  have e11 : T.1 1 1 = a := by rw [eT, wI_no _ (by omega), wI_no _ (by omega), wI_at]
  unfold RT
  rw [e11]
  refine ⟨by omega, by rw [eT, wI_at], fun k k0 k1 => ?_⟩
  rw [e 2 k (by omega) (by omega), e 368 k (by omega) (by omega)]
  exact t3 k k0 (by omega)
/-- alter -/
theorem kx_3 (h : KX i S) (h0 : 0 ≤ w32 a) (h1 : w32 a < S.1 1 1) (b0 : 0 ≤ b) (b1 : b < 256) : KX (i + 1) (wI (wI (wI S 2 (w32 a) b) 367 0 0) 368 (w32 a) (b8 (b8 b))) := by
  obtain ⟨t1, t2, t3⟩ := h.1
  obtain ⟨x, ex⟩ : ∃ x, x = w32 a := ⟨_, rfl⟩
  rw [← ex] at h0 h1 ⊢
  obtain ⟨T, eT⟩ : ∃ T, T = wI (wI (wI S 2 x b) 367 0 0) 368 x (b8 (b8 b)) := ⟨_, rfl⟩
  have e : ∀ (c : Nat) (k : Int), ¬ ((c = 2 ∨ c = 368) ∧ k = x) → ¬ (c = 367 ∧ k = 0) → T.1 c k = S.1 c k := fun c k y1 y2 => by rw [eT, wI_no _ (by omega), wI_no _ (by omega), wI_no _ (by omega)]
  rw [← eT]
  refine KX_T h (by rw [eT]; rfl) ?_ (fun c k y1 y2 y3 y4 => e c k (by omega) (by omega))
  unfold RT
  rw [e 1 1 (by omega) (by omega), e 367 2 (by omega) (by omega)]
  refine ⟨t1, t2, fun k k0 k1 => ?_⟩
  by_cases c : k = x
  · rw [c, show T.1 2 x = b by rw [eT, wI_no _ (by omega), wI_no _ (by omega), wI_at], show T.1 368 x = b8 (b8 b) by rw [eT, wI_at]]
    exact ⟨⟨b0, b1⟩, b8_of (b8_rg b)⟩
  · rw [e 2 k (by omega) (by omega), e 368 k (by omega) (by omega)]
    exact t3 k k0 k1
/-- load -/
theorem kx_8 (h : KX i S) (hL : Lv S a) (h6 : S.1 (sR a) 1 ≤ 6000) : KX (i + 1) (let U := wI (wI (RW (CL S 1) 1 0 (S.1 (sR a) 1) (fun k => S.1 (sR a + 1) k)) 367 0 0) 367 2 (S.1 (sR a) 1); wC U 368 0 (S.1 (sR a) 1) (fun k => b8 (U.1 369 (12000 * a + k)))) := by
  obtain ⟨a1, a2, a3⟩ := hL
  obtain ⟨-, -, s3⟩ := h.2.1 a a1 a2
  obtain ⟨⟨n0, n1⟩, s4, s5⟩ := s3 a3
  have rg := sR_rg a1 a2
  obtain ⟨n, en⟩ : ∃ n, S.1 (sR a) 1 = n := ⟨_, rfl⟩
  rw [en] at n0 n1 s4 s5 h6 ⊢
  obtain ⟨U, eU⟩ : ∃ U, U = wI (wI (RW (CL S 1) 1 0 n (fun k => S.1 (sR a + 1) k)) 367 0 0) 367 2 n := ⟨_, rfl⟩
  have kU : ∀ (c : Nat) (k : Int), U.1 c k = if c = 367 ∧ k = 2 then n else if c = 367 ∧ k = 0 then 0 else if c = 1 ∧ k = 1 then 0 + n else if c = 1 + 1 ∧ 0 ≤ k ∧ k < 0 + n then S.1 (sR a + 1) (k - 0) else if c = 1 ∧ k = 3 then 0 else if c = 1 ∧ k = 2 then 0 else if c = 1 ∧ k = 1 then 0 else S.1 c k := fun c k => by rw [eU]; rfl
  obtain ⟨T, eT⟩ : ∃ T, T = wC U 368 0 n (fun k => b8 (U.1 369 (12000 * a + k))) := ⟨_, rfl⟩
  have kT : ∀ (c : Nat) (k : Int), T.1 c k = if c = 368 ∧ 0 ≤ k ∧ k < 0 + n then b8 (U.1 369 (12000 * a + (k - 0))) else U.1 c k := fun c k => by rw [eT]; rfl
  show KX (i + 1) (wC (wI (wI (RW (CL S 1) 1 0 n (fun k => S.1 (sR a + 1) k)) 367 0 0) 367 2 n) 368 0 n (fun k => b8 ((wI (wI (RW (CL S 1) 1 0 n (fun k => S.1 (sR a + 1) k)) 367 0 0) 367 2 n).1 369 (12000 * a + k))))
  rw [← eU, ← eT]
  refine KX_T h (by rw [eT, eU]; rfl) ?_ (fun c k y1 y2 y3 y4 => by rw [kT, if_neg (by omega), kU, if_neg (by omega), if_neg (by omega), if_neg (by omega), if_neg (by omega), if_neg (by omega), if_neg (by omega), if_neg (by omega)])
  have e11 : T.1 1 1 = n := by rw [kT, if_neg (by omega), kU, if_neg (by omega), if_neg (by omega), if_pos ⟨rfl, rfl⟩]; omega
  unfold RT
  rw [e11]
  refine ⟨⟨n0, h6⟩, by rw [kT, if_neg (by omega), kU, if_pos ⟨rfl, rfl⟩], fun k k0 k1 => ?_⟩
  have e2 : T.1 2 k = S.1 (sR a + 1) k := by rw [kT, if_neg (by omega), kU, if_neg (by omega), if_neg (by omega), if_neg (by omega), if_pos ⟨rfl, k0, by omega⟩, show k - 0 = k by omega]
  have e368 : T.1 368 k = b8 (S.1 369 (12000 * a + k)) := by rw [kT, if_pos ⟨rfl, k0, by omega⟩, kU, if_neg (by omega), if_neg (by omega), if_neg (by omega), if_neg (by omega), if_neg (by omega), if_neg (by omega), if_neg (by omega), show k - 0 = k by omega]
  obtain ⟨s6, s7⟩ := s5 k k0 k1
  rw [e2, e368, s7]
  exact ⟨s6, b8_of (b8_rg _)⟩
end KpB
