/-! pack: BLOCKS; a level on both sides; FIXED blocks: level 1 -/
section PFix
variable {q : Nat × (Nat → Int32)} {x : Int} {t : Int → Int}
theorem md_fixP {B : ms} : ∃ B1, EX XSm B B1 ∧ EV q 306 0 [some (.ref 367), none, none] [] B none B1 ∧ CodN B1 385 386 288 flF ∧ CodN B1 387 388 32 (fun _ => 5) := by
  obtain ⟨B1, a1, a2, a3⟩ := fx1 (q := q) 288 0 B (by omega) (fun k hk => absurd hk (by omega))
  obtain ⟨B2, b1, b2, b3⟩ := fx2 (q := q) 32 0 B1 (by omega) (fun k hk => absurd hk (by omega))
  have u5 : ∀ k : Nat, k < 288 → B2.1 385 k = flF k := fun k hk => by
    rw [b1.2 385 k (show ¬ (385 : Nat) = 387 by decide)]
    exact a2 k hk
  obtain ⟨B3, c1, c2, c3, c4, c5⟩ := md_codes (q := q) (B := B2) (l := flF) (n := 288) (fr := 0) sh_385 sh_386 (by decide) (by omega) (by decide) (by decide) (by decide) (fun s hs => ⟨by have := flF_rg s; omega, by
    rw [Int.zero_add]
    exact u5 s hs⟩)
  obtain ⟨B4, d1, d2, d3, d4, d5⟩ := md_codes (q := q) (B := B3) (l := fun _ => 5) (n := 32) (fr := 0) sh_387 sh_388 (by decide) (by omega) (by decide) (by decide) (by decide) (fun s hs => ⟨by decide, by
    rw [Int.zero_add, c3 387 s (by decide)]
    exact b2 s hs⟩)
  have ex : EX XSm B B4 := EX.trans (EX.mono a1 (fun a k y => by unfold XSm; omega)) (EX.trans (EX.mono b1 (fun a k y => by unfold XSm; omega)) (EX.trans ⟨c2, fun a k y => c3 a k (fun z => y (by unfold XSm; omega))⟩ ⟨d2, fun a k y => d3 a k (fun z => y (by unfold XSm; omega))⟩))
  have k61 : EV q 306 61 [some (.ref 367), some (vI 32), none] [] B2 none B4 := vc_MD_fixed_61 _ (cY (by decide) ⟨_, B3, c1, _, B4, d1, rfl, rfl⟩)
  refine ⟨B4, ex, vc_MD_fixed (a3 none B4 (b3 none B4 k61)), ⟨fun s hs => ⟨by have := flF_rg s; omega, ?_⟩, fun s hs hl => ?_⟩, ⟨fun s hs => ⟨by show (0 : Int) ≤ 5 ∧ (5 : Int) ≤ 20; decide, ?_⟩, fun s hs hl => ?_⟩⟩
  · rw [d3 385 s (by decide), c3 385 s (by decide)]
    exact u5 s hs
  · rw [d3 386 s (by decide)]
    have := c5 s hs (by omega)
    rw [Int.zero_add] at this
    exact this
  · rw [d3 387 s (by decide), c3 387 s (by decide)]
    exact b2 s hs
  · have := d5 s hs (by omega)
    rw [Int.zero_add] at this
    exact this
/-- what the class's BLOCKS keep: the fixed codes and the tables of lengths -/
def BlC (A : ms) : Prop := CodW A 31 288 flF ∧ CodW A 42 32 (fun _ => 5) ∧ ∀ k : Int, 3 ≤ k → k ≤ 258 → A.1 92 k = 257 + lsF k ∧ A.1 93 k = flF (257 + lsF k) + sS 1 (lsF k)
theorem BlC_e {A A' : ms} (h : BlC A) (e : ∀ (a : Nat) (k : Int), (31 ≤ a ∧ a ≤ 52) ∨ a = 92 ∨ a = 93 → A'.1 a k = A.1 a k) : BlC A' := by
  obtain ⟨⟨c1, c2, c3, c4⟩, ⟨d1, d2, d3, d4⟩, h92⟩ := h
  refine ⟨⟨c1, c2, fun s hs => ?_, fun s hs y => ?_⟩, ⟨d1, d2, fun s hs => ?_, fun s hs y => ?_⟩, fun k k0 k1 => ?_⟩
  · rw [e _ _ (by omega)]; exact c3 s hs
  · rw [e _ _ (by omega)]; exact c4 s hs y
  · rw [e _ _ (by omega)]; exact d3 s hs
  · rw [e _ _ (by omega)]; exact d4 s hs y
  · rw [e _ _ (by omega), e _ _ (by omega)]; exact h92 k k0 k1
def JB (q : Nat × (Nat → Int32)) (lv x : Int) (t : Int → Int) (s0 : Wb) : Prop := ∃ (s' : Wb) (T : Int → Int × Int × Int) (K : Int), (wbR 0 s' ∧ (s0.1.1 ≤ s'.1.1 ∧ s'.1.1 < 900000) ∧ (0 ≤ K ∧ K ≤ 6000) ∧ (lv = 0 → K = 0)) ∧ (∀ (A : ms) (o a1 : Nat), isRow o 12000 → (342 < o ∨ o = 7) → BlC A → TXr A a1 x t → CBt A o 12000 s0 → A.1 10 8 = 0 → ∃ (A' : ms) (c : Nat) (z : Int), (s'.1.1 ≤ 12000 → z = wbB s' - wbB s0) ∧ EY (XPa o) (wR A 10 2 c) A' ∧ CBt A' o 12000 (wbEnd s') ∧ CTk A' T K ∧ EV q 55 0 [some (.ref 30), some (.ref a1), some (vI lv), some (.ref o), none, none] [] A (some (vI z)) A') ∧ ∀ B : ms, TbK B → TXm B x t → MBt B 0 s0 → ∃ B' : ms, EY XPb B B' ∧ TbK B' ∧ MBt B' 0 (wbEnd s') ∧ (0 < lv → MTk B' T K) ∧ B'.1 367 56 = wbB s' - wbB s0 ∧ EV q 289 0 [some (.ref 367), some (vI lv), none, none, none, none, none] [] B none B'
/-- what is written does not depend on its place -/
def RlB (s0 s v : Wb) : Prop := Rl s0.1 s.1 v.1 ∧ s.2 = v.2 ∧ (v.2 ≠ 0 → 1 ≤ v.1.1)
def ShE (F : Wb → Wb) : Prop := ∀ s0 s v : Wb, RlB s0 s v → RlB s0 (F s) (F v)
theorem Rl_add (c : Int) {w0 w v : Wt} (h : Rl w0 w v) (h1 : 1 ≤ v.1) : Rl w0 (wtAdd c w) (wtAdd c v) := by
  obtain ⟨⟨a1, a2⟩, a3, a4⟩ := h
  refine ⟨⟨a1, a2⟩, fun k k0 k1 => ?_, fun k k1 => ?_⟩
  · have k1' : k < v.1 := k1
    have e := a3 k k0 k1'
    rw [wtAdd_2, wtAdd_2]
    by_cases c1 : k = v.1 - 1
    · rw [if_pos (by omega), if_pos c1, e]
    · rw [if_neg (by omega), if_neg c1, e]
  · have e := a4 k k1
    rw [wtAdd_2, if_neg (by omega), e]
theorem RlB_pc (m : Nat) (p : Int) : ShE (wbPc m p) := fun s0 s v h => by
  obtain ⟨h1, h2, h3⟩ := h
  have r : Rl s0.1 (wbO s) (wbO v) ∧ 1 ≤ (wbO v).1 := by
    unfold wbO
    rw [h2]
    by_cases c : v.2 = 0
    · rw [if_pos c, if_pos c]
      exact ⟨Rl_put 0 h1, by have := h1.1.2; rw [wtPut_1]; omega⟩
    · rw [if_neg c, if_neg c]
      exact ⟨h1, h3 c⟩
  refine ⟨?_, ?_, fun _ => r.2⟩
  · show Rl s0.1 (wtAdd (p * (2 : Int) ^ s.2) (wbO s)) (wtAdd (p * (2 : Int) ^ v.2) (wbO v))
    rw [h2]
    exact Rl_add _ r.1 r.2
  · show (s.2 + m) % 8 = (v.2 + m) % 8
    rw [h2]
theorem RlB_low : ∀ (n : Nat) (v : Int), ShE (wbLow n v)
  | 0, _ => fun _ _ _ h => h
  | n + 1, v => fun s0 s u h => by
    rw [wbLow_s, wbLow_s]
    exact RlB_low n _ _ _ _ (RlB_pc _ _ _ _ _ h)
theorem RlB_code (v : Int) : ∀ n : Nat, ShE (wbCode v n)
  | 0 => fun _ _ _ h => h
  | n + 1 => fun s0 s u h => by
    rw [wbCode_s, wbCode_s]
    exact RlB_code v n _ _ _ (RlB_pc _ _ _ _ _ h)
theorem RlB_sym (l : Int → Int) (n : Nat) (k : Int) : ShE (wbSym l n k) := fun s0 s u h => RlB_code _ _ _ _ _ h
theorem RlB_tk (l : Int → Int) (n : Nat) (dl : Int → Int) (dn : Nat) (t : Int → Int) (T : Int × Int × Int) : ShE (tkB l n dl dn t T) := fun s0 s u h => by
  unfold tkB
  by_cases c : T.2.1 = 0
  · rw [if_pos c, if_pos c]
    exact RlB_sym _ _ _ _ _ _ h
  · rw [if_neg c, if_neg c]
    exact RlB_low _ _ _ _ _ (RlB_sym _ _ _ _ _ _ (RlB_low _ _ _ _ _ (RlB_sym _ _ _ _ _ _ h)))
theorem RlB_tks (l : Int → Int) (n : Nat) (dl : Int → Int) (dn : Nat) (t : Int → Int) (T : Int → Int × Int × Int) : ∀ v k : Nat, ShE (tksB l n dl dn t T k v)
  | 0, k => RlB_sym l n 256
  | v + 1, k => fun s0 s u h => by
    rw [tksB_s, tksB_s]
    exact RlB_tks l n dl dn t T v (k + 1) _ _ _ (RlB_tk _ _ _ _ _ _ _ _ _ h)
theorem RlB_0 {s0 : Wb} (h0 : s0.2 = 0) : RlB s0 s0 (w00, 0) := ⟨Rl_0 _, h0, fun y => absurd rfl y⟩
/-- a level on both sides, from s0 to s' -/
def JBx (q : Nat × (Nat → Int32)) (lv x : Int) (t : Int → Int) (s0 s' : Wb) (T : Int → Int × Int × Int) (K : Int) : Prop := (wbR 0 s' ∧ (s0.1.1 ≤ s'.1.1 ∧ s'.1.1 < 900000) ∧ (0 ≤ K ∧ K ≤ 6000) ∧ (lv = 0 → K = 0)) ∧ (∀ (A : ms) (o a1 : Nat), isRow o 12000 → (342 < o ∨ o = 7) → BlC A → TXr A a1 x t → CBt A o 12000 s0 → s0.1.1 ≤ 1000 → ∃ (A' : ms) (c : Nat) (z : Int), (s'.1.1 ≤ 12000 → z = wbB s' - wbB s0) ∧ EY (XPa o) (wR A 10 2 c) A' ∧ CBt A' o 12000 (wbEnd s') ∧ (A.1 10 8 = 0 ∨ lv ≠ 0 → CTk A' T K) ∧ EV q 55 0 [some (.ref 30), some (.ref a1), some (vI lv), some (.ref o), none, none] [] A (some (vI z)) A') ∧ ∀ B : ms, TbK B → TXm B x t → MBt B 0 s0 → ∃ B' : ms, EY XPb B B' ∧ TbK B' ∧ MBt B' 0 (wbEnd s') ∧ (0 < lv → MTk B' T K) ∧ B'.1 367 56 = wbB s' - wbB s0 ∧ EV q 289 0 [some (.ref 367), some (vI lv), none, none, none, none, none] [] B none B'
def JBs (q : Nat × (Nat → Int32)) (lv x : Int) (t : Int → Int) : Prop := ∃ (F : Wb → Wb) (T : Int → Int × Int × Int) (K : Int), ShE F ∧ ∀ s0 : Wb, s0.2 = 0 → wbR 0 s0 → s0.1.1 ≤ 15000 → JBx q lv x t s0 (F s0) T K
theorem JB_of {lv : Int} (h : JBs q lv x t) {s0 : Wb} (h0 : s0.2 = 0) (hr : wbR 0 s0) (hs : s0.1.1 ≤ 1000) : JB q lv x t s0 := by
  obtain ⟨F, T, K, -, h1⟩ := h
  obtain ⟨j1, jc, jm⟩ := h1 s0 h0 hr (by omega)
  refine ⟨F s0, T, K, j1, fun A o a1 ho o3 hI hA h h8 => ?_, jm⟩
  obtain ⟨A', c, z, k1, k2, k3, k4, k5⟩ := jc A o a1 ho o3 hI hA h hs
  exact ⟨A', c, z, k1, k2, k3, k4 (Or.inl h8), k5⟩
/-- the end of packAll -/
theorem cl_pend {A : ms} {o a1 na : Nat} {s0 s : Wb} {lv b0 : Int} (ha : isRow a1 na) (ho : isRow o 12000) (hr : wbR 0 s) (h0 : s0.2 = 0 ∧ b0 = s0.1.1) (h : CBt A o 12000 s) : ∃ A' z, (s.1.1 ≤ 12000 → z = wbB s - wbB s0) ∧ EX (XRb o) A A' ∧ CBt A' o 12000 (wbEnd s) ∧ EV q 55 132 [some (.ref 30), some (.ref a1), some (vI lv), some (.ref o), some (vI b0), none] [] A (some (vI z)) A' := by
  obtain ⟨A', k1, k2, k3⟩ := cw_close (q := q) ho h
  refine ⟨A', (A.1 o 1 - b0) * 8 - A.1 o 3, fun c => ?_, k2, k3, vc_Blocks_packAll_132 _ _ _ _ ha _ _ ho ⟨A', k1, rfl, rfl⟩⟩
  rw [(h.1.1 c).1, h.2]
  unfold wbB
  rw [h0.1, if_pos rfl, h0.2]
  split <;> omega
/-- a FIXED block of tokens -/
def fxB (t : Int → Int) (T : Int → Int × Int × Int) (K : Nat) (s : Wb) : Wb := tksB flF 288 (fun _ => 5) 32 t T 0 K (wbLow 2 1 (wbLow 1 1 s))
theorem RlB_fx (t : Int → Int) (T : Int → Int × Int × Int) (K : Nat) : ShE (fxB t T K) := fun s0 s u h => RlB_tks _ _ _ _ _ _ _ _ _ _ _ (RlB_low _ _ _ _ _ (RlB_low _ _ _ _ _ h))
theorem fl_ok : (∀ i : Nat, i < 288 → 0 ≤ flF i ∧ flF i ≤ 20) ∧ (∀ i : Nat, i < 32 → 0 ≤ (fun _ : Int => (5 : Int)) i ∧ (fun _ : Int => (5 : Int)) i ≤ 20) ∧ 286 ≤ 288 ∧ 30 ≤ 32 := ⟨fun i _ => by have := flF_rg i; omega, fun i _ => by show (0 : Int) ≤ 5 ∧ (5 : Int) ≤ 20; decide, by decide, by decide⟩
theorem jfix {T : Int → Int × Int × Int} {K : Nat} {s : Wb} (hK : K ≤ 6000) (ht : ∀ k : Int, 0 ≤ k → k < x → 0 ≤ t k ∧ t k < 256) (hx : 0 ≤ x ∧ x ≤ 6000) (hV : ∀ k : Nat, k < K → tkV x (T k)) (hr : wbR 0 s) (hs : s.1.1 < 100000) : (wbR 0 (fxB t T K s) ∧ s.1.1 ≤ (fxB t T K s).1.1 ∧ (fxB t T K s).1.1 ≤ s.1.1 + 60 * K + 30) ∧ (∀ (A : ms) (o a1 : Nat), isRow o 12000 → (342 < o ∨ o = 7) → BlC A → TXr A a1 x t → CTk A T K → CBt A o 12000 s → ∃ A', EX (XRb o) A A' ∧ CBt A' o 12000 (fxB t T K s) ∧ EV q 64 0 [some (.ref 30), some (.ref a1), some (.ref o)] [] A none A') ∧ ∀ (B : ms) (x1 : Int), TbM B → TXm B x t → MTk B T K → MBt B 0 s → ∃ B', EX (fun a k => XWb a k ∨ XSm a k) B B' ∧ MBt B' 0 (fxB t T K s) ∧ B'.1 367 12 = B.1 367 12 + (wbB (fxB t T K s) - wbB s) ∧ ∀ (R : Option Value) (S' : ms), EV q 289 357 [some (.ref 367), some (vI x1), none, none, none, none, none] [] B' R S' → EV q 289 332 [some (.ref 367), some (vI x1), none, none, none, none, none] [] B R S' := by
  have r1 := wbLow_r 1 1 s hr
  have r2 := wbLow_r 2 1 _ r1
  have n1 := wbLow_n 1 1 s
  have n2 := wbLow_n 2 1 (wbLow 1 1 s)
  obtain ⟨⟨t1, t2, t3⟩, tc, tm⟩ := jtoks (q := q) (x := x) (t := t) (T := T) (K := K) (to := K) (l := flF) (n := 288) (dl := fun _ => 5) (dn := 32) hK (Nat.le_refl _) ht hx hV fl_ok K 0 (wbLow 2 1 (wbLow 1 1 s)) (by omega) r2 (by omega)
  have e : tksB flF 288 (fun _ => 5) 32 t T 0 K (wbLow 2 1 (wbLow 1 1 s)) = fxB t T K s := rfl
  rw [e] at t1 t2 t3 tc tm
  refine ⟨⟨t1, by omega, by omega⟩, fun A o a1 ho o3 hI hA hT h => ?_, fun B x1 hTb hB hT h => ?_⟩
  · obtain ⟨A1, k1, k2, k3⟩ := cw_low_bits (q := q) (v := 1) (n := 1) (by decide) (by decide) ho (by decide) hr (by omega) h
    obtain ⟨A2, j1, j2, j3⟩ := cw_low_bits (q := q) (v := 1) (n := 2) (by decide) (by decide) ho (by decide) r1 (by omega) k3
    have xx : EX (XRb o) A A2 := k2.trans j2
    have hI2 : BlC A2 := BlC_e hI (fun a k y => xx.2 a k (by unfold XRb; omega))
    have hC : CdsC A2 31 42 288 32 flF (fun _ => 5) := ⟨Or.inl ⟨rfl, rfl⟩, hI2.1, hI2.2.1, by decide, fun k k0 k1 => (hI2.2.2 k k0 k1).1⟩
    have hT2 := CTk_b o3 hT xx
    obtain ⟨A', g1, g2, g3⟩ := tc A2 o 31 42 a1 0 0 ho o3 (TXr_b o3 hA xx) hC hT2 j3
    refine ⟨A', xx.trans g1, g2, vc_Blocks_fixedBlock _ _ hA.1.1 _ _ ho ⟨A1, k1, A2, j1, A', ?_, rfl, rfl⟩⟩
    rw [hT2.1]
    exact vc_Blocks_tokensOut _ _ _ _ _ hA.1.1 _ _ ho (cY (by decide) (vc_Blocks_tokensOut_16 _ _ _ _ _ hA.1.1 _ _ ho _ hI2.1.1 (cY (by decide) (vc_Blocks_tokensOut_34 _ _ _ _ _ hA.1.1 _ _ ho _ hI2.1.1 _ hI2.2.1.1 g3))))
  · obtain ⟨B1, k1, k2, k3, k4⟩ := mw_low_bits (q := q) (v := 1) (n := 1) (by decide) (by decide) hr (by omega) h
    obtain ⟨B2, j1, j2, j3, j4⟩ := mw_low_bits (q := q) (v := 1) (n := 2) (by decide) (by decide) r1 (by omega) k3
    obtain ⟨B3, f1, f2, f3, f4⟩ := md_fixP (q := q) (B := B2)
    have at3 : ∀ (a : Nat) (k : Int), ¬ (385 ≤ a ∧ a ≤ 388) → B3.1 a k = B2.1 a k := fun a k y => f1.2 a k (by unfold XSm; exact y)
    have h3 : MBt B3 0 (wbLow 2 1 (wbLow 1 1 s)) := MBt_cg j3 (fun a k y => at3 a k (by unfold XWb at y; omega))
    have hT3 : MTk B3 T K := MTk_e (MTk_b (MTk_b hT k2) j2) (fun a k y => at3 a k (by unfold XTm at y; omega))
    have hB3 : TXm B3 x t := TXm_e (TXm_b (TXm_b hB k2) j2) (fun a k y => at3 a k (by omega))
    have tb : TbM B3 := by
      have at4 : ∀ (a : Nat) (k : Int), 391 ≤ a ∧ a ≤ 394 → B3.1 a k = B.1 a k := fun a k y => by rw [at3 a k (by omega), j2.2 a k (by unfold XWb; omega), k2.2 a k (by unfold XWb; omega)]
      exact ⟨fun s h0 h1 => by rw [at4 391 s (by omega), at4 392 s (by omega)]; exact hTb.1 s h0 h1, fun s h0 h1 => by rw [at4 393 s (by omega), at4 394 s (by omega)]; exact hTb.2 s h0 h1⟩
    obtain ⟨B', g1, g2, g4, g3⟩ := tm B3 0 hB3 ⟨f3, f4, by decide, tb⟩ hT3 h3
    have b1 := wbB_low 1 1 s hr.2.1
    have b2 := wbB_low 2 1 (wbLow 1 1 s) r1.2.1
    have e12 : B3.1 367 12 = B2.1 367 12 := at3 367 12 (by omega)
    refine ⟨B', (((EX.mono k2 (fun a k y => Or.inl y)).trans (EX.mono j2 (fun a k y => Or.inl y))).trans (EX.mono f1 (fun a k y => Or.inr y))).trans (EX.mono g1 (fun a k y => Or.inl y)), g2, by omega, fun R S' kk => vc_MD_packBlocks_332 _ ⟨B1, k1, B2, j1, B3, f2, B', ?_, kk⟩⟩
    rw [hT3.1]
    exact vc_MD_writeTokens _ _ g3
/-- greedy tokens may stand -/
theorem gr_V {cut : Int} {n0 d0 : Int → Int} {P : Nat → Int} {K : Nat} (hx : 0 ≤ x ∧ x ≤ 6000) (hc : cut = 0 ∨ cut = 1) (hL : ∀ p : Int, 0 ≤ p → p < x → LM t p (min 258 (x - p)) (n0 p) (d0 p)) (hP : GP x (grS 3 cut x n0) (grG 3 cut x n0 d0) P K) : ∀ k : Nat, k < K → tkV x (tkF (grS 3 cut x n0) (grG 3 cut x n0 d0) P k) := fun k hk => by
  have hp := hP.2.2 k hk
  have g0 := grc_b hx hc hL (P k) hp.1.1 hp.1.2
  have hl := (hL (P k) hp.1.1 hp.1.2)
  have hl1 := hl.1
  have ek : tkF (grS 3 cut x n0) (grG 3 cut x n0 d0) P k = (grS 3 cut x n0 (P k), grG 3 cut x n0 d0 (P k), P k) := by unfold tkF; rw [show ((k : Int)).toNat = k by omega]
  rw [ek]
  obtain ⟨L, eL⟩ : ∃ L, L = min (n0 (P k)) ((if cut = 0 then x else P k / 2000 * 2000 + 2000) - P k) := ⟨_, rfl⟩
  rw [← eL] at g0
  by_cases c : 3 ≤ L
  · have e1 : grS 3 cut x n0 (P k) = L := by rw [g0.1, if_pos c]
    have e2 : grG 3 cut x n0 d0 (P k) = d0 (P k) := by rw [g0.2, if_pos c]
    have hd := (hl.2.2.1 (by omega)).1
    rw [e1, e2]
    exact Or.inr ⟨by show 1 ≤ d0 (P k) ∧ d0 (P k) ≤ 6000; omega, by show 3 ≤ L ∧ L ≤ 258; omega⟩
  · have e2 : grG 3 cut x n0 d0 (P k) = 0 := by rw [g0.2, if_neg c]
    rw [e2]
    exact Or.inl ⟨rfl, hp.1.1, hp.1.2⟩
theorem cl_greedyR {least most cut : Int} {n0 d0 : Int → Int} {P : Nat → Int} {K a1 : Nat} {A : ms} (hx : 0 ≤ x ∧ x ≤ 6000) (hl : 3 ≤ least ∧ least ≤ 100) (hm : 1 ≤ most ∧ most ≤ 6000) (hc : 0 ≤ cut ∧ cut ≤ 2) (hL : ∀ p : Int, 0 ≤ p → p < x → LM t p (min most (x - p)) (n0 p) (d0 p)) (hP : GP x (grS least cut x n0) (grG least cut x n0 d0) P K) (hA : TXr A a1 x t) : ∃ A', EX (fun a k => XTc a k ∨ X4 a k ∨ XFu a k) (wR A 10 2 (a1 + 1)) A' ∧ CTk A' (tkF (grS least cut x n0) (grG least cut x n0 d0) P) K ∧ EV q 58 0 [some (.ref 10), some (.ref a1), some (vI least), some (vI most), some (vI cut), none, none, none] [] A none A' := by
  obtain ⟨A1, k1, k2, k3, k4⟩ := cl_chain (q := q) (A := A) (a1 := a1) (N := 6000) hA.1.1 (by have := hA.1.2; omega) (by omega) hx hA.2.1 hA.2.2
  obtain ⟨A', g1, g2, g3, g4⟩ := cl_greedy (q := q) hA.1.1 hx hl hm hc hL hP K 0 A1 (by omega) k4 ⟨k3, fun k k0 k1 => absurd k1 (by omega)⟩
  rw [hP.1] at g4
  exact ⟨A', (EX.mono k2 (fun a k y => Or.inr (Or.inr y))).trans (EX.mono g1 (fun a k y => y.imp id Or.inl)), g3, vc_Finder_greedy _ _ _ _ _ hA.1.1 ⟨A1, k1, g4⟩⟩
/-- what prepare and the three fields leave -/
def XPr (a : Nat) (k : Int) : Prop := XTb a k ∨ (a = 367 ∧ (k = 11 ∨ k = 12 ∨ k = 29))
theorem md_pre {B : ms} {s : Wb} (hK : TbK B) (hB : TXm B x t) (h : MBt B 0 s) : ∃ B1 B5, EX XPr B B5 ∧ TbM B5 ∧ TbK B5 ∧ TXm B5 x t ∧ MBt B5 0 s ∧ B5.1 367 29 = 0 ∧ B5.1 367 12 = 0 ∧ EV q 290 0 [some (.ref 367), none, none] [] B none B1 ∧ B5 = wI (wI (wI B1 367 11 0) 367 29 0) 367 12 0 := by
  obtain ⟨B1, k1, k2, k3, k4⟩ := md_prep (q := q) hK
  obtain ⟨B5, e5⟩ : ∃ B5, B5 = wI (wI (wI B1 367 11 0) 367 29 0) 367 12 0 := ⟨_, rfl⟩
  have x1 : EX XPr B B1 := EX.mono k1 (fun a k y => Or.inl y)
  have x5 : EX XPr B B5 := by
    rw [e5]
    exact ((x1.wr (by unfold XPr; omega)).wr (by unfold XPr; omega)).wr (by unfold XPr; omega)
  have at5 : ∀ (a : Nat) (k : Int), ¬ (a = 367 ∧ (k = 11 ∨ k = 12 ∨ k = 29)) → B5.1 a k = B1.1 a k := fun a k y => by rw [e5, wI_no _ (by omega), wI_no _ (by omega), wI_no _ (by omega)]
  have e15 : EY (fun a k => a = 367 ∧ (k = 11 ∨ k = 12 ∨ k = 29)) B1 B5 := ⟨by rw [e5]; rfl, fun a k y => at5 a k y⟩
  refine ⟨B1, B5, x5, ?_, TbK_ey k4 e15 (fun a k y => by omega), TXm_e hB (fun a k y => x5.2 a k (by unfold XPr XTb; omega)), ?_, by rw [e5, wI_no _ (by omega), wI_at], by rw [e5, wI_at], k2, e5⟩
  · exact ⟨fun s h0 h1 => by rw [at5 391 s (by omega), at5 392 s (by omega)]; exact k3.1 s h0 h1, fun s h0 h1 => by rw [at5 393 s (by omega), at5 394 s (by omega)]; exact k3.2 s h0 h1⟩
  · refine ⟨MWt_cg h.1 (fun a k y => x5.2 a k (by unfold XW at y; unfold XPr XTb; omega)), by rw [x5.2 367 10 (by unfold XPr XTb; omega)]; exact h.2.1, by rw [e5, wI_no _ (by omega), wI_no _ (by omega), wI_at]⟩
end PFix
