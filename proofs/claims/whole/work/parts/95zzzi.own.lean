/-! BLOCKS: a block's own codes, both sides at once -/
section Own
variable {q : Nat × (Nat → Int32)} {en : Int}
def X75 (a : Nat) (_ : Int) : Prop := 75 ≤ a ∧ a ≤ 85
theorem tc119 {S A : ms} {o : Nat} {t : Int → Int} {st : Rd} {u x2 x3 x4 x5 : Int} (c : st.1 ≠ 0) (hr : rdR en st) (h : CB S A o en t st u) : EV q 136 134 [some (.ref 30), some (.ref 9), some (vI x2), some (vI x3), some (vI x4), some (vI x5)] [] A none A ∧ EV q 136 119 [some (.ref 30), some (.ref 9), some (vI x2), some (vI x3), some (vI x4), some (vI x5)] [] A none A := by
  have wr : w32 st.1 = st.1 := w32_of (by have := hr.1; omega)
  have k : EV q 136 134 [some (.ref 30), some (.ref 9), some (vI x2), some (vI x3), some (vI x4), some (vI x5)] [] A none A := by
    refine vc_Blocks_openCodes_134 _ _ _ _ ?_
    rw [h.2.1.2.1, wr]
    exact cY c ⟨rfl, rfl⟩
  refine ⟨k, vc_Blocks_openCodes_119 _ _ _ _ ?_⟩
  rw [h.2.1.2.1, wr]
  exact cY c k
/-- the class, a rule told: the code for lengths is settled all the same -/
theorem tc_end {S A : ms} {o : Nat} {t : Int → Int} {st : Rd} {u x2 x3 x4 : Int} (c : st.1 ≠ 0) (hr : rdR en st) (ho : (300 < o ∨ o = 7)) (h : CB S A o en t st u) (hj : ∀ j : Nat, j < 19 → 0 ≤ S.1 76 (od j) ∧ S.1 76 (od j) < 8) : ∃ S1 A1, EX X75 S S1 ∧ CB S1 A1 o en t st u ∧ EV q 136 51 [some (.ref 30), some (.ref 9), some (vI x2), some (vI x3), some (vI x4), some (vI 19)] [] A none A1 := by
  have hl : ∀ s : Nat, s < 19 → 0 ≤ A.1 76 s ∧ A.1 76 s ≤ 20 := by
    intro s hs
    have g := oi_rg hs
    have := hj (oi s) g.1
    rw [g.2] at this
    rw [h.2.2.2 76 s (by omega) (by omega) (by omega)]
    omega
  obtain ⟨A1, k1, k2⟩ := ev_settle (q := q) (b := 75) (n := 19) (l := A.1 76) (S := A) (by decide) is_75 (by decide) hl (fun s hs => rfl)
  obtain ⟨S1, s1, s2, s3⟩ := CB_X (X := X75) (fun a k y => by unfold X75 at y; omega) h (EX.mono (SetP_EX k2) (fun a k y => by unfold X75; omega))
  obtain ⟨p1, p2⟩ := cd_full (q := q) (A := A1) (b := 75) (n := 19) (l := A.1 76) is_75 (by decide) hl k2.2.2.1.2.2
  by_cases cf : fu (A.1 76) 19
  · exact ⟨S1, A1, s1, s3, vc_Blocks_openCodes_51 _ _ _ _ (cY (by decide) ⟨A1, k1, 1, A1, p1 cf, cY (by decide) (tc119 c hr s3).2⟩)⟩
  · obtain ⟨A2, k3, k4⟩ := sb_tell (q := q) (k := 5) hr ho s3
    rw [rdTell_r c] at k4
    exact ⟨S1, A2, s1, k4, vc_Blocks_openCodes_51 _ _ _ _ (cY (by decide) ⟨A1, k1, 0, A1, p2 cf, cNN (by decide) ⟨A2, k3, (tc119 c hr k4).2⟩⟩)⟩
theorem tc_tail {t : Int → Int} {c o : Nat} {x2 x3 u : Int} {st : Rd} {S A : ms} (he : 0 ≤ en ∧ en ≤ 6000) (ht : ∀ k : Int, 0 ≤ k → k < en → 0 ≤ t k ∧ t k < 256) (hc : c ≤ 19) (ct : st.1 ≠ 0) (hr : rdR en st) (hh : hR st u) (hS : S.1 9 7 = 0) (hC : RdC S o en t) (h : CB S A o en t st u) : ∃ S1 A1, EX X75 S S1 ∧ CB S1 A1 o en t st u ∧ EV q 136 48 [some (.ref 30), some (.ref 9), some (vI x2), some (vI x3), some (vI c), none] [] A none A1 := by
  obtain ⟨S1, A1, m1, m2, m3, m4⟩ := tc_told (q := q) (c := c) (x2 := x2) (x3 := x3) he ht hc ct hr hh 19 0 S A (by decide) hS hC h (fun j hj => absurd hj (by omega))
  obtain ⟨S2, A2, n1, n2, n3⟩ := tc_end (q := q) (x2 := x2) (x3 := x3) (x4 := c) ct hr hC.2.2.1 m2 m3
  exact ⟨S2, A2, EX.trans (EX.mono m1 (fun a k y => by unfold X75; omega)) n1, n2, vc_Blocks_openCodes_48 _ _ _ (m4 none A2 n3)⟩
theorem tm_end {S B : ms} {st : Rd} {u x1 x2 x3 : Int} (c : st.1 ≠ 0) (hr : rdR en st) (h : MB S B en st u) : EV q 346 81 [some (.ref 367), some (vI x1), some (vI x2), some (vI x3), some (vI x3), none, none, none, none] [] B none B := by
  have kf := md_fine (q := q) hr h
  rw [if_neg c] at kf
  exact vc_MD_readOwn_81 _ _ _ _ (cY (Int.le_refl _) ⟨0, B, kf, cY (by decide) (vc_MD_readOwn_142 _ _ _ _ (ml_told c hr h))⟩)
theorem tm_tail {t : Int → Int} {c : Nat} {x1 x2 u : Int} {st : Rd} {S B : ms} (he : 0 ≤ en ∧ en ≤ 6000) (ht : ∀ k : Int, 0 ≤ k → k < en → 0 ≤ t k ∧ t k < 256) (hc : c ≤ 19) (ct : st.1 ≠ 0) (hr : rdR en st) (hh : hR st u) (hS : S.1 367 18 = 0) (hC : RdM S en t) (h : MB S B en st u) : ∃ S1 B1, EX (fun a _ => a = 389) S S1 ∧ MB S1 B1 en st u ∧ EV q 346 54 [some (.ref 367), some (vI x1), some (vI x2), some (vI c), none, none, none, none, none] [] B none B1 := by
  obtain ⟨B1, f1, f2, f3⟩ := tm_clear (q := q) (x1 := x1) (x2 := x2) (x3 := c) 20 0 B (by decide) (fun k hk => absurd hk (by omega))
  obtain ⟨S1, s1, s2, s3⟩ := MB_X (X := fun a _ => a = 389) (fun a k z => by omega) h f1
  obtain ⟨S2, B2, m1, m2, m3⟩ := tm_told (q := q) (c := c) (x1 := x1) (x2 := x2) he ht hc ct hr hh c 0 S1 B1 (by omega) (by rw [s1.2 367 18 (show ¬ (367 : Nat) = 389 by decide)]; exact hS) (RdM_ey hC s1.ey (fun k => show ¬ (368 : Nat) = 389 by decide)) s3
  exact ⟨S2, B2, EX.trans s1 m1, m2, vc_MD_readOwn_54 _ _ _ (f3 none B2 (m3 none B2 (tm_end ct hr m2)))⟩
def XCc (a : Nat) (_ : Int) : Prop := (53 ≤ a ∧ a ≤ 85) ∨ a = 89
def XCm (a : Nat) (k : Int) : Prop := (385 ≤ a ∧ a ≤ 390) ∨ a = 401 ∨ (a = 367 ∧ (k = 58 ∨ k = 59))
/-- what is left once the code for lengths has been read -/
theorem jown {t : Int → Int} {a n c : Nat} {W : Nat → Int} (he : 0 ≤ en ∧ en ≤ 6000) (ht : ∀ k : Int, 0 ≤ k → k < en → 0 ≤ t k ∧ t k < 256) (ha : 257 ≤ a ∧ a ≤ 286) (hn : 1 ≤ n ∧ n ≤ 30) (hW : ∀ j : Nat, 0 ≤ W j ∧ W j < 8) {st : Rd} {h : Int} (hr : rdR en st) (hh : hR st h) (c0 : st.1 = 0) : ∃ (stf : Rd) (hf : Int) (L : Int → Int), (rdR en stf ∧ Fw st stf ∧ hR stf hf) ∧ (stf.1 = 0 → rdP st h ≤ rdP stf hf ∧ ∀ k : Nat, k < a + n → 0 ≤ L k ∧ L k ≤ 15) ∧ (∀ (S A : ms) (o : Nat), S.1 9 7 = 0 → RdC S o en t → (∀ j : Nat, j < 19 → S.1 76 (od j) = W j) → CB S A o en t st h → ∃ S1 A1, EX XCc S S1 ∧ EV q 136 51 [some (.ref 30), some (.ref 9), some (vI a), some (vI n), some (vI c), some (vI 19)] [] A none A1 ∧ CB S1 A1 o en t stf hf ∧ (stf.1 = 0 → CodC S1 53 a L ∧ CodC S1 64 n (fun k => L (a + k)))) ∧ ∀ S B : ms, S.1 367 18 = 0 → RdM S en t → (∀ j : Nat, j < 19 → S.1 389 (od j) = W j) → MB S B en st h → ∃ S1 B1, EX XCm S S1 ∧ EV q 346 81 [some (.ref 367), some (vI a), some (vI n), some (vI c), some (vI c), none, none, none, none] [] B none B1 ∧ MB S1 B1 en stf hf ∧ (stf.1 = 0 → CodM S1 385 330 386 330 a L ∧ CodM S1 387 40 388 40 n (fun k => L (a + k)) ∧ S1.1 367 58 = a ∧ S1.1 367 59 = n) := by
  classical
  obtain ⟨l3, el3⟩ : ∃ l3 : Int → Int, l3 = fun k => W (oi k.toNat) := ⟨_, rfl⟩
  have e3 : ∀ s : Nat, l3 s = W (oi s) := fun s => by rw [el3]; rfl
  have hl3 : ∀ s : Nat, s < 19 → 0 ≤ l3 s ∧ l3 s ≤ 20 := fun s hs => by rw [e3]; have := hW (oi s); omega
  have r3 := (cS_rg 19 hl3).1
  have w3 : w32 (cS l3 19) = cS l3 19 := w32_of (by omega)
  have t5 := rd_gt (c := fu l3 19) (k := 5) (by decide) hr
  obtain ⟨st1, e1⟩ : ∃ x : Rd, x = if fu l3 19 then st else rdTell 5 st := ⟨_, rfl⟩
  rw [← e1] at t5
  have hh1 := hR_n hh t5.2
  -- the class as far as 119
  have hcl : ∀ (S A : ms) (o : Nat), S.1 9 7 = 0 → RdC S o en t → (∀ j : Nat, j < 19 → S.1 76 (od j) = W j) → CB S A o en t st h → ∃ S1 A1, EX X75 S S1 ∧ CB S1 A1 o en t st1 h ∧ CodC S1 75 19 l3 ∧ ∀ (T : ms), EV q 136 119 [some (.ref 30), some (.ref 9), some (vI a), some (vI n), some (vI c), some (vI 19)] [] A1 none T → EV q 136 51 [some (.ref 30), some (.ref 9), some (vI a), some (vI n), some (vI c), some (vI 19)] [] A none T := by
    intro S A o hS hC hj hA
    have ho := hC.2.2.1
    obtain ⟨A1, k1, k2⟩ := ev_settle (q := q) (b := 75) (n := 19) (l := l3) (S := A) (by decide) is_75 (by decide) hl3 (fun s hs => by
      show A.1 76 s = l3 s
      have g := oi_rg hs
      have := hj (oi s) g.1
      rw [g.2] at this
      rw [hA.2.2.2 76 s (by omega) (by omega) (by omega), this, e3])
    obtain ⟨S1, s1, s2, s3⟩ := CB_X (X := X75) (fun a k y => by unfold X75 at y; omega) hA (EX.mono (SetP_EX k2) (fun a k y => by unfold X75; omega))
    obtain ⟨p1, p2⟩ := cd_full (q := q) (A := A1) (b := 75) (n := 19) (l := l3) is_75 (by decide) hl3 k2.2.2.1.2.2
    obtain ⟨A2, f1, f2⟩ := gC (q := q) (c := fu l3 19) (k := 5) hr ho s3
    rw [← e1] at f1
    refine ⟨S1, A2, s1, f1, ⟨is_75, by omega, by omega, ?_, fun k k1 k2' => ?_, fun s hs hl => ?_⟩, fun T y => vc_Blocks_openCodes_51 _ _ _ _ (cY (by decide) ?_)⟩
    · rw [s2 75 5 (by unfold X75; omega)]
      exact k2.2.2.1.1
    · rw [s2 (75 + 5) k (by unfold X75; omega)]
      exact k2.2.2.2.1 k k1 k2'
    · rw [s2 (75 + 4) _ (by unfold X75; omega)]
      exact (k2.2.2.2.2 s hs hl).2.2
    · rcases f2 with ⟨z1, z2⟩ | ⟨z1, z2⟩
      · rw [z2] at y
        exact ⟨A1, k1, 1, A1, p1 z1, cY (by decide) y⟩
      · exact ⟨A1, k1, 0, A1, p2 z1, cNN (by decide) ⟨A2, z2, y⟩⟩
  have hml : ∀ (S B : ms), S.1 367 18 = 0 → RdM S en t → (∀ j : Nat, j < 19 → S.1 389 (od j) = W j) → MB S B en st h → ∃ S1 B1, EX (fun a _ => a = 390) S S1 ∧ MB S1 B1 en st1 h ∧ CodM S1 389 20 390 20 19 l3 ∧ ∀ (T : ms), EV q 346 145 [some (.ref 367), some (vI a), some (vI n), some (vI c), some (vI 0), none, none, none, none] [] B1 none T → EV q 346 81 [some (.ref 367), some (vI a), some (vI n), some (vI c), some (vI c), none, none, none, none] [] B none T := by
    intro S B hS hC hj hB
    have kf := md_fine (q := q) hr hB
    rw [if_pos c0] at kf
    have v9 : ∀ s : Nat, s < 19 → S.1 389 s = l3 s := by
      intro s hs
      have g := oi_rg hs
      have := hj (oi s) g.1
      rw [g.2] at this
      rw [this, e3]
    obtain ⟨B1, k1, k2, k3, k4, k5⟩ := md_codes (q := q) (B := B) (l := l3) (n := 19) (fr := 0) sh_389 sh_390 (by decide) (by omega) (by decide) (by decide) (by decide) (fun s hs => ⟨hl3 s hs, by
      rw [Int.zero_add, hB.2.2.2 389 s (by omega) (by omega)]
      exact v9 s hs⟩)
    rw [cdF_cS 19 hl3] at k1
    obtain ⟨S1, s1, s2, s3⟩ := MB_X (X := fun a _ => a = 390) (fun a k z => by omega) hB ⟨k2, fun a k z => k3 a k z⟩
    obtain ⟨B2, f1, f2⟩ := gM (q := q) (c := fu l3 19) (k := 5) hr he.2 hh s3
    rw [← e1] at f1
    refine ⟨S1, B2, s1, f1, ⟨sh_389, sh_390, by omega, by omega, fun s hs => ?_, fun s hs hl => ?_⟩, fun T y => vc_MD_readOwn_81 _ _ _ _ (cY (Int.le_refl _) ⟨1, B, kf, cNo (by decide) ⟨cS l3 19, B1, k1, ?_⟩⟩)⟩
    · rw [s1.2 389 s (show ¬ (389 : Nat) = 390 by decide)]
      exact v9 s hs
    · rw [s2 390 s rfl]
      have := k5 s hs (by omega)
      rw [Int.zero_add] at this
      exact this
    · rw [w3]
      rcases f2 with ⟨z1, z2⟩ | ⟨z1, z2⟩
      · rw [z2] at y
        exact cY z1 (vc_MD_readOwn_142 _ _ _ _ y)
      · exact cNo z1 ⟨B2, z2, vc_MD_readOwn_142 _ _ _ _ y⟩
  by_cases c1 : st1.1 = 0
  case neg =>
    refine ⟨st1, h, fun _ => 0, ⟨t5.1, t5.2, hh1⟩, fun y => absurd y c1, fun S A o hS hC hj hA => ?_, fun S B hS hC hj hB => ?_⟩
    · obtain ⟨S1, A1, k1, k2, k3, k4⟩ := hcl S A o hS hC hj hA
      exact ⟨S1, A1, EX.mono k1 (fun a k y => by unfold X75 at y; unfold XCc; omega), k4 A1 (tc119 c1 t5.1 k2).2, k2, fun y => absurd y c1⟩
    · obtain ⟨S1, B1, k1, k2, k3, k4⟩ := hml S B hS hC hj hB
      exact ⟨S1, B1, EX.mono k1 (fun a k y => by unfold XCm; omega), k4 B1 (ml_told c1 t5.1 k2), k2, fun y => absurd y c1⟩
  have p1 : rdP st h ≤ rdP st1 h := by
    have := t5.2.2
    unfold rdP
    omega
  obtain ⟨st2, h2, L, ⟨g1, g2, g3⟩, g4, g5, g6⟩ := jlen (q := q) (x3 := c) (M := a + n) he ht ha hn rfl hl3 (a + n) 0 0 (fun _ => 0) st1 h (by omega) (by omega) (by omega) t5.1 hh1 (fun k hk => absurd hk (by omega))
  have xc1 : ∀ S S1 : ms, EX X75 S S1 → EX XCc S S1 := fun S S1 y => EX.mono y (fun a k y => by unfold X75 at y; unfold XCc; omega)
  have xc2 : ∀ S S1 : ms, EX (fun a _ => a = 89) S S1 → EX XCc S S1 := fun S S1 y => EX.mono y (fun a k y => by unfold XCc; omega)
  have xc3 : ∀ S S1 : ms, EX XSc S S1 → EX XCc S S1 := fun S S1 y => EX.mono y (fun a k y => by unfold XSc at y; unfold XCc; omega)
  have xm1 : ∀ S S1 : ms, EX (fun a _ => a = 390) S S1 → EX XCm S S1 := fun S S1 y => EX.mono y (fun a k y => by unfold XCm; omega)
  have xm2 : ∀ S S1 : ms, EX (fun a _ => a = 401) S S1 → EX XCm S S1 := fun S S1 y => EX.mono y (fun a k y => by unfold XCm; omega)
  have xm3 : ∀ S S1 : ms, EX XSm S S1 → EX XCm S S1 := fun S S1 y => EX.mono y (fun a k y => by unfold XSm at y; unfold XCm; omega)
  have xm4 : ∀ S S1 : ms, EX (fun a k => a = 367 ∧ (k = 58 ∨ k = 59)) S S1 → EX XCm S S1 := fun S S1 y => EX.mono y (fun a k y => by unfold XCm; omega)
  -- the class and the reference as far as the lengths
  have hc2 : ∀ (S A : ms) (o : Nat), S.1 9 7 = 0 → RdC S o en t → (∀ j : Nat, j < 19 → S.1 76 (od j) = W j) → CB S A o en t st h → ∃ S1 A1, EX XCc S S1 ∧ CB S1 A1 o en t st2 h2 ∧ (st2.1 = 0 → ∀ k : Nat, k < a + n → S1.1 89 k = L k) ∧ ∀ (T : ms), EV q 136 134 [some (.ref 30), some (.ref 9), some (vI a), some (vI n), some (vI c), some (vI 19)] [] A1 none T → EV q 136 51 [some (.ref 30), some (.ref 9), some (vI a), some (vI n), some (vI c), some (vI 19)] [] A none T := by
    intro S A o hS hC hj hA
    obtain ⟨S1, A1, k1, k2, k3, k4⟩ := hcl S A o hS hC hj hA
    have h5 : A1.1 9 5 = 0 := by rw [k2.2.1.2.1]; exact c1
    obtain ⟨S2, A2, m1, m2, m3, m4⟩ := g5 S1 A1 o (by rw [k1.2 9 7 (by unfold X75; omega)]; exact hS) (RdC_ey hC k1.ey (fun k => by unfold X75; omega)) k3 (fun k hk => absurd hk (by omega)) k2
    refine ⟨S2, A2, EX.trans (xc1 _ _ k1) (xc2 _ _ m1), m3, m4, fun T y => k4 T (vc_Blocks_openCodes_119 _ _ _ _ ?_)⟩
    rw [h5]
    refine cNN (by decide) ⟨A2, ?_, y⟩
    rw [show (a : Int) + n = ((a + n : Nat) : Int) by omega]
    exact vc_Blocks_openLengths _ m2
  have hm2 : ∀ (S B : ms), S.1 367 18 = 0 → RdM S en t → (∀ j : Nat, j < 19 → S.1 389 (od j) = W j) → MB S B en st h → ∃ S1 B1, EX XCm S S1 ∧ MB S1 B1 en st2 h2 ∧ (st2.1 = 0 → ∀ k : Nat, k < a + n → S1.1 401 k = L k) ∧ ∀ (T : ms), (st2.1 = 0 → EV q 346 356 [some (.ref 367), some (vI a), some (vI n), some (vI c), some (vI (a + n : Nat)), none, none, none, none] [] B1 none T) → (st2.1 ≠ 0 → T = B1) → EV q 346 81 [some (.ref 367), some (vI a), some (vI n), some (vI c), some (vI c), none, none, none, none] [] B none T := by
    intro S B hS hC hj hB
    obtain ⟨S1, B1, k1, k2, k3, k4⟩ := hml S B hS hC hj hB
    obtain ⟨S2, B2, m1, m2, m3, m4⟩ := g6 S1 B1 (by rw [k1.2 367 18 (show ¬ (367 : Nat) = 390 by decide)]; exact hS) (RdM_ey hC k1.ey (fun k => show ¬ (368 : Nat) = 390 by decide)) k3 (fun k hk => absurd hk (by omega)) k2
    exact ⟨S2, B2, EX.trans (xm1 _ _ k1) (xm2 _ _ m1), m2, m3, fun T y1 y2 => k4 T (m4 none T y1 (fun z => ⟨rfl, y2 z⟩))⟩
  by_cases c2 : st2.1 = 0
  case neg =>
    refine ⟨st2, h2, L, ⟨g1, Fw_t t5.2 g2, g3⟩, fun y => absurd y c2, fun S A o hS hC hj hA => ?_, fun S B hS hC hj hB => ?_⟩
    · obtain ⟨S1, A1, k1, k2, k3, k4⟩ := hc2 S A o hS hC hj hA
      exact ⟨S1, A1, k1, k4 A1 (tc119 c2 g1 k2).1, k2, fun y => absurd y c2⟩
    · obtain ⟨S1, B1, k1, k2, k3, k4⟩ := hm2 S B hS hC hj hB
      exact ⟨S1, B1, k1, k4 B1 (fun y => absurd y c2) (fun _ => rfl), k2, fun y => absurd y c2⟩
  obtain ⟨p2, hL⟩ := g4 c2
  obtain ⟨stf, ⟨i1, i2⟩, i3, i4⟩ := jset (q := q) (t := t) (L := L) he.2 ha hn (fun k hk => by have := hL k hk; omega) g1 g3
  refine ⟨stf, h2, L, ⟨i1, Fw_t t5.2 (Fw_t g2 i2), hR_n g3 i2⟩, fun y => ⟨?_, hL⟩, fun S A o hS hC hj hA => ?_, fun S B hS hC hj hB => ?_⟩
  · have := i2.2
    unfold rdP at *
    omega
  · obtain ⟨S1, A1, k1, k2, k3, k4⟩ := hc2 S A o hS hC hj hA
    obtain ⟨S2, A2, m1, m2, m3, m4⟩ := i3 S1 A1 o (RdC_ey hC k1.ey (fun k => by unfold XCc; omega)) (k3 c2) k2
    have h5 : A1.1 9 5 = 0 := by rw [k2.2.1.2.1]; exact c2
    refine ⟨S2, A2, EX.trans k1 (xc3 _ _ m1), k4 A2 (vc_Blocks_openCodes_134 _ _ _ _ ?_), m3, fun _ => m4⟩
    rw [h5]
    exact cNN (by decide) ⟨A2, m2, rfl, rfl⟩
  · obtain ⟨S1, B1, k1, k2, k3, k4⟩ := hm2 S B hS hC hj hB
    have kf := md_fine (q := q) g1 k2
    rw [if_pos c2] at kf
    have ex : EX (fun a k => a = 367 ∧ (k = 58 ∨ k = 59)) B1 (wI (wI B1 367 58 a) 367 59 n) := EX.wr (EX.wr (EX.refl _ B1) ⟨rfl, Or.inl rfl⟩) ⟨rfl, Or.inr rfl⟩
    obtain ⟨S2, s1, s2, s3⟩ := MB_X (X := fun a k => a = 367 ∧ (k = 58 ∨ k = 59)) (fun a k z => by omega) k2 ex
    obtain ⟨S3, B3, m1, m2, m3, m4, m5⟩ := i4 S2 (wI (wI B1 367 58 a) 367 59 n) c ((a + n : Nat) : Int) (fun k hk => by rw [s1.2 401 k (fun z => absurd z.1 (by decide))]; exact k3 c2 k hk) s3
    refine ⟨S3, B3, EX.trans k1 (EX.trans (xm4 _ _ s1) (xm3 _ _ m1)), k4 B3 (fun _ => vc_MD_readOwn_356 _ _ _ _ ⟨1, B1, kf, cY (by decide) (fun S4 e4 S5 e5 => by rw [e5, e4]; exact m2)⟩) (fun y => absurd c2 y), m3, fun _ => ⟨m4, m5, ?_, ?_⟩⟩
    · rw [m1.2 367 58 (by unfold XSm; omega), s2 367 58 ⟨rfl, Or.inl rfl⟩, wI_no _ (by omega)]
      exact wI_at _ _ _ _
    · rw [m1.2 367 59 (by unfold XSm; omega), s2 367 59 ⟨rfl, Or.inr rfl⟩]
      exact wI_at _ _ _ _
end Own
