/-! pack: BLOCKS; levels 2 and 4, whole -/
section PLev4
variable {q : Nat × (Nat → Int32)} {x : Int} {t : Int → Int}
theorem tk_p {gs gg : Int → Int} {P : Nat → Int} {K : Nat} (hP : GP x gs gg P K) : ∀ k : Nat, k < K → 0 ≤ (tkF gs gg P k).2.2 ∧ (tkF gs gg P k).2.2 < x := fun k hk => by
  have y := (hP.2.2 k hk).1
  have e : (tkF gs gg P k).2.2 = P k := by unfold tkF; rw [show ((k : Int)).toNat = k by omega]
  rw [e]
  exact y
theorem lz_V {n0 d0 : Int → Int} {P : Nat → Int} {K : Nat} (hx : 0 ≤ x ∧ x ≤ 6000) (hL : ∀ p : Int, 0 ≤ p → p < x → LM t p (min 258 (x - p)) (n0 p) (d0 p)) (hP : GP x (lzS x n0) (lzG x n0 d0) P K) : ∀ k : Nat, k < K → tkV x (tkF (lzS x n0) (lzG x n0 d0) P k) := fun k hk => by
  have hp := hP.2.2 k hk
  have g := lz_rg hL (P k) hp.1.1 hp.1.2
  have ek : tkF (lzS x n0) (lzG x n0 d0) P k = (lzS x n0 (P k), lzG x n0 d0 (P k), P k) := by unfold tkF; rw [show ((k : Int)).toNat = k by omega]
  rw [ek]
  by_cases c : lzG x n0 d0 (P k) = 0
  · exact Or.inl ⟨c, hp.1.1, hp.1.2⟩
  · have g3 := g.2.2 (by omega)
    exact Or.inr ⟨by show 1 ≤ lzG x n0 d0 (P k) ∧ lzG x n0 d0 (P k) ≤ 6000; omega, by show 3 ≤ lzS x n0 (P k) ∧ lzS x n0 (P k) ≤ 258; exact g3⟩
theorem jb_2 (hx : 0 ≤ x ∧ x ≤ 6000) (ht : ∀ k : Int, 0 ≤ k → k < x → 0 ≤ t k ∧ t k < 256) : JBs q 2 x t := by
  obtain ⟨n0, d0, hL, hM⟩ := jLMs (q := q) (most := 258) (reach := 32768) hx ht (by decide) (by decide)
  have gr := lz_rg hL
  obtain ⟨P, K, hP⟩ := GP_ex (x := x) (lzS x n0) (lzG x n0 d0) hx.1 (fun p p0 p1 => (gr p p0 p1).1)
  have le := GP_le hP (fun p p0 p1 => (gr p p0 p1).1)
  have leK := le K (Nat.le_refl _)
  have hV := lz_V hx hL hP
  have hp := tk_p hP
  obtain ⟨T, eT⟩ : ∃ T, T = tkF (lzS x n0) (lzG x n0 d0) P := ⟨_, rfl⟩
  rw [← eT] at hV hp
  obtain ⟨F, hF, hG⟩ := jownB (q := q) (T := T) (K := K) (fr := 0) (to := K) (last := 1) ⟨by omega, Nat.le_refl _, by omega⟩ hx ht hV (Or.inr rfl)
  refine ⟨F, T, K, hF, fun s0 h0 hr hs => ?_⟩
  have hs0 := hr.1.1
  obtain ⟨⟨u1, u2, u3⟩, uc, um⟩ := hG s0 hr (by omega)
  have os := owS_r (last := 1) hr
  refine jb_own (T := T) (K := K) (s' := F s0) (Or.inl rfl) (by omega) h0 hr hs u1 ⟨u2, by omega⟩ (fun A o a1 ho o3 hI hA h => ?_) (fun B hMb hB hb h29 => ?_)
  · obtain ⟨A1, k1, k2, k3, k4⟩ := cl_chain (q := q) (A := A) (a1 := a1) (N := 6000) hA.1.1 (by have := hA.1.2; omega) (by omega) hx hA.2.1 hA.2.2
    obtain ⟨A2, l1, l2, l3⟩ := cl_longx (q := q) (p := 0) (n0 := n0) (d0 := d0) hx (by omega) hL k4
    have fd2 : FD A2 (a1 + 1) 6000 x t := FD_x (X := X4) k4 l1 (fun a k y => by unfold X4 at y; have := hA.1.2; omega)
    have p0 : P 0 = 0 := hP.1
    obtain ⟨A3, m1, m2, m3⟩ := cl_lazyL (q := q) (a1 := a1) hA.1.1 hx hL hP K 0 A2 (A2.1 10 4) (by omega) fd2 ⟨by rw [l1.2 10 8 (by unfold X4; omega)]; exact k3, fun k k0 k1 => absurd k1 (by omega)⟩ (fun y1 y2 => by rw [p0] at y1 y2 ⊢; exact l2 y1 y2)
    rw [p0] at m3
    rw [← eT] at m2
    have at3 : ∀ (a : Nat) (k : Int), ¬ (XTc a k ∨ X4 a k ∨ XFu a k) → A3.1 a k = A.1 a k := fun a k y => by
      rw [m1.2 a k (fun w => y (w.imp id Or.inl)), l1.2 a k (fun w => y (Or.inr (Or.inl w))), k2.2 a k (fun w => y (Or.inr (Or.inr w)))]
      rfl
    obtain ⟨A4, n1, n2, n3⟩ := uc A3 o a1 ho o3 (fun k k0 k1 => by rw [at3 92 k (by unfold XTc X4 XFu; omega)]; exact (hI.2.2 k k0 k1).1) ⟨hA.1, by rw [at3 a1 1 (by have := hA.1.2; unfold XTc X4 XFu; omega)]; exact hA.2.1, fun k k0 k1 => by rw [at3 (a1 + 1) k (by have := hA.1.2; unfold XTc X4 XFu; omega)]; exact hA.2.2 k k0 k1⟩ m2 (CBt_cg h (fun a k y => at3 a k (by unfold XRb at y; unfold XTc X4 XFu; omega)))
    have e8 : A3.1 10 8 = K := m2.1
    refine ⟨A4, ⟨by rw [n1.1, m1.1, l1.1, k2.1], fun a k y => ?_⟩, n2, CTk_e m2 (fun a k y => n1.2 a k (by unfold XTc at y; unfold XOw XRb XOv; omega)), fun R S' k => vc_Blocks_packAll _ _ _ hA.1.1 _ _ ho ⟨fun c => absurd c (by decide), fun c => absurd c (by decide), fun _ => ⟨A3, vc_Finder_lazy _ _ hA.1.1 ⟨A1, k1, _, A2, l3, m3⟩, A4, by rw [e8]; exact n3, k⟩, fun c => absurd c (by decide), fun _ _ c => absurd (by decide) c⟩⟩
    unfold XPa XRb at y
    rw [n1.2 a k (by unfold XOw XRb XOv; omega), at3 a k (by unfold XTc X4 XFu; omega)]
    rfl
  · obtain ⟨B1, g1, g2, g3⟩ := md_lazyL (q := q) hx hL hM hP K 0 B (by omega) hB ⟨h29, fun k k0 k1 => absurd k1 (by omega)⟩
    rw [hP.1] at g3
    rw [← eT] at g2
    have at1 : ∀ (a : Nat) (k : Int), ¬ XPt a k → B1.1 a k = B.1 a k := fun a k y => g1.2 a k y
    have hB1 : TXm B1 x t := TXm_e hB (fun a k y => at1 a k (by unfold XPt XTm XLo; omega))
    have hb1 : MBt B1 0 s0 := MBt_cg hb (fun a k y => at1 a k (by unfold XWb at y; unfold XPt XTm XLo; omega))
    obtain ⟨B2, b1, b2, b3, b4⟩ := mw_low_bits (q := q) (v := 1) (n := 1) (by decide) (by decide) hr (by omega) hb1
    obtain ⟨B3, c1, c2, c3, c4⟩ := mw_low_bits (q := q) (v := 2) (n := 2) (by decide) (by decide) (wbLow_r _ _ _ hr) (by have := wbLow_n 1 1 s0; omega) b3
    have x3 : EX XWb B1 B3 := b2.trans c2
    have at3 : ∀ (a : Nat) (k : Int), 391 ≤ a → a ≤ 394 → B3.1 a k = B.1 a k := fun a k y z => by rw [x3.2 a k (by unfold XWb; omega), at1 a k (by unfold XPt XTm XLo; omega)]
    obtain ⟨B4, d1, d2, d3, d4⟩ := um B3 ⟨fun s h0 h1 => by rw [at3 391 s (by omega) (by omega), at3 392 s (by omega) (by omega)]; exact hMb.1 s h0 h1, fun s h0 h1 => by rw [at3 393 s (by omega) (by omega), at3 394 s (by omega) (by omega)]; exact hMb.2 s h0 h1⟩ (TXm_b hB1 x3) (MTk_b g2 x3) c3
    have e2 : B4.1 367 2 = x := by rw [d1.2 367 2 (by unfold XOz XWb XOx; omega), x3.2 367 2 (by unfold XWb; omega)]; exact hB1.1
    have e12 : B1.1 367 12 = B.1 367 12 := at1 367 12 (by unfold XPt XTm XLo; omega)
    refine ⟨B4, ((g1.mono (Y := XOtt) (fun a k y => Or.inl y)).trans (x3.mono (fun a k y => Or.inr (Or.inl y)))).ey.trans (d1.mono (fun a k y => Or.inr y)), d2, MTk_e g2 (fun a k y => by unfold XTm at y; rw [d1.2 a k (by unfold XOz XWb XOx; omega), x3.2 a k (by unfold XWb; omega)]), by omega, fun R S' k => vc_MD_packBlocks_165 _ (cNN (by decide) ⟨B1, vc_MD_parseLazy g3, vc_MD_packBlocks_184 _ (cNN (by decide) (vc_MD_packBlocks_200 _ _ _ (vc_MD_packBlocks_204 _ _ _ _ ?_)))⟩)⟩
    have key : ∀ y : Int, y = x → EV q 289 226 [some (.ref 367), some (vI 2), some (vI 0), some (vI 6000), some (vI 0), none, none] [vI y] B1 R S' := fun y ey => by
      have sc := scF_x (T := T) (e := x) K 0 (fun j _ h2 => (hp j (by omega)).2)
      rw [show 0 + K = K by omega] at sc
      refine vc_MD_packBlocks_226 _ _ _ _ _ (md_scan (q := q) (T := T) (K := K) (e := x) (by omega) hx hp (by omega) (fun p p0 p1 => by omega) g2 K 0 (by omega) ?_)
      rw [sc]
      refine vc_MD_packBlocks_258 _ _ _ _ _ _ ?_
      rw [hB1.1, ey]
      refine cNN rfl (vc_MD_packBlocks_273 _ _ _ _ _ _ _ ⟨B2, b1, B3, c1, B4, d4, ?_⟩)
      rw [e2]
      exact cNo (by omega) k
    rw [hB1.1, show w32 6000 = 6000 by decide, w32_of (x := x - 0) (by omega)]
    by_cases c : 6000 ≤ x - 0
    · exact cY c (key _ (by omega))
    · exact cNo c (key _ rfl)
theorem jb_4 (hx : 0 ≤ x ∧ x ≤ 6000) (ht : ∀ k : Int, 0 ≤ k → k < x → 0 ≤ t k ∧ t k < 256) : JBs q 4 x t := by
  obtain ⟨n0, d0, hL, hM⟩ := jLMs (q := q) (most := 258) (reach := 32768) hx ht (by decide) (by decide)
  have gr := gr_rg (cut := 1) (least := 3) hx (by decide) hL
  obtain ⟨P, K, hP⟩ := GP_ex (x := x) (grS 3 1 x n0) (grG 3 1 x n0 d0) hx.1 (fun p p0 p1 => (gr p p0 p1).1)
  have le := GP_le hP (fun p p0 p1 => (gr p p0 p1).1)
  have leK := le K (Nat.le_refl _)
  have hV := gr_V hx (Or.inr rfl) hL hP
  have hp := tk_p hP
  obtain ⟨T, eT⟩ : ∃ T, T = tkF (grS 3 1 x n0) (grG 3 1 x n0 d0) P := ⟨_, rfl⟩
  rw [← eT] at hV hp
  obtain ⟨N, eN⟩ : ∃ N : Nat, (N : Int) = nbF x := ⟨(nbF x).toNat, by unfold nbF; omega⟩
  have hN' : (1 : Int) ≤ N ∧ (N : Int) ≤ 3 := by rw [eN]; unfold nbF; omega
  obtain ⟨F, hF, hG⟩ := jblks (q := q) (T := T) (K := K) (N := N) (by omega) hx ht hV hp eN (N - 1) 0 0 (by omega) (by omega)
  refine ⟨F, T, K, hF, fun s0 h0 hr hs => ?_⟩
  have hs0 := hr.1.1
  obtain ⟨⟨u1, u2, u3⟩, uc, um⟩ := hG s0 hr (by omega)
  refine jb_own (T := T) (K := K) (s' := F s0) (Or.inr rfl) (by omega) h0 hr hs u1 ⟨u2, by omega⟩ (fun A o a1 ho o3 hI hA h => ?_) (fun B hMb hB hb h29 => ?_)
  · obtain ⟨A1, k1, k2, k3⟩ := cl_greedyR (q := q) (least := 3) (most := 258) (cut := 1) hx (by decide) (by decide) (by decide) hL hP hA
    rw [← eT] at k2
    have at1 : ∀ (a : Nat) (k : Int), ¬ (XTc a k ∨ X4 a k ∨ XFu a k) → A1.1 a k = A.1 a k := fun a k y => k1.2 a k y
    have hA1 : TXr A1 a1 x t := ⟨hA.1, by rw [at1 a1 1 (by have := hA.1.2; unfold XTc X4 XFu; omega)]; exact hA.2.1, fun k k0 k1 => by rw [at1 (a1 + 1) k (by have := hA.1.2; unfold XTc X4 XFu; omega)]; exact hA.2.2 k k0 k1⟩
    obtain ⟨A2, n1, n2, n3⟩ := uc A1 o a1 ho o3 (fun k k0 k1 => by rw [at1 92 k (by unfold XTc X4 XFu; omega)]; exact (hI.2.2 k k0 k1).1) hA1 k2 (CBt_cg h (fun a k y => at1 a k (by unfold XRb at y; unfold XTc X4 XFu; omega)))
    have eN2 : max (w32 1) (w32 (Int.tdiv (w32 ((A1.1 a1 1 + 2000) - 1)) (w32 2000))) = (N : Int) := by
      rw [hA1.2.1, show w32 1 = 1 by decide, show w32 2000 = 2000 by decide, w32_of (x := x + 2000 - 1) (by omega), Int.tdiv_eq_ediv_of_nonneg (by omega), show x + 2000 - 1 = x + 1999 by omega, w32_of (x := (x + 1999) / 2000) (by omega), eN]
      rfl
    refine ⟨A2, ⟨by rw [n1.1, k1.1], fun a k y => ?_⟩, n2, CTk_e k2 (fun a k y => n1.2 a k (by unfold XTc at y; unfold XOw XRb XOv; omega)), fun R S' k => vc_Blocks_packAll _ _ _ hA.1.1 _ _ ho ⟨fun c => absurd c (by decide), fun c => absurd c (by decide), fun c => absurd c (by decide), fun c => absurd c (by decide), fun _ _ _ _ => ⟨A1, k3, A2, vc_Blocks_ownBlocks _ _ hA.1.1 _ _ ho (by rw [eN2]; exact n3), k⟩⟩⟩
    unfold XPa XRb at y
    rw [n1.2 a k (by unfold XOw XRb XOv; omega), at1 a k (by unfold XTc X4 XFu; omega)]
    rfl
  · obtain ⟨B1, g1, g2, g3⟩ := md_grd (q := q) (cut := 1) hx (Or.inr rfl) hL hM hP K 0 B (by omega) hB ⟨h29, fun k k0 k1 => absurd k1 (by omega)⟩
    rw [hP.1, show (2000 : Int) * 1 = 2000 by decide] at g3
    rw [← eT] at g2
    have at1 : ∀ (a : Nat) (k : Int), ¬ XPt a k → B1.1 a k = B.1 a k := fun a k y => g1.2 a k y
    have hB1 : TXm B1 x t := TXm_e hB (fun a k y => at1 a k (by unfold XPt XTm XLo; omega))
    have hb1 : MBt B1 0 s0 := MBt_cg hb (fun a k y => at1 a k (by unfold XWb at y; unfold XPt XTm XLo; omega))
    have hM1 : TbM B1 := ⟨fun s h0 h1 => by rw [at1 391 s (by unfold XPt XTm XLo; omega), at1 392 s (by unfold XPt XTm XLo; omega)]; exact hMb.1 s h0 h1, fun s h0 h1 => by rw [at1 393 s (by unfold XPt XTm XLo; omega), at1 394 s (by unfold XPt XTm XLo; omega)]; exact hMb.2 s h0 h1⟩
    obtain ⟨B2, d1, d2, d3, d4⟩ := um B1 hM1 hB1 g2 hb1
    have e12 : B1.1 367 12 = B.1 367 12 := at1 367 12 (by unfold XPt XTm XLo; omega)
    refine ⟨B2, (g1.mono (Y := XOtt) (fun a k y => Or.inl y)).ey.trans (d1.mono (fun a k y => Or.inr y)), d2, MTk_e g2 (fun a k y => by unfold XTm at y; rw [d1.2 a k (by unfold XOz XWb XOx; omega)]), by omega, fun R S' k => vc_MD_packBlocks_165 _ (cY (by decide) ⟨B1, vc_MD_parseGreedy _ g3, vc_MD_packBlocks_184 _ (cY (by decide) (vc_MD_packBlocks_200 _ _ _ ?_))⟩)⟩
    have k204 := d4 R S' k
    rw [show ((0 : Nat) : Int) * 2000 = 0 by decide] at k204
    exact k204
end PLev4
