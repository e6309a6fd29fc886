/-! pack: BLOCKS; levels 1 and 0 -/
section PLev
variable {q : Nat × (Nat → Int32)} {x : Int} {t : Int → Int}
theorem jb_1 (hx : 0 ≤ x ∧ x ≤ 6000) (ht : ∀ k : Int, 0 ≤ k → k < x → 0 ≤ t k ∧ t k < 256) : JBs q 1 x t := by
  obtain ⟨n0, d0, hL, hM⟩ := jLMs (q := q) (most := 258) (reach := 32768) hx ht (by decide) (by decide)
  have gr := gr_rg (cut := 0) (least := 3) hx (by decide) hL
  obtain ⟨P, K, hP⟩ := GP_ex (x := x) (grS 3 0 x n0) (grG 3 0 x n0 d0) hx.1 (fun p p0 p1 => (gr p p0 p1).1)
  have le := GP_le hP (fun p p0 p1 => (gr p p0 p1).1)
  have leK := le K (Nat.le_refl _)
  have hV := gr_V hx (Or.inl rfl) hL hP
  obtain ⟨T, eT⟩ : ∃ T, T = tkF (grS 3 0 x n0) (grG 3 0 x n0 d0) P := ⟨_, rfl⟩
  rw [← eT] at hV
  refine ⟨fxB t T K, T, K, RlB_fx _ _ _, fun s0 h0 hr hs => ?_⟩
  have hs0 := hr.1.1
  obtain ⟨⟨j1, j2, j3⟩, jc, jm⟩ := jfix (q := q) (x := x) (t := t) (T := T) (K := K) (s := s0) (by omega) ht hx hV hr (by omega)
  refine ⟨⟨j1, ⟨j2, by omega⟩, by omega, fun y => absurd y (by decide)⟩, fun A o a1 ho o3 hI hA h hs1 => ?_, fun B hK hB h => ?_⟩
  · obtain ⟨A1, k1, k2, k3⟩ := cl_greedyR (q := q) (least := 3) (most := 258) (cut := 0) hx (by decide) (by decide) (by decide) hL hP hA
    rw [← eT] at k2
    have at1 : ∀ (a : Nat) (k : Int), ¬ (XTc a k ∨ X4 a k ∨ XFu a k) → A1.1 a k = A.1 a k := fun a k y => k1.2 a k y
    have hI1 : BlC A1 := BlC_e hI (fun a k y => at1 a k (by unfold XTc X4 XFu; omega))
    have hA1 : TXr A1 a1 x t := ⟨hA.1, by rw [at1 a1 1 (by have := hA.1.2; unfold XTc X4 XFu; omega)]; exact hA.2.1, fun k k0 k1 => by rw [at1 (a1 + 1) k (by have := hA.1.2; unfold XTc X4 XFu; omega)]; exact hA.2.2 k k0 k1⟩
    have h1 : CBt A1 o 12000 s0 := CBt_cg h (fun a k y => at1 a k (by unfold XRb at y; unfold XTc X4 XFu; omega))
    obtain ⟨A2, l1, l2, l3⟩ := jc A1 o a1 ho o3 hI1 hA1 k2 h1
    have hc := (h.1.1 (by omega)).1
    obtain ⟨A3, z, m1, m2, m3, m4⟩ := cl_pend (q := q) (A := A2) (lv := 1) (b0 := A.1 o 1) (s0 := s0) hA.1.1 ho j1 ⟨h0, hc⟩ l2
    refine ⟨A3, a1 + 1, z, m1, ⟨?_, fun a k y => ?_⟩, m3, fun _ => CTk_b o3 (CTk_b o3 k2 l1) m2, vc_Blocks_packAll _ _ _ hA.1.1 _ _ ho ⟨fun c => absurd c (by decide), fun _ => ⟨A1, k3, A2, l3, m4⟩, fun c => absurd c (by decide), fun c => absurd c (by decide), fun _ c => absurd (by decide) c⟩⟩
    · rw [m2.1, l1.1, k1.1]
    · unfold XPa XRb at y
      rw [m2.2 a k (by unfold XRb; omega), l1.2 a k (by unfold XRb; omega), at1 a k (by unfold XTc X4 XFu; omega)]
      rfl
  · obtain ⟨B1, B5, b1, b2, b3, b4, b5, b6, b7, b8, b9⟩ := md_pre (q := q) hK hB h
    obtain ⟨B6, f1, f2, -, -⟩ := md_fixP (q := q) (B := B5)
    have at6 : ∀ (a : Nat) (k : Int), ¬ (385 ≤ a ∧ a ≤ 388) → B6.1 a k = B5.1 a k := fun a k y => f1.2 a k (by unfold XSm; exact y)
    have hB6 : TXm B6 x t := TXm_e b4 (fun a k y => at6 a k (by omega))
    obtain ⟨B7, g1, g2, g3⟩ := md_grd (q := q) (cut := 0) hx (Or.inl rfl) hL hM hP K 0 B6 (by omega) hB6 ⟨by rw [at6 367 29 (by omega), b6]; rfl, fun k k0 k1 => absurd k1 (by omega)⟩
    rw [hP.1, show (2000 : Int) * 0 = 0 by decide] at g3
    rw [← eT] at g2
    have x7 : EX (fun a k => XPt a k ∨ XSm a k) B5 B7 := (EX.mono f1 (fun a k y => Or.inr y)).trans (EX.mono g1 (fun a k y => Or.inl y))
    have hB7 : TXm B7 x t := TXm_e b4 (fun a k y => x7.2 a k (by unfold XPt XTm XLo XSm; omega))
    have h7 : MBt B7 0 s0 := MBt_cg b5 (fun a k y => x7.2 a k (by unfold XWb at y; unfold XPt XTm XLo XSm; omega))
    have tb7 : TbM B7 := ⟨fun s h0 h1 => by rw [x7.2 391 s (by unfold XPt XTm XLo XSm; omega), x7.2 392 s (by unfold XPt XTm XLo XSm; omega)]; exact b2.1 s h0 h1, fun s h0 h1 => by rw [x7.2 393 s (by unfold XPt XTm XLo XSm; omega), x7.2 394 s (by unfold XPt XTm XLo XSm; omega)]; exact b2.2 s h0 h1⟩
    obtain ⟨B8, i1, i2, i3, i4⟩ := jm B7 1 tb7 hB7 g2 h7
    obtain ⟨B9, e9⟩ : ∃ B9, B9 = wI (wI B8 367 56 (B8.1 367 12)) 367 10 0 := ⟨_, rfl⟩
    have at9 : ∀ (a : Nat) (k : Int), ¬ (a = 367 ∧ (k = 10 ∨ k = 56)) → B9.1 a k = B8.1 a k := fun a k y => by rw [e9, wI_no _ (by omega), wI_no _ (by omega)]
    have k357 : EV q 289 357 [some (.ref 367), some (vI 1), none, none, none, none, none] [] B8 none B9 := vc_MD_packBlocks_357 _ (fun S1 q1 S2 q2 => ⟨rfl, by rw [q2, q1]; exact e9⟩)
    have y9 : EY XPb B B9 := by
      refine ⟨by rw [e9]; show B8.2.2 = B.2.2; rw [i1.1, x7.1, b1.1], fun a k y => ?_⟩
      unfold XPb at y
      rw [at9 a k (by omega), i1.2 a k (by unfold XWb XSm; omega), x7.2 a k (by unfold XPt XTm XLo XSm; omega), b1.2 a k (by unfold XPr XTb; omega)]
    have y5 : EY (fun a k => XPt a k ∨ XSm a k ∨ XWb a k ∨ (a = 367 ∧ k = 56)) B5 B9 := by
      refine ⟨by rw [e9]; show B8.2.2 = B5.2.2; rw [i1.1, x7.1], fun a k y => ?_⟩
      unfold XWb at y
      rw [at9 a k (by omega), i1.2 a k (fun w => y (by unfold XWb at w; rcases w with w | w; exact Or.inr (Or.inr (Or.inl w)); exact Or.inr (Or.inl w))), x7.2 a k (fun w => y (by rcases w with w | w; exact Or.inl w; exact Or.inr (Or.inl w)))]
    refine ⟨B9, y9, TbK_ey b3 y5 (fun a k y => by unfold XPt XTm XLo XSm XWb at y; omega), ⟨MWt_cg i2.1 (fun a k y => at9 a k (by unfold XW at y; omega)), by rw [e9, wI_at]; rfl, by rw [at9 367 11 (by omega)]; exact i2.2.2⟩, fun _ => MTk_e g2 (fun a k y => by rw [at9 a k (by unfold XTm at y; omega), i1.2 a k (by unfold XTm at y; unfold XWb XSm; omega)]), ?_, vc_MD_packBlocks _ ⟨B1, b8, fun S3 q3 S4 q4 S5 q5 => ?_⟩⟩
    · rw [e9, wI_no _ (by omega), wI_at, i3, x7.2 367 12 (by unfold XPt XTm XLo XSm; omega), b7]
      omega
    · rw [q4, q3, ← b9] at q5
      subst q5
      exact ⟨fun _ => ⟨fun c => absurd c (by decide), fun _ => ⟨fun _ => ⟨B6, f2, fun c => absurd (by decide) c, fun _ => ⟨B7, vc_MD_parseGreedy _ g3, i4 _ _ k357⟩⟩, fun c => absurd (by decide) c⟩⟩, fun c => absurd (by decide) c⟩
end PLev
