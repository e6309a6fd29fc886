/-! pack: BLOCKS; level 3 -/
section PLev3
variable {q : Nat × (Nat → Int32)} {x : Int} {t : Int → Int}
theorem jb_3 (hx : 0 ≤ x ∧ x ≤ 6000) (ht : ∀ k : Int, 0 ≤ k → k < x → 0 ≤ t k ∧ t k < 256) : JBs q 3 x t := by
  obtain ⟨n0, d0, hL, hM⟩ := jLMs (q := q) (most := 258) (reach := 32768) hx ht (by decide) (by decide)
  obtain ⟨ld, hD⟩ : ∃ ld : Int → Int → Int, ∀ p : Int, 0 ≤ p → p < x → LD t p (n0 p) (ld p) := by
    have h : ∀ p : Int, ∃ f : Int → Int, 0 ≤ p → p < x → LD t p (n0 p) f := fun p => by
      by_cases c : 0 ≤ p ∧ p < x
      · obtain ⟨f, hf⟩ := LD_ex (hL p c.1 c.2)
        exact ⟨f, fun _ _ => hf⟩
      · exact ⟨fun _ => 0, fun y1 y2 => absurd ⟨y1, y2⟩ c⟩
    exact ⟨fun p => Classical.choose (h p), fun p => Classical.choose_spec (h p)⟩
  have gr := fS_r hx hL hD
  obtain ⟨P, K, hP⟩ := GP_ex (x := x) (fS x t n0 ld) (fG x t n0 ld) hx.1 (fun p p0 p1 => (gr p p0 p1).1)
  have le := GP_le hP (fun p p0 p1 => (gr p p0 p1).1)
  have leK := le K (Nat.le_refl _)
  have hV := fw_V hx hL hD hP
  obtain ⟨T, eT⟩ : ∃ T, T = tkF (fS x t n0 ld) (fG x t n0 ld) P := ⟨_, rfl⟩
  rw [← eT] at hV
  refine ⟨fxB t T K, T, K, RlB_fx _ _ _, fun s0 h0 hr hs => ?_⟩
  have hs0 := hr.1.1
  obtain ⟨⟨j1, j2, j3⟩, jc, jm⟩ := jfix (q := q) (x := x) (t := t) (T := T) (K := K) (s := s0) (by omega) ht hx hV hr (by omega)
  refine ⟨⟨j1, ⟨j2, by omega⟩, by omega, fun y => absurd y (by decide)⟩, fun A o a1 ho o3 hI hA h hs1 => ?_, fun B hK hB h => ?_⟩
  · obtain ⟨Ac, c1, c2, c3, c4⟩ := cl_chain (q := q) (A := A) (a1 := a1) (N := 6000) hA.1.1 (by have := hA.1.2; omega) (by omega) hx hA.2.1 hA.2.2
    obtain ⟨Ad, ed⟩ : ∃ Ad, Ad = wI Ac 19 x 0 := ⟨_, rfl⟩
    have atd : ∀ (a : Nat) (k : Int), a ≠ 19 → Ad.1 a k = Ac.1 a k := fun a k y => by rw [ed, wI_no _ (by omega)]
    have xd : EX (fun a k => XFu a k ∨ XFa a k) (wR A 10 2 (a1 + 1)) Ad := by rw [ed]; exact (EX.mono c2 (fun a k y => Or.inl y)).wr (Or.inr (Or.inl rfl))
    have fd : FD Ad (a1 + 1) 6000 x t := FD_x (X := fun a _ => a = 19) c4 ⟨by rw [ed]; rfl, fun a k y => atd a k y⟩ (fun a k y => by have := hA.1.2; omega)
    have h93 : ∀ s : Int, 3 ≤ s → s ≤ 258 → Ad.1 93 s = prL s := fun s s0 s1 => by
      rw [xd.2 93 s (by unfold XFu XFa; omega)]
      exact (hI.2.2 s s0 s1).2
    obtain ⟨Ae, e1, e2, x3, e3⟩ := cl_fewD (q := q) (A := Ad) (c := a1 + 1) (N := 6000) (a1 := a1) hA.1.1 hx hL hD h93 fd x.toNat 0 Ad (by omega) (EX.refl _ Ad) (fun k h1 h2 => by
      have ek : k = x := by omega
      rw [ek, ed, wI_at]
      exact ⟨rfl, fun y => absurd y (by omega)⟩)
    have xe := xd.trans (EX.mono e1 (fun a k y => Or.inr y))
    obtain ⟨A1, f1, f2, f3⟩ := cl_fewT (q := q) (x3 := x3) (a1 := a1) hA.1.1 hx hL hD hP K 0 Ae (by omega) (by rw [e1.2 10 3 (by unfold XFa; omega)]; exact fd.2.2.1) e2 ⟨by rw [e1.2 10 8 (by unfold XFa; omega), atd 10 8 (by omega)]; exact c3, fun k k0 k1 => absurd k1 (by omega)⟩
    rw [hP.1] at f3
    rw [← eT] at f2
    have k1 : EX (fun a k => XTc a k ∨ XFu a k ∨ XFa a k) (wR A 10 2 (a1 + 1)) A1 := (EX.mono xe (fun a k y => Or.inr y)).trans (EX.mono f1 (fun a k y => Or.inl y))
    have k3 : EV q 79 0 [some (.ref 10), some (.ref a1), some (.ref 93), none, none, none] [] A none A1 := by
      refine vc_Finder_fewest _ _ hA.1.1 _ _ rfl ⟨Ac, c1, ?_⟩
      rw [c4.2.2.1, w32_of (x := x) (by omega)]
      refine ⟨by omega, fun S4 q4 => ?_⟩
      rw [← ed] at q4
      rw [q4, fd.2.2.1]
      have e4 := e3 none A1 f3
      have em : mostF x n0 0 = 258 := if_pos rfl
      rw [em, show x - 1 - ((0 : Nat) : Int) = x - 1 by omega] at e4
      exact e4
    have at1 : ∀ (a : Nat) (k : Int), ¬ (XTc a k ∨ XFu a k ∨ XFa a k) → A1.1 a k = A.1 a k := fun a k y => k1.2 a k y
    have hI1 : BlC A1 := BlC_e hI (fun a k y => at1 a k (by unfold XTc XFu XFa; omega))
    have hA1 : TXr A1 a1 x t := ⟨hA.1, by rw [at1 a1 1 (by have := hA.1.2; unfold XTc XFu XFa; omega)]; exact hA.2.1, fun k k0 k1 => by rw [at1 (a1 + 1) k (by have := hA.1.2; unfold XTc XFu XFa; omega)]; exact hA.2.2 k k0 k1⟩
    have h1 : CBt A1 o 12000 s0 := CBt_cg h (fun a k y => at1 a k (by unfold XRb at y; unfold XTc XFu XFa; omega))
    obtain ⟨A2, l1, l2, l3⟩ := jc A1 o a1 ho o3 hI1 hA1 f2 h1
    have hc := (h.1.1 (by omega)).1
    obtain ⟨A3, z, m1, m2, m3, m4⟩ := cl_pend (q := q) (A := A2) (lv := 3) (b0 := A.1 o 1) (s0 := s0) hA.1.1 ho j1 ⟨h0, hc⟩ l2
    refine ⟨A3, a1 + 1, z, m1, ⟨?_, fun a k y => ?_⟩, m3, fun _ => CTk_b o3 (CTk_b o3 f2 l1) m2, vc_Blocks_packAll _ _ _ hA.1.1 _ _ ho ⟨fun c => absurd c (by decide), fun c => absurd c (by decide), fun c => absurd c (by decide), fun _ => ⟨A1, k3, A2, l3, m4⟩, fun _ _ _ c => absurd (by decide) c⟩⟩
    · rw [m2.1, l1.1, k1.1]
    · unfold XPa XRb at y
      rw [m2.2 a k (by unfold XRb; omega), l1.2 a k (by unfold XRb; omega), at1 a k (by unfold XTc XFu XFa; omega)]
      rfl
  · obtain ⟨B1, B5, b1, b2, b3, b4, b5, b6, b7, b8, b9⟩ := md_pre (q := q) hK hB h
    obtain ⟨B6, f1, f2, f3, f4⟩ := md_fixP (q := q) (B := B5)
    have at6 : ∀ (a : Nat) (k : Int), ¬ (385 ≤ a ∧ a ≤ 388) → B6.1 a k = B5.1 a k := fun a k y => f1.2 a k (by unfold XSm; exact y)
    obtain ⟨Bd, ed⟩ : ∃ Bd, Bd = wI B6 395 x 0 := ⟨_, rfl⟩
    have atd : ∀ (a : Nat) (k : Int), a ≠ 395 → Bd.1 a k = B6.1 a k := fun a k y => by rw [ed, wI_no _ (by omega)]
    have hBd : TXm Bd x t := TXm_e b4 (fun a k y => by rw [atd a k (by omega), at6 a k (by omega)])
    have hWd : CdsM Bd 288 32 flF (fun _ => 5) := by
      refine ⟨⟨fun s hs => ?_, fun s hs y => ?_⟩, ⟨fun s hs => ?_, fun s hs y => ?_⟩, by decide, fun s h0 h1 => ?_, fun s h0 h1 => ?_⟩
      · rw [atd _ _ (by omega)]; exact f3.1 s hs
      · rw [atd _ _ (by omega)]; exact f3.2 s hs y
      · rw [atd _ _ (by omega)]; exact f4.1 s hs
      · rw [atd _ _ (by omega)]; exact f4.2 s hs y
      · rw [atd _ _ (by omega), atd _ _ (by omega), at6 _ _ (by omega), at6 _ _ (by omega)]; exact b2.1 s h0 h1
      · rw [atd _ _ (by omega), atd _ _ (by omega), at6 _ _ (by omega), at6 _ _ (by omega)]; exact b2.2 s h0 h1
    obtain ⟨Be, e1, e2, e3⟩ := md_fewD (q := q) (B := Bd) hx hL hM hD hBd hWd x.toNat 0 Bd (by omega) (EX.refl _ Bd) (fun k h1 h2 => by
      have ek : k = x := by omega
      rw [ek, ed, wI_at]
      exact ⟨rfl, fun y => absurd y (by omega)⟩)
    rw [show x - 1 - ((0 : Nat) : Int) = x - 1 by omega] at e3
    have ate : ∀ (a : Nat) (k : Int), ¬ (XMa a k) → Be.1 a k = Bd.1 a k := fun a k y => e1.2 a k y
    obtain ⟨B7, g1, g2, g3⟩ := md_fewT (q := q) hx hL hD hP K 0 Be (by omega) (by rw [ate 367 2 (by unfold XMa XMw XLo; omega)]; exact hBd.1) e2 ⟨by rw [ate 367 29 (by unfold XMa XMw XLo; omega), atd 367 29 (by omega), at6 367 29 (by omega), b6]; rfl, fun k k0 k1 => absurd k1 (by omega)⟩
    rw [hP.1] at g3
    rw [← eT] at g2
    have k307 : EV q 307 0 [some (.ref 367), none, none, none, none, none, none] [] B6 none B7 := by
      have h62 : B6.1 367 2 = x := by rw [at6 367 2 (by omega)]; exact b4.1
      refine vc_MD_parseLeast ?_
      rw [h62, w32_of (x := x) (by omega)]
      refine ⟨by omega, fun S2 q2 => ?_⟩
      rw [← ed] at q2
      rw [q2, hBd.1]
      exact e3 none B7 g3
    have x7 : EX (fun a k => XTm a k ∨ XLo a k ∨ XMw a k ∨ XSm a k) B5 B7 := by
      have y1 : EX (fun a k => XTm a k ∨ XLo a k ∨ XMw a k ∨ XSm a k) B5 B6 := EX.mono f1 (fun a k y => Or.inr (Or.inr (Or.inr y)))
      have y2 : EX (fun a k => XTm a k ∨ XLo a k ∨ XMw a k ∨ XSm a k) B5 Bd := by rw [ed]; exact y1.wr (Or.inr (Or.inr (Or.inl (Or.inl rfl))))
      exact (y2.trans (EX.mono e1 (fun a k y => by rcases y with y | y; exact Or.inr (Or.inr (Or.inl y)); exact Or.inr (Or.inl y)))).trans (EX.mono g1 (fun a k y => Or.inl y))
    have hB7 : TXm B7 x t := TXm_e b4 (fun a k y => x7.2 a k (by unfold XTm XLo XMw XSm; omega))
    have h7 : MBt B7 0 s0 := MBt_cg b5 (fun a k y => x7.2 a k (by unfold XWb at y; unfold XTm XLo XMw XSm; omega))
    have tb7 : TbM B7 := ⟨fun s h0 h1 => by rw [x7.2 391 s (by unfold XTm XLo XMw XSm; omega), x7.2 392 s (by unfold XTm XLo XMw XSm; omega)]; exact b2.1 s h0 h1, fun s h0 h1 => by rw [x7.2 393 s (by unfold XTm XLo XMw XSm; omega), x7.2 394 s (by unfold XTm XLo XMw XSm; omega)]; exact b2.2 s h0 h1⟩
    obtain ⟨B8, i1, i2, i3, i4⟩ := jm B7 3 tb7 hB7 g2 h7
    obtain ⟨B9, e9⟩ : ∃ B9, B9 = wI (wI B8 367 56 (B8.1 367 12)) 367 10 0 := ⟨_, rfl⟩
    have at9 : ∀ (a : Nat) (k : Int), ¬ (a = 367 ∧ (k = 10 ∨ k = 56)) → B9.1 a k = B8.1 a k := fun a k y => by rw [e9, wI_no _ (by omega), wI_no _ (by omega)]
    have k357 : EV q 289 357 [some (.ref 367), some (vI 3), none, none, none, none, none] [] B8 none B9 := vc_MD_packBlocks_357 _ (fun S1 q1 S2 q2 => ⟨rfl, by rw [q2, q1]; exact e9⟩)
    have y9 : EY XPb B B9 := by
      refine ⟨by rw [e9]; show B8.2.2 = B.2.2; rw [i1.1, x7.1, b1.1], fun a k y => ?_⟩
      unfold XPb at y
      rw [at9 a k (by omega), i1.2 a k (by unfold XWb XSm; omega), x7.2 a k (by unfold XTm XLo XMw XSm; omega), b1.2 a k (by unfold XPr XTb; omega)]
    have y5 : EY (fun a k => XTm a k ∨ XLo a k ∨ XMw a k ∨ XSm a k ∨ XWb a k ∨ (a = 367 ∧ k = 56)) B5 B9 := by
      refine ⟨by rw [e9]; show B8.2.2 = B5.2.2; rw [i1.1, x7.1], fun a k y => ?_⟩
      unfold XTm XLo XMw XSm XWb at y
      rw [at9 a k (by omega), i1.2 a k (by unfold XWb XSm; omega), x7.2 a k (by unfold XTm XLo XMw XSm; omega)]
    refine ⟨B9, y9, TbK_ey b3 y5 (fun a k y => by unfold XTm XLo XMw XSm XWb at y; omega), ⟨MWt_cg i2.1 (fun a k y => at9 a k (by unfold XW at y; omega)), by rw [e9, wI_at]; rfl, by rw [at9 367 11 (by omega)]; exact i2.2.2⟩, fun _ => MTk_e g2 (fun a k y => by rw [at9 a k (by unfold XTm at y; omega), i1.2 a k (by unfold XTm at y; unfold XWb XSm; omega)]), ?_, vc_MD_packBlocks _ ⟨B1, b8, fun S3 q3 S4 q4 S5 q5 => ?_⟩⟩
    · rw [e9, wI_no _ (by omega), wI_at, i3, x7.2 367 12 (by unfold XTm XLo XMw XSm; omega), b7]
      omega
    · rw [q4, q3, ← b9] at q5
      subst q5
      exact ⟨fun _ => ⟨fun c => absurd c (by decide), fun _ => ⟨fun _ => ⟨B6, f2, fun _ => ⟨B7, k307, i4 _ _ k357⟩, fun c => absurd (by decide) c⟩, fun c => absurd (by decide) c⟩⟩, fun c => absurd (by decide) c⟩
end PLev3
