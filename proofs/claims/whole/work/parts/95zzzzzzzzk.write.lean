/-! write: the card of a TAPE whole, the class -/
section WrC
variable {q : Nat × (Nat → Int32)} {sh e nn : Nat} {g : Nat → Int} {md sz tm : Int}
/-- a card before its sum, and with it -/
def tpA (g : Nat → Int) (nn : Nat) (md sz tm : Int) : Int → Int := cW 257 8 (fun k => sS 7 k) (cW 156 1 (fun _ => 48) (cW 136 11 (egF tm 11) (cW 124 11 (egF sz 11) (cW 116 7 (egF 0 7) (cW 108 7 (egF 0 7) (cW 100 7 (egF md 7) (cW 0 nn g (fun _ => 0))))))))
def tpB (g : Nat → Int) (nn : Nat) (md sz tm : Int) : Int → Int := cW 155 1 (fun _ => 32) (cW 148 6 (egF (tsF (tpA g nn md sz tm) 512) 6) (tpA g nn md sz tm))
theorem cW_r {p n : Nat} {f : Nat → Int} {c : Int → Int} (hf : ∀ k : Nat, k < n → 0 ≤ f k ∧ f k < 256) (hc : ∀ k : Int, 0 ≤ c k ∧ c k < 256) (k : Int) : 0 ≤ cW p n f c k ∧ cW p n f c k < 256 := by
  unfold cW
  by_cases d : (p : Int) ≤ k ∧ k < (p : Int) + n
  · rw [if_pos d]; exact hf _ (by omega)
  · rw [if_neg d]; exact hc k
theorem mk_r : ∀ k : Fin 8, 0 ≤ sS 7 (k.val : Int) ∧ sS 7 (k.val : Int) < 256 := by decide +kernel
theorem tpA_r (hg : ∀ k : Nat, k < nn → 0 ≤ g k ∧ g k < 256) (k : Int) : 0 ≤ tpA g nn md sz tm k ∧ tpA g nn md sz tm k < 256 := by
  have eg : ∀ (v : Int) (n k : Nat), 0 ≤ egF v n k ∧ egF v n k < 256 := fun v n k => by have := egF_r v n k; omega
  unfold tpA
  exact cW_r (fun k hk => mk_r ⟨k, hk⟩) (cW_r (fun _ _ => by decide) (cW_r (fun k _ => eg _ _ k) (cW_r (fun k _ => eg _ _ k) (cW_r (fun k _ => eg _ _ k) (cW_r (fun k _ => eg _ _ k) (cW_r (fun k _ => eg _ _ k) (cW_r hg (fun _ => by decide)))))))) k
theorem cl_nmC (hs : isSh sh) (he : e < 16) (hn : nn ≤ 100) : ∀ (r i : Nat) (A : ms), i + r = nn → A.1 (sh + 11 + 4 * e) 1 = nn → (∀ k : Nat, k < nn → A.1 (sh + 11 + 4 * e + 1) k = g k) → (∀ k : Int, 0 ≤ k → k < 512 → A.1 (sh + 7) k = cW 0 i g (fun _ => 0) k) → ∃ A', EX (fun a _ => a = sh + 7) A A' ∧ (∀ k : Int, 0 ≤ k → k < 512 → A'.1 (sh + 7) k = cW 0 nn g (fun _ => 0) k) ∧ ∀ (Q : Option Value) (S' : ms), EV q 184 10 [some (.ref sh), some (vI e), some (vI nn)] [] A' Q S' → EV q 184 10 [some (.ref sh), some (vI e), some (vI i)] [] A Q S' := by
  have is := isSh_is hs
  obtain ⟨r1, r2, r3, r4⟩ := sh_nm hs he
  have ee : w32 (e : Int) = e := w32_of (by omega)
  have r1' : sh_r (SH (sh + 1)).2.2 (w32 (e : Int)).toNat = some (sh + 11 + 4 * e) := by rw [ee]; exact r1
  intro r
  induction r with
  | zero =>
    intro i A hi h1 hg h
    have e' : i = nn := by omega
    subst e'
    exact ⟨A, EX.refl _ A, h, fun Q S' k => k⟩
  | succ r ih =>
    intro i A hi h1 hg h
    obtain ⟨A', g1, g2, g3⟩ := ih (i + 1) (wI A (sh + 7) i (g i)) (by omega) (by rw [wI_no _ (by omega)]; exact h1) (fun k hk => by rw [wI_no _ (by omega)]; exact hg k hk) (fun k k0 k1 => by
      by_cases c : k = i
      · rw [c, wI_at]
        unfold cW
        rw [if_pos (by omega), show (((i : Int) - ((0 : Nat) : Int)).toNat : Nat) = i by omega]
      · rw [wI_no _ (fun z => c z.2), h k k0 k1]
        unfold cW
        by_cases d : ((0 : Nat) : Int) ≤ k ∧ k < ((0 : Nat) : Int) + i
        · rw [if_pos d, if_pos (by omega)]
        · rw [if_neg d, if_neg (by omega)])
    refine ⟨A', ((EX.refl _ A).wr rfl).trans g1, g2, fun Q S' k => vc_Shelf_tapeCard_10 _ _ _ is ?_⟩
    have g4 := g3 Q S' k
    rw [show ((i + 1 : Nat) : Int) = (i : Int) + 1 by omega] at g4
    refine ⟨by rw [ee]; omega, sh + 11 + 4 * e, 100, r1', r2, ?_⟩
    rw [h1, show w32 (nn : Int) = nn from w32_of (by omega), show w32 (i : Int) = i from w32_of (by omega)]
    refine cNo (by omega) ⟨by rw [ee]; omega, sh + 11 + 4 * e, 100, r1', r2, by omega, by omega, fun S29 q29 => ?_⟩
    rw [q29, hg i (by omega)]
    exact g4
theorem cl_card {A : ms} (hs : isSh sh) (he : e < 16) (hn : nn ≤ 100) (hg : ∀ k : Nat, k < nn → 0 ≤ g k ∧ g k < 256) (hr : (0 ≤ md ∧ md < 2147483648) ∧ (0 ≤ sz ∧ sz < 2147483648) ∧ 0 ≤ tm ∧ tm < 2147483648) (h1 : A.1 (sh + 11 + 4 * e) 1 = nn) (hgA : ∀ k : Nat, k < nn → A.1 (sh + 11 + 4 * e + 1) k = g k) (h3 : A.1 (sh + 3) e = md) (h4 : A.1 (sh + 4) e = tm) (hz : A.1 (sh + 13 + 4 * e) 1 = sz) : ∃ A', EX (fun a _ => a = sh + 7) A A' ∧ (∀ k : Int, 0 ≤ k → k < 512 → A'.1 (sh + 7) k = tpB g nn md sz tm k) ∧ EV q 184 0 [some (.ref sh), some (vI e), none] [] A none A' := by
  have is := isSh_is hs
  obtain ⟨r1, r2, r3, r4⟩ := sh_nm hs he
  have ee : w32 (e : Int) = e := w32_of (by omega)
  have r1' : sh_r (SH (sh + 1)).2.2 (w32 (e : Int)).toNat = some (sh + 11 + 4 * e) := by rw [ee]; exact r1
  have r3' : sh_r (SH (sh + 2)).2.2 (w32 (e : Int)).toNat = some (sh + 13 + 4 * e) := by rw [ee]; exact r3
  have s7 : SH (sh + 7) = (0, 512, []) := is.2.2.2.2.2.2.2.1
  obtain ⟨A0, e0⟩ : ∃ A0, A0 = wC A (sh + 7) 0 (512 : Nat) (fun _ => 0) := ⟨_, rfl⟩
  have f0 := sp_fillI (q := q) (S := A) s7 (by decide) 0
  rw [← e0] at f0
  have at0 : ∀ (a : Nat) (k : Int), a ≠ sh + 7 → A0.1 a k = A.1 a k := fun a k y => by rw [e0, rI_C, if_neg (fun w => y w.1)]
  have x0 : EX (fun a _ => a = sh + 7) A A0 := ⟨by rw [e0]; rfl, at0⟩
  obtain ⟨A1, a1, a2, a3⟩ := cl_nmC (q := q) (g := g) hs he hn nn 0 A0 (by omega) (by rw [at0 _ _ (by omega)]; exact h1) (fun k hk => by rw [at0 _ _ (by omega)]; exact hgA k hk) (fun k k0 k1 => by
    rw [e0, rI_C, if_pos ⟨rfl, by omega, by omega⟩]
    unfold cW
    rw [if_neg (by omega)])
  obtain ⟨A2, b1, b2, b3⟩ := cl_eigW (q := q) (v := md) (p := 100) (n := 7) is hr.1 (by decide) (by decide) a2
  obtain ⟨A3, c1, c2, c3⟩ := cl_eigW (q := q) (v := 0) (p := 108) (n := 7) is (by decide) (by decide) (by decide) b2
  obtain ⟨A4, d1, d2, d3⟩ := cl_eigW (q := q) (v := 0) (p := 116) (n := 7) is (by decide) (by decide) (by decide) c2
  obtain ⟨A5, i1, i2, i3⟩ := cl_eigW (q := q) (v := sz) (p := 124) (n := 11) is hr.2.1 (by decide) (by decide) d2
  obtain ⟨A6, j1, j2, j3⟩ := cl_eigW (q := q) (v := tm) (p := 136) (n := 11) is hr.2.2 (by decide) (by decide) i2
  obtain ⟨A7, e7⟩ : ∃ A7, A7 = wI A6 (sh + 7) 156 48 := ⟨_, rfl⟩
  have w7 : ∀ k : Int, 0 ≤ k → k < 512 → A7.1 (sh + 7) k = cW 257 0 (fun k => sS 7 k) (cW 156 1 (fun _ => 48) (cW 136 11 (egF tm 11) (cW 124 11 (egF sz 11) (cW 116 7 (egF 0 7) (cW 108 7 (egF 0 7) (cW 100 7 (egF md 7) (cW 0 nn g (fun _ => 0)))))))) k := fun k k0 k1 => by
    have y : cW 257 0 (fun k => sS 7 k) (cW 156 1 (fun _ => 48) (cW 136 11 (egF tm 11) (cW 124 11 (egF sz 11) (cW 116 7 (egF 0 7) (cW 108 7 (egF 0 7) (cW 100 7 (egF md 7) (cW 0 nn g (fun _ => 0)))))))) k = cW 156 1 (fun _ => 48) (cW 136 11 (egF tm 11) (cW 124 11 (egF sz 11) (cW 116 7 (egF 0 7) (cW 108 7 (egF 0 7) (cW 100 7 (egF md 7) (cW 0 nn g (fun _ => 0))))))) k := if_neg (by omega)
    rw [y, e7]
    by_cases c : k = 156
    · rw [c, wI_at]
      rfl
    · rw [wI_no _ (fun z => c z.2), j2 k k0 k1]
      exact (if_neg (by omega)).symm
  obtain ⟨A8, p1, p2, p3⟩ := cl_mrk (q := q) (x1 := e) is 8 0 A7 (by decide) w7
  have p2' : ∀ k : Int, 0 ≤ k → k < 512 → A8.1 (sh + 7) k = tpA g nn md sz tm k := p2
  have ts := cl_tsm (q := q) (A := A8) s7 (by decide) p2' 512 0 (by decide)
  have tr := tsF_r (c := tpA g nn md sz tm) (fun k _ _ => tpA_r hg k) 512 (Nat.le_refl _)
  obtain ⟨A9, t1, t2, t3⟩ := cl_eigW (q := q) (v := tsF (tpA g nn md sz tm) 512) (p := 148) (n := 6) is (by omega) (by decide) (by decide) p2'
  obtain ⟨A10, e10⟩ : ∃ A10, A10 = wI A9 (sh + 7) 155 32 := ⟨_, rfl⟩
  have x1 := x0.trans a1
  have x2 := x1.trans b1
  have x4 := (x2.trans c1).trans d1
  have x5 := x4.trans i1
  have x6 := x5.trans j1
  have x7 : EX (fun a _ => a = sh + 7) A A7 := x6.trans (by rw [e7]; exact (EX.refl _ A6).wr rfl)
  have x10 : EX (fun a _ => a = sh + 7) A A10 := ((x7.trans p1).trans t1).trans (by rw [e10]; exact (EX.refl _ A9).wr rfl)
  refine ⟨A10, x10, fun k k0 k1 => ?_, vc_Shelf_tapeCard _ _ is ⟨A0, f0, a3 none A10 (vc_Shelf_tapeCard_10 _ _ _ is ⟨by rw [ee]; omega, sh + 11 + 4 * e, 100, r1', r2, ?_⟩)⟩⟩
  · rw [e10]
    by_cases c : k = 155
    · rw [c, wI_at]
      rfl
    · rw [wI_no _ (fun z => c z.2), t2 k k0 k1]
      exact (if_neg (by omega)).symm
  · rw [x1.2 _ _ (by omega), h1]
    refine cY (Int.le_refl _) ⟨by rw [ee]; omega, A2, ?_, A3, c3, A4, d3, by rw [ee]; omega, sh + 13 + 4 * e, 6000, r3', r4, A5, ?_, by rw [ee]; omega, A6, ?_, by decide, fun S22 q22 => ?_⟩
    · rw [ee, x1.2 _ _ (by omega), h3]
      exact b3
    · rw [x4.2 _ _ (by omega), hz]
      exact i3
    · rw [ee, x5.2 _ _ (by omega), h4]
      exact j3
    · rw [show w32 156 = 156 by decide, ← e7] at q22
      rw [q22]
      refine p3 none A10 (vc_Shelf_tapeCard_122 _ _ _ is (cY (by decide) ⟨_, A8, vc_Shelf_tapeSum _ _ _ s7 ts, A9, t3, by decide, fun S7 q7 => ⟨rfl, ?_⟩⟩))
      rw [show w32 155 = 155 by decide, ← e10] at q7
      exact q7.symm
end WrC
