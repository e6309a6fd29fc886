/-! write: BOX on both sides -/
section WrP
variable {q : Nat × (Nat → Int32)} {n : Nat} {E : Nat → En}
theorem wj_13 {lv : Int} (hl : 0 ≤ lv ∧ lv ≤ 4) (hn : n ≤ 16) (hE : ∀ e : Nat, e < n → EnOk (E e)) : WJ q 13 lv n E := by
  have hm : ∀ e : Nat, ∃ X : Bx, e < n → BxP q lv (E e) X := fun e => by
    by_cases c : e < n
    · obtain ⟨X, h⟩ := BxP_ex (q := q) (hE e c) hl
      exact ⟨X, fun _ => h⟩
    · exact ⟨(0, 0, fun _ => 0, 0), fun y => absurd y c⟩
  obtain ⟨X, hX⟩ : ∃ X : Nat → Bx, ∀ e : Nat, e < n → BxP q lv (E e) (X e) := ⟨fun e => Classical.choose (hm e), fun e => Classical.choose_spec (hm e)⟩
  clear hm
  have ok1 := bxG_ok hE hX
  have ok2 := bxR_ok (X := X) (hd := hdF E X w00) hE
  have w0 := w00_r
  have e00 : w00.1 = 0 := rfl
  have ra := gAll_r ok1 n 0 w00 (by omega)
  have rs := gStp_r ok1 n 0 w00 (by omega)
  have eq := g_eq ok1 n 0 w00 (by omega)
  obtain ⟨wa, ea⟩ : ∃ wa, wa = gAll (fun e => bxG (E e) (X e)) n 0 w00 := ⟨_, rfl⟩
  obtain ⟨ws, es⟩ : ∃ ws, ws = gStp (fun e => bxG (E e) (X e)) n 0 w00 := ⟨_, rfl⟩
  rw [← ea] at ra eq
  rw [← es] at rs eq
  have ra2 := gAll_r ok2 n 0 wa (by omega)
  have rs2 := gStp_r ok2 n 0 ws (by omega)
  obtain ⟨va, eva⟩ : ∃ va, va = gAll (fun e => bxRw (E e) (X e) (hdF E X w00 e)) n 0 wa := ⟨_, rfl⟩
  obtain ⟨vs, evs⟩ : ∃ vs, vs = gStp (fun e => bxRw (E e) (X e) (hdF E X w00 e)) n 0 ws := ⟨_, rfl⟩
  rw [← eva] at ra2
  rw [← evs] at rs2
  have ea1 := bxEd_1 n wa.1 (va.1 - wa.1) va
  have es1 := bxEd_1 n ws.1 (vs.1 - ws.1) vs
  have hh : ∀ e : Nat, e < n → 0 ≤ hdF E X w00 e ∧ hdF E X w00 e ≤ wa.1 := fun e he => by
    have r1 := gAll_r (n := e) (G := fun e => bxG (E e) (X e)) (fun i w hi => ok1 i w (by omega)) e 0 w00 (by omega)
    have gr : ∀ d : Nat, e + d ≤ n → (gAll (fun e => bxG (E e) (X e)) e 0 w00).1 ≤ (gAll (fun e => bxG (E e) (X e)) (e + d) 0 w00).1 := fun d => by
      induction d with
      | zero => intro _; exact Int.le_refl _
      | succ d ih =>
        intro hd
        have a := ih (by omega)
        have b := (ok1 (0 + (e + d)) (gAll (fun e => bxG (E e) (X e)) (e + d) 0 w00) (by omega)).1.1
        rw [show e + (d + 1) = e + d + 1 from rfl, gAll_e]
        exact Int.le_trans a b
    have g := gr (n - e) (by omega)
    rw [show e + (n - e) = n by omega, ← ea] at g
    unfold hdF
    exact ⟨by omega, g⟩
  refine ⟨bxEd n wa.1 (va.1 - wa.1) va, bxEd n ws.1 (vs.1 - ws.1) vs, ⟨⟨by omega, bxEd_O (ra2.2 (ra.2 w00_O))⟩, by omega, ?_⟩, fun A sh o hs ho o3 hI hC h => ?_, fun B hB hQ hK hC hT h => ?_⟩
  · rcases eq with y | y
    · have eq2 := g_eq ok2 n 0 wa (by omega)
      rw [y] at evs
      rw [← eva, ← evs] at eq2
      rcases eq2 with z | z
      · exact Or.inl (by rw [y, z])
      · exact Or.inr (by omega)
    · exact Or.inr (by omega)
  · have hsr : sh = 193 ∨ sh = 268 := hs
    obtain ⟨A1, a1, a2, a3, a4⟩ := cl_bx1 (q := q) (lv := lv) (w0 := w00) hs ho o3 hn hE hX n 0 A w00 (by omega) rfl w0.1 hI hC h.1 (fun j hj => absurd hj (by omega))
    rw [← ea] at a2 a3
    obtain ⟨A', b1, b2, b3⟩ := cl_bx2 (q := q) (lv := lv) (w0 := w00) (b0 := A1.1 o 1) (bg := wa.1) hs ho o3 hn hE hX (by omega) hh n 0 A1 wa (by omega) (Int.le_refl _) (fun y => (a2.1 (by omega)).1) (ShC_k hn hC (fun a k y => a1.at a k (by unfold Xwc8 XPa XRb; omega))) a2 a3
    rw [← eva] at b2
    obtain ⟨c, z⟩ := a1.trans (EZ.ex (b1.mono (fun a k y => Or.inl (by unfold XRo at y; unfold XPa XRb; omega))))
    exact ⟨A', c, z, b2, fun y => absurd y (by decide), fun y => absurd y (by decide), fun _ => vc_Shelf_writeBox _ _ (isSh_is hs) _ _ ho (a4 _ _ b3)⟩
  · obtain ⟨⟨t1, t2⟩, t3⟩ := hT
    obtain ⟨N, eN⟩ : ∃ N : Nat, (N : Int) = B.1 367 2 := ⟨(B.1 367 2).toNat, by omega⟩
    obtain ⟨B1, a1, a2, a3⟩ := md_kp1 (q := q) (N := N) (x1 := lv) (x2 := B.1 367 2) (by omega) N 0 B (by omega) eN.symm (fun k k0 k1 => absurd k1 (by omega))
    have k436 : ∀ k : Int, 0 ≤ k → k < B.1 367 2 → B1.1 436 k = B.1 368 k := fun k k0 k1 => by
      rw [a2 k k0 (by omega), a1.2 368 k (show ¬ (368 : Nat) = 436 by decide)]
      exact t3 k k0 k1
    have b367 : B1.1 367 2 = N := by rw [a1.2 367 2 (show ¬ (367 : Nat) = 436 by decide)]; exact eN.symm
    have hB1 : BOk (hp B1) := BOk_e hB (fun k => a1.2 374 k (show ¬ (374 : Nat) = 436 by decide))
    have at1 : ∀ (a : Nat) (k : Int), a ≠ 436 → B1.1 a k = B.1 a k := fun a k y => a1.2 a k y
    obtain ⟨B2, b1, b2, b3, b4, b5, x3, b6⟩ := md_bx1 (q := q) (lv := lv) (x2 := B.1 367 2) (w0 := w00) hn hE hX n 0 B1 w00 (by omega) rfl w0 w00_O hB1 ⟨fun s hs => by rw [at1 _ _ (by omega)]; exact hQ.1 s hs, fun s hs => by rw [at1 _ _ (by omega)]; exact hQ.2 s hs⟩ (TbK_k hK (fun a k y => at1 a k (by omega))) (ShN_k hC (fun a k y => at1 a k (by omega))) (by rw [at1 _ _ (by omega)]; exact h.2.2) (MWt_cg h.1 (fun a k y => at1 a k (by unfold XW at y; omega))) (fun j hj => absurd hj (by omega))
    rw [← es] at b4 b5
    have at2 : ∀ (a : Nat) (k : Int), ¬ XBt a k → B2.1 a k = B1.1 a k := fun a k y => b1.2 a k y
    obtain ⟨B3, e3⟩ : ∃ B3, B3 = wI B2 367 2 (B.1 367 2) := ⟨_, rfl⟩
    have at3 : ∀ (a : Nat) (k : Int), ¬ (a = 367 ∧ k = 2) → B3.1 a k = B2.1 a k := fun a k y => by rw [e3, wI_no _ y]
    obtain ⟨B4, d1, d2, d3⟩ := md_kp2 (q := q) (N := N) (x1 := lv) (x2 := B.1 367 2) (t := B.1 368) (by omega) (fun k k0 k1 => t3 k k0 (by omega)) N 0 B3 (by omega) (by rw [e3, wI_at]; exact eN.symm) (fun k k0 k1 => by rw [at3 _ _ (by omega), at2 _ _ (by unfold XBt XPb; omega)]; exact k436 k k0 (by omega)) (fun k k0 k1 => absurd k1 (by omega))
    have at4 : ∀ (a : Nat) (k : Int), a ≠ 368 → ¬ (a = 367 ∧ k = 2) → B4.1 a k = B2.1 a k := fun a k y1 y2 => by rw [d1.2 a k y1]; exact at3 a k y2
    have m4 : MWt B4 ws := MWt_cg b4 (fun a k y => at4 a k (by unfold XW at y; omega) (by unfold XW at y; omega))
    obtain ⟨B5, f1, f2, f3⟩ := md_bx2 (q := q) (lv := lv) (x2 := B.1 367 2) (w0 := w00) (bg := ws.1) hn hE hX (by omega) (fun y e he => by
      rcases eq with z | z
      · rw [z]; exact hh e he
      · omega) n 0 B4 ws (by omega) ⟨Int.le_refl _, by omega⟩ (ShN_k hC (fun a k y => by rw [at4 a k (by omega) (by omega), at2 a k (by unfold XBt XPb; omega), at1 a k (by omega)])) m4 (fun y j hj => by
      obtain ⟨⟨g1, g2⟩, g3, g4⟩ := b5 y j hj
      refine ⟨⟨?_, ?_⟩, ?_, ?_⟩
      · rw [at4 _ _ (by omega) (by omega)]; exact g1
      · rw [at4 _ _ (by omega) (by omega)]; exact g2
      · rw [at4 _ _ (by omega) (by omega)]; exact g3
      · rw [at4 _ _ (by omega) (by omega)]; exact g4)
    rw [← evs] at f2
    have f24 : B5.1 367 2 = B.1 367 2 := by rw [f1.2 _ _ (by unfold XW; omega), d1.2 _ _ (by omega), e3, wI_at]
    refine ⟨B5, ⟨?_, fun a k y => ?_⟩, TbK_k b2 (fun a k y => by rw [f1.2 a k (by unfold XW; omega), at4 a k (by omega) (by omega)]), ⟨f24, fun k k0 k1 => ?_⟩, f2, fun y => absurd y (by decide), fun y => absurd y (by decide), fun _ => vc_MD_writeBox _ (a3 _ _ (b6 _ _ (vc_MD_writeBox_65 _ _ _ (fun S1 q1 => ?_))))⟩
    · rw [f1.1, d1.1, e3]
      show B2.2.2 = B.2.2
      rw [b1.1, a1.1]
    · unfold Xwm8 XPb at y
      rw [f1.2 a k (by unfold XW; omega), at4 a k (by omega) (by omega), at2 a k (by unfold XBt XPb; omega), at1 a k (by omega)]
    · rw [f1.2 _ _ (by unfold XW; omega)]
      exact d2 k k0 (by omega)
    · rw [← e3] at q1
      rw [q1]
      refine d3 _ _ ?_
      rw [m4.1]
      exact f3
end WrP
