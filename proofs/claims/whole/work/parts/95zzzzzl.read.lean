/-! read: a packed text of a BOX, both sides at once -/
section ReaL
variable {q : Nat × (Nat → Int32)} {x : Int} {t : Int → Int}
def stW (s : Rd) : Rd := (s.1, s.2.1, 0, 0, fun _ => 0)
theorem stW_r {en : Int} {s : Rd} (hx : 0 ≤ x) (h : rdR en s) : rdR x (stW s) := ⟨h.1, ⟨Int.le_refl 0, hx⟩, (by decide : (0 : Int) ≤ 0 ∧ (0 : Int) ≤ 12000), fun k k0 k1 => absurd (show k < (0 : Int) from k1) (by omega), h.2.2.2.2⟩
/-- the class: clear, window, blocks, end, window -/
theorem jpk {fr en : Int} {st : Rd} (hx : 0 ≤ x ∧ x ≤ 6000) (ht : ∀ k : Int, 0 ≤ k → k < x → 0 ≤ t k ∧ t k < 256) (hf : 0 ≤ fr ∧ fr ≤ en) (he : en ≤ x) (hr : rdR x st) (c0 : st.1 = 0) : ∃ s : Rd, rdR en s ∧ (∀ S A : ms, S.1 9 7 = 0 → S.2.2 9 1 = 7 → TC S x t → CodC S 31 288 flF → CodC S 42 32 (fun _ => 5) → CW S A x st → ∃ S1 A3 A4 A5, EX XCc S S1 ∧ EV q 37 0 [some (.ref 7)] [] A none (CL A 7) ∧ EV q 156 0 [some (.ref 9), some (vI fr), some (vI en)] [] (CL A 7) none A3 ∧ EV q 129 0 [some (.ref 30), some (.ref 9), some (vI 32768), none, none] [] A3 none A4 ∧ EV q 125 0 [some (.ref 9)] [] A4 none A5 ∧ ∃ A6, EV q 156 0 [some (.ref 9), some (vI fr), some (vI x)] [] A5 none A6 ∧ CW S1 A6 x (stW s) ∧ A6.1 7 1 = s.2.2.2.1 ∧ ∀ j : Int, 0 ≤ j → j < s.2.2.2.1 → A6.1 8 j = s.2.2.2.2 j) ∧ ∀ S B : ms, TbK S → S.2.2 367 13 = 368 → TM S x t → MWl S B st → ∃ S1 B2 B4 B6, EY (fun a k => XBm a k ∨ (a = 367 ∧ k = 14)) S S1 ∧ TbK S1 ∧ EV q 331 0 [some (.ref 367), some (.ref 368), some (vI fr), some (vI en)] [] (wI B 367 22 0) none B2 ∧ EV q 343 0 [some (.ref 367), some (vL 32768), none, none, none] [] B2 none B4 ∧ EV q 341 0 [some (.ref 367)] [] B4 none B6 ∧ MWl S1 B6 (stW s) ∧ B6.1 367 22 = s.2.2.2.1 ∧ ∀ j : Int, 0 ≤ j → j < s.2.2.2.1 → B6.1 375 j = b8 (s.2.2.2.2 j) := by
  have hen : 0 ≤ en ∧ en ≤ 6000 := by omega
  have hte : ∀ k : Int, 0 ≤ k → k < en → 0 ≤ t k ∧ t k < 256 := fun k k0 k1 => ht k k0 (by omega)
  have pl : st.2.1 = 0 := hr.2.2.2.2 c0
  obtain ⟨s1, e1⟩ : ∃ s : Rd, s = (0, 0, fr, 0, fun _ => 0) := ⟨_, rfl⟩
  have r1 : rdR en s1 := by
    rw [e1]
    exact ⟨(by decide : (0 : Int) ≤ 0 ∧ (0 : Int) < 1000), hf, (by decide : (0 : Int) ≤ 0 ∧ (0 : Int) ≤ 12000), fun k k0 k1 => absurd (show k < (0 : Int) from k1) (by omega), fun _ => rfl⟩
  have z1 : s1.1 = 0 := by rw [e1]
  obtain ⟨sf, ⟨g1, g2⟩, g3, g4⟩ := jallT (q := q) (rc := 32768) hen hte (by decide) r1 z1
  refine ⟨rdEnd en sf, rdR_end g1, fun S A hS ho hT h31 h42 hA => ?_, fun S B hK h13 hT hB => ?_⟩
  · -- the class
    have ir : isRow 7 12000 := ⟨rfl, rfl⟩
    obtain ⟨A3, eA3⟩ : ∃ A3, A3 = wI (wI (wI (CL A 7) 9 3 fr) 9 2 en) 9 8 0 := ⟨_, rfl⟩
    obtain ⟨S0, eS0⟩ : ∃ S0 : ms, S0 = (fun a k => if a = 7 then A3.1 7 k else S.1 a k, S.2) := ⟨_, rfl⟩
    have q0 : ∀ (a : Nat) (k : Int), a ≠ 7 → S0.1 a k = S.1 a k := fun a k n => by rw [eS0]; exact if_neg n
    have q7 : ∀ k : Int, S0.1 7 k = A3.1 7 k := fun k => by
      rw [eS0]
      show (if (7 : Nat) = 7 then A3.1 7 k else S.1 7 k) = _
      rw [if_pos rfl]
    have qA : ∀ (a : Nat) (k : Int), A3.1 a k = if a = 9 ∧ k = 8 then 0 else if a = 9 ∧ k = 2 then en else if a = 9 ∧ k = 3 then fr else (CL A 7).1 a k := fun a k => by rw [eA3]; rfl
    have nA : ∀ (a : Nat) (k : Int), a ≠ 9 → a ≠ 7 → A3.1 a k = A.1 a k := fun a k n1 n2 => by rw [qA, if_neg (by omega), if_neg (by omega), if_neg (by omega), CL_n _ n2]
    have hCT : CT S0 A3 7 en s1 := by
      rw [e1]
      refine ⟨by rw [eA3, eS0]; exact hA.1, ⟨fun _ => by rw [qA, if_neg (by omega), if_pos ⟨rfl, rfl⟩], ?_, ?_, fun _ => by rw [qA, if_neg (by omega), if_neg (by omega), if_pos ⟨rfl, rfl⟩], fun _ => by rw [qA, if_pos ⟨rfl, rfl⟩]⟩, ⟨?_, fun k k0 k1 => absurd (show k < (0 : Int) from k1) (by omega)⟩, fun a k n1 n2 n3 => ?_⟩
      · rw [qA, if_neg (by omega), if_neg (by omega), if_neg (by omega), CL_n _ (by decide), hA.2.1.2.1, c0]
      · rw [qA, if_neg (by omega), if_neg (by omega), if_neg (by omega), CL_n _ (by decide), hA.2.1.2.2, pl]
      · rw [qA, if_neg (by omega), if_neg (by omega), if_neg (by omega), CL_1]
      · by_cases e : a = 7
        · subst e; rw [q7]
        · rw [q0 a k e]
          by_cases e9 : a = 9
          · subst e9
            have ek : k = 7 := Classical.not_not.mp (fun y => n1 ⟨rfl, y⟩)
            subst ek
            rw [qA, if_neg (by omega), if_neg (by omega), if_neg (by omega), CL_n _ (by decide), hA.2.2.2 9 7 (by omega) (by omega) (by omega)]
          · rw [nA a k e9 e, hA.2.2.2 a k (by omega) e (by omega)]
    have hC0 : RdC S0 7 en t := ⟨by rw [eS0]; exact ho, ir, Or.inr rfl, hen, fun k k0 k1 => ⟨hte k k0 k1, by rw [q0 2 k (by decide)]; exact (hT k k0 (by omega)).2⟩⟩
    have cod : ∀ (b n : Nat) (l : Int → Int), CodC S b n l → CodC S0 b n l := fun b n l h => ⟨h.1, h.2.1, h.2.2.1, by have := h.2.1; rw [q0 b 5 (by omega)]; exact h.2.2.2.1, fun k k1 k2 => by have := h.2.1; rw [q0 (b + 5) k (by omega)]; exact h.2.2.2.2.1 k k1 k2, fun s hs hl => by have := h.2.1; rw [q0 (b + 4) _ (by omega)]; exact h.2.2.2.2.2 s hs hl⟩
    obtain ⟨S1, A4, k1, k2, k3⟩ := g3 S0 A3 7 (by rw [q0 9 7 (by decide)]; exact hS) hC0 (cod _ _ _ h31) (cod _ _ _ h42) hCT
    have hC1 : RdC S1 7 en t := RdC_ey hC0 k1.ey (fun k => by unfold XCc; omega)
    obtain ⟨A5, k4, k5⟩ := sb_end (q := q) hC1 g1 k3
    obtain ⟨A6, eA6⟩ : ∃ A6, A6 = wI (wI (wI A5 9 3 fr) 9 2 x) 9 8 0 := ⟨_, rfl⟩
    have q6 : ∀ (a : Nat) (k : Int), A6.1 a k = if a = 9 ∧ k = 8 then 0 else if a = 9 ∧ k = 2 then x else if a = 9 ∧ k = 3 then fr else A5.1 a k := fun a k => by rw [eA6]; rfl
    obtain ⟨S2, eS2⟩ : ∃ S2 : ms, S2 = (fun a k => if a = 7 then S.1 7 k else S1.1 a k, S1.2) := ⟨_, rfl⟩
    have w2 : ∀ (a : Nat) (k : Int), a ≠ 7 → S2.1 a k = S1.1 a k := fun a k n => by rw [eS2]; exact if_neg n
    refine ⟨S2, A3, A4, A5, ⟨by rw [eS2]; show S1.2 = S.2; rw [k1.1, eS0], fun a k n => ?_⟩, sp_clear ir, vc_Source_window _ _ (fun B1 f1 B2 f2 B3 f3 => ⟨rfl, by rw [eA3, f3, f2, f1]⟩), k2, k4, A6, vc_Source_window _ _ (fun B1 f1 B2 f2 B3 f3 => ⟨rfl, by rw [eA6, f3, f2, f1]⟩), ⟨by rw [eA6, eS2]; exact k5.1, ⟨fun _ => by rw [q6, if_neg (by omega), if_pos ⟨rfl, rfl⟩], by rw [q6, if_neg (by omega), if_neg (by omega), if_neg (by omega)]; exact k5.2.1.2.1, by rw [q6, if_neg (by omega), if_neg (by omega), if_neg (by omega)]; exact k5.2.1.2.2.1⟩, trivial, fun a k n1 n2 n3 => ?_⟩, by rw [q6, if_neg (by omega), if_neg (by omega), if_neg (by omega)]; exact k5.2.2.1.1, fun j j0 j1 => by rw [q6, if_neg (by omega), if_neg (by omega), if_neg (by omega)]; exact k5.2.2.1.2 j j0 j1⟩
    · by_cases e : a = 7
      · subst e
        rw [eS2]
        show (if (7 : Nat) = 7 then S.1 7 k else S1.1 7 k) = _
        rw [if_pos rfl]
      · rw [w2 a k e, k1.2 a k n, q0 a k e]
    · rw [w2 a k n2, q6, if_neg (by omega), if_neg (by omega), if_neg (by omega)]
      exact k5.2.2.2 a k n1 (by omega) n3
  · -- the reference
    obtain ⟨B2, eB2⟩ : ∃ B2, B2 = wI (wI (wI (wI (wR (wI B 367 22 0) 367 13 368) 367 14 fr) 367 16 fr) 367 15 en) 367 17 0 := ⟨_, rfl⟩
    have qB : ∀ (a : Nat) (k : Int), B2.1 a k = if a = 367 ∧ k = 17 then 0 else if a = 367 ∧ k = 15 then en else if a = 367 ∧ k = 16 then fr else if a = 367 ∧ k = 14 then fr else if a = 367 ∧ k = 22 then 0 else B.1 a k := fun a k => by rw [eB2]; rfl
    have eB22 : B2.2 = S.2 := by
      rw [eB2, ← hB.1]
      show (B.2.1, fun b k => if b = 367 ∧ k = 13 then 368 else B.2.2 b k) = B.2
      have : (fun (b : Nat) (k : Int) => if b = 367 ∧ k = 13 then 368 else B.2.2 b k) = B.2.2 := by
        funext b k
        by_cases y : b = 367 ∧ k = 13
        · rw [if_pos y, y.1, y.2, hB.1]; exact h13.symm
        · rw [if_neg y]
      rw [this]
    have ex14 : EX (fun a k => a = 367 ∧ k = 14) S (wI S 367 14 fr) := EX.wr (EX.refl _ S) ⟨rfl, rfl⟩
    have hMB : MB (wI S 367 14 fr) B2 en s1 0 := by
      rw [e1]
      refine ⟨eB22, ⟨fun _ => by rw [qB, if_neg (by omega), if_pos ⟨rfl, rfl⟩], fun _ => by rw [qB, if_pos ⟨rfl, rfl⟩], ?_, ?_, fun _ => ?_⟩, ⟨?_, fun k k0 k1 => absurd (show k < (0 : Int) from k1) (by omega)⟩, fun a k n1 n2 => ?_⟩
      · rw [qB, if_neg (by omega), if_neg (by omega), if_neg (by omega), if_neg (by omega), if_neg (by omega), hB.2.1.1, c0]
      · rw [qB, if_neg (by omega), if_neg (by omega), if_neg (by omega), if_neg (by omega), if_neg (by omega), hB.2.1.2, pl]
      · rw [qB, if_neg (by omega), if_neg (by omega), if_pos ⟨rfl, rfl⟩, if_pos rfl]
        exact (Int.sub_zero fr).symm
      · rw [qB, if_neg (by omega), if_neg (by omega), if_neg (by omega), if_neg (by omega), if_pos ⟨rfl, rfl⟩]
      · rw [qB, if_neg (by omega), if_neg (by omega), if_neg (by omega)]
        by_cases y : a = 367 ∧ k = 14
        · rw [if_pos y, y.1, y.2, wI_at]
        · rw [if_neg y, if_neg (by omega), wI_no _ y]
          exact hB.2.2.2 a k n1 n2
    have hK0 : TbK (wI S 367 14 fr) := TbK_ey hK ex14.ey (fun a k y => by omega)
    have hM0 : RdM (wI S 367 14 fr) en t := ⟨h13, hen, fun k k0 k1 => ⟨hte k k0 k1, by
      rw [wI_no _ (by omega), (hT k k0 (by omega)).2]
      have := hte k k0 k1
      unfold b8
      omega⟩⟩
    obtain ⟨S1, B4, k1, k2, k3, k4⟩ := g4 _ B2 hK0 hM0 hMB
    obtain ⟨B6, k5, k6⟩ := mb_end (q := q) hen.2 g1 (hR_0 _) k3
    refine ⟨S1, B2, B4, B6, EY.trans (EY.mono ex14.ey (fun a k y => Or.inr y)) (EY.mono k1 (fun a k y => Or.inl y)), k4, vc_MD_readFrom _ _ 368 6000 rfl (fun V1 f1 V2 f2 V3 f3 V4 f4 V5 f5 => ⟨rfl, by rw [eB2, f5, f4, f3, f2, f1]⟩), k2, k5, ⟨k6.1, ⟨k6.2.1.2.2.1, k6.2.1.2.2.2.1⟩, trivial, k6.2.2.2⟩, k6.2.2.1.1, k6.2.2.1.2⟩
end ReaL
