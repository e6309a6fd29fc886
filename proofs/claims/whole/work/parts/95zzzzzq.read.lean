/-! read -/
section ReaQ
variable {q : Nat × (Nat → Int32)} {S : ms} {a b d : Int}
def X19 (si a : Nat) (k : Int) : Prop := xSh si a k ∨ XCc a k ∨ a = 7 ∨ a = 8 ∨ XOp a k ∨ xSi a k ∨ XBm a k
def P19 (S : ms) (sh si : Nat) (T : ms) : Prop := FQ T ∧ TbK T ∧ (EY (X19 si) (wR (wR S 9 1 7) 367 13 368) T ∨ (EY (fun a k => X19 si a k ∨ (419 ≤ a ∧ a ≤ 424) ∨ (a = 367 ∧ k = 88)) (wR (wR (wR (wR S 9 1 7) 0 13 si) 0 14 sh) 367 13 368) T ∧ RE T si ∧ RM T si))
theorem op19_ok {sh si : Nat} (ha : -2147483648 ≤ a ∧ a < 2147483648) (hT : RT S) (hq : RQ S) (hK : TbK S) (hc1 : CodC S 31 288 flF) (hc2 : CodC S 42 32 (fun _ => 5)) (hss : (sh = 193 ∧ si = 268) ∨ (sh = 268 ∧ si = 193)) (h13 : S.2.2 0 13 = sh) (h14 : S.2.2 0 14 = si) : op_19 q a b d S (fun T => T = wI S 367 0 0 ∨ P19 S sh si T) := by
  have ea : w32 a = a := w32_of ha
  have w11 : w32 11 = 11 := by decide
  have w13 : w32 13 = 13 := by decide
  by_cases ca : 11 ≤ a ∧ a ≤ 13
  case neg =>
    refine ⟨-2, S, -2, wI S 367 0 0, vc_PH_read _ ?_, vc_MD_read _ (fun S1 e => ?_), rfl, Or.inl rfl⟩
    · rw [ea]
      by_cases c : a < 11
      · exact cY c ⟨rfl, rfl⟩
      · exact cNo c (cNo (fun y => ca ⟨by omega, y⟩) ⟨rfl, rfl⟩)
    · subst e
      refine ⟨0, _, vc_MD_in _ _ _ ?_, cNN (by decide) ⟨rfl, rfl⟩⟩
      rw [ea, w11, w13]
      by_cases c : a < 11
      · exact cY c ⟨rfl, rfl⟩
      · exact cNo c (cY (by
          have : ¬ a ≤ 13 := fun y => ca ⟨by omega, y⟩
          omega) ⟨rfl, rfl⟩)
  have kin : ∀ B : ms, EV q 257 0 [some (vI a), some (vI 11), some (vI 13)] [] B (some (vI 1)) B := fun B => vc_MD_in _ _ _ (by
    rw [ea, w11, w13]
    exact cNo (by omega) (cNo (by omega) ⟨rfl, rfl⟩))
  have hs : isSh si := hss.elim (fun y => Or.inr y.2) (fun y => Or.inl y.2)
  have hs0 : isSh sh := hss.elim (fun y => Or.inl y.1) (fun y => Or.inr y.1)
  have hsl := isSh_is hs
  have hsl0 := isSh_is hs0
  have rsi : si = 193 ∨ si = 268 := hs
  obtain ⟨t1, t2, t3⟩ := id hT
  obtain ⟨x, ex⟩ : ∃ x, x = S.1 1 1 := ⟨_, rfl⟩
  obtain ⟨t, et⟩ : ∃ t : Int → Int, ∀ k, t k = S.1 2 k := ⟨_, fun _ => rfl⟩
  rw [← ex] at t1 t2 t3
  have ht : ∀ k : Int, 0 ≤ k → k < x → 0 ≤ t k ∧ t k < 256 := fun k k0 k1 => by rw [et]; exact (t3 k k0 k1).1
  obtain ⟨n', E', st, hr, hn, hE, hJc, hJm⟩ := jr_all (q := q) (t := t) hs t1 ht ca
  -- the class
  obtain ⟨A0, c1, c2⟩ := sp_beginH (q := q) (S := S) (o := 7) (x := x) (hi := 0) (Or.inl rfl) ⟨rfl, rfl⟩ (Or.inr rfl) t1
  obtain ⟨A', eA'⟩ : ∃ A', A' = wI A0 si 4 0 := ⟨_, rfl⟩
  obtain ⟨SA, m1, m2, m3⟩ := CB_X (X := fun a k => a = si ∧ k = 4) (A1 := A') (fun a k y => by omega) c2 (by rw [eA']; exact EX.wr (EX.refl _ A0) ⟨rfl, rfl⟩)
  have atA : ∀ (c : Nat) (k : Int), ¬ (c = 9 ∧ 2 ≤ k ∧ k ≤ 8) → c ≠ 7 → ¬ (c = si ∧ k = 4) → SA.1 c k = S.1 c k := fun c k n1 n2 n3 => by
    rw [m1.2 c k n3, BgH_at, if_neg (by omega), if_neg (by omega), if_neg (by omega), CL_n _ n2]
  have cod : ∀ (b n : Nat) (l : Int → Int), (b = 31 ∨ b = 42) → CodC S b n l → CodC SA b n l := fun b n l hb h => ⟨h.1, h.2.1, h.2.2.1, by rw [atA b 5 (by omega) (by omega) (by omega)]; exact h.2.2.2.1, fun k k1 k2 => by rw [atA (b + 5) k (by omega) (by omega) (by omega)]; exact h.2.2.2.2.1 k k1 k2, fun s hs hl => by rw [atA (b + 4) _ (by omega) (by omega) (by omega)]; exact h.2.2.2.2.2 s hs hl⟩
  have e22 : SA.2 = (wR S 9 1 7).2 := by rw [m1.1]; rfl
  obtain ⟨S1, A1, k1, k2, k3, k4⟩ := hJc SA A' (by rw [m1.2 9 7 (by omega), BgH_at, if_neg (by omega), if_pos ⟨rfl, rfl⟩]) (by rw [m1.1]; exact BgH_o) (fun k k0 k1 => ⟨ht k k0 k1, by rw [atA 2 k (by omega) (by omega) (by omega), et]⟩) (cod _ _ _ (Or.inl rfl) hc1) (cod _ _ _ (Or.inr rfl) hc2) (by rw [m2 si 4 ⟨rfl, rfl⟩, eA', wI_at]) (by
    rw [e22]
    show (if 0 = 9 ∧ (14 : Int) = 1 then 7 else S.2.2 0 14) = si
    rw [if_neg (by decide), h14]) m3
  have e22A : A1.2 = (wR S 9 1 7).2 := by rw [k2.1, k1.1, e22]
  have wr : w32 st.1 = st.1 := w32_of (by have := hr.1; omega)
  have kft := sp_ftW (q := q) (n' : Int) k2
  obtain ⟨AF, eAF1, eAF2⟩ : ∃ AF : ms, AF.1 = (FTc A1 st n').1 ∧ AF.2 = (if st.1 = 0 then wR (wR (wR S 9 1 7) 0 13 si) 0 14 sh else wR S 9 1 7).2 := ⟨((FTc A1 st n').1, (if st.1 = 0 then wR (wR (wR S 9 1 7) 0 13 si) 0 14 sh else wR S 9 1 7).2), rfl, rfl⟩
  have qF : ∀ (c : Nat) (k : Int), AF.1 c k = if c = 0 ∧ k = 18 then (n' : Int) else if c = 0 ∧ k = 17 then st.2.1 else if c = 0 ∧ k = 16 then st.1 else A1.1 c k := fun c k => by rw [eAF1]; rfl
  have en4 : A1.1 si 4 = n' := by rw [k2.2.2.2 si 4 (by omega) (by omega) (by omega)]; exact k3.1
  have e1314 : A1.2.2 0 14 = si ∧ A1.2.2 0 13 = sh := by
    rw [e22A]
    refine ⟨?_, ?_⟩
    · show (if 0 = 9 ∧ (14 : Int) = 1 then 7 else S.2.2 0 14) = si
      rw [if_neg (by decide), h14]
    · show (if 0 = 9 ∧ (13 : Int) = 1 then 7 else S.2.2 0 13) = sh
      rw [if_neg (by decide), h13]
  have kcl : EV q 192 107 [some (.ref 0), some (vI a), none] [] A1 (some (vI (if st.1 = 0 then (n' : Int) else -10 - st.1))) AF := by
    refine vc_PH_read_107 _ ⟨si, e1314.1, hsl, FTc A1 st n', by rw [en4]; exact kft, ?_⟩
    have e16 : (FTc A1 st n').1 0 16 = st.1 := by rw [← eAF1, qF, if_neg (by decide), if_neg (by decide), if_pos ⟨rfl, rfl⟩]
    rw [e16, wr]
    by_cases c : st.1 = 0
    · rw [if_pos c] at eAF2 ⊢
      refine cY c ⟨sh, e1314.2, hsl0, si, e1314.1, hsl, fun S12 f12 S13 f13 => ?_⟩
      have e13 : S13 = AF := by
        have e1 : S13.1 = AF.1 := by rw [f13, f12, eAF1]; rfl
        have e2 : S13.2 = AF.2 := by
          rw [f13, f12, eAF2]
          show (A1.2.1, fun b k => if b = 0 ∧ k = 14 then sh else if b = 0 ∧ k = 13 then si else A1.2.2 b k) = _
          rw [e22A]
          rfl
        exact Prod.ext e1 e2
      refine ⟨si, ?_, hsl, ?_, e13.symm⟩
      · rw [f13, f12]
        show (if 0 = 0 ∧ (13 : Int) = 14 then sh else if 0 = 0 ∧ (13 : Int) = 13 then si else (FTc A1 st n').2.2 0 13) = si
        rw [if_neg (by decide), if_pos ⟨rfl, rfl⟩]
      · rw [e13, qF, if_neg (by omega), if_neg (by omega), if_neg (by omega), en4]
    · rw [if_neg c] at eAF2 ⊢
      refine cNo c ⟨rfl, Prod.ext eAF1 ?_⟩
      rw [eAF2]
      exact e22A.symm
  have kph : EV q 192 0 [some (.ref 0), some (vI a), none] [] S (some (vI (if st.1 = 0 then (n' : Int) else -10 - st.1))) AF := by
    refine vc_PH_read _ ?_
    have kk := k4 _ _ kcl
    rw [ea] at kk ⊢
    rw [← ex]
    refine cNo (by omega) (cY ca.2 ⟨A0, c1, si, ?_, hsl, fun S6 f6 => ?_⟩)
    · rw [c2.1]
      show (if 0 = 9 ∧ (14 : Int) = 1 then 7 else S.2.2 0 14) = si
      rw [if_neg (by decide), h14]
    · rw [← eA'] at f6
      subst f6
      exact kk
  have atF : ∀ (c : Nat) (k : Int), ¬ xSh si c k → ¬ XCc c k → c ≠ 7 → c ≠ 8 → c ≠ 9 → ¬ (c = 0 ∧ 16 ≤ k ∧ k ≤ 18) → AF.1 c k = S.1 c k := fun c k n1 n2 n3 n4 n5 n6 => by
    have n1' := n1
    unfold xSh at n1'
    rw [qF, if_neg (by omega), if_neg (by omega), if_neg (by omega), k2.2.2.2 c k (by omega) n3 n4, k1.2 c k (fun y => y.elim n1 n2), atA c k (by omega) n3 (by omega)]
  -- the reference
  obtain ⟨B0, eB0⟩ : ∃ B0, B0 = wI AF 367 0 0 := ⟨_, rfl⟩
  have atB : ∀ (c : Nat) (k : Int), 367 ≤ c → ¬ (c = 367 ∧ k = 0) → B0.1 c k = S.1 c k := fun c k n1 n2 => by
    rw [eB0, wI_no _ n2, atF c k (by unfold xSh; omega) (by unfold XCc; omega) (by omega) (by omega) (by omega) (by omega)]
  obtain ⟨B1, d1, d2⟩ := md_start (q := q) (B := B0) (x := x) (by rw [atB _ _ (by omega) (by omega), t2])
  obtain ⟨B1', eB1⟩ : ∃ B1', B1' = wI B1 367 95 0 := ⟨_, rfl⟩
  obtain ⟨SB, u1, u2, u3⟩ := MB_X (X := fun a k => a = 367 ∧ k = 95) (B1 := B1') (fun a k y => by omega) d2 (by rw [eB1]; exact EX.wr (EX.refl _ B1) ⟨rfl, rfl⟩)
  have atS : ∀ (c : Nat) (k : Int), ¬ (c = 367 ∧ ((14 ≤ k ∧ k ≤ 18) ∨ k = 95)) → SB.1 c k = B0.1 c k := fun c k n => by
    rw [u1.2 c k (by omega), BgM_at, if_neg (by omega), if_neg (by omega), if_neg (by omega), if_neg (by omega)]
  have atR : ∀ (c : Nat) (k : Int), 367 < c → SB.1 c k = S.1 c k := fun c k n => by rw [atS c k (by omega), atB c k (by omega) (by omega)]
  have hM : TM SB x t := fun k k0 k1 => ⟨ht k k0 k1, by rw [atR _ _ (by omega), et]; exact (t3 k k0 k1).2⟩
  have e45 : SB.1 367 45 = S.1 367 45 := by rw [atS _ _ (by omega), atB _ _ (by omega) (by omega)]
  have hK2 : TbK SB := by
    unfold TbK TbM at hK ⊢
    rw [atR 392 28 (by omega), e45]
    refine ⟨hK.1, hK.2.imp id (fun y => ⟨y.1, fun s h1 h2 => ?_, fun s h1 h2 => ?_⟩)⟩
    · rw [atR 391 s (by omega), atR 392 s (by omega)]; exact y.2.1 s h1 h2
    · rw [atR 393 s (by omega), atR 394 s (by omega)]; exact y.2.2 s h1 h2
  have hQ2 : RQ SB := ⟨fun s hs => by rw [atR _ _ (by omega)]; exact hq.1 s hs, fun s hs => by rw [atR _ _ (by omega)]; exact hq.2 s hs⟩
  obtain ⟨S2, B2, d3, d4, d5, d6, d7⟩ := hJm SB B1' (by rw [u1.2 _ _ (by omega), BgM_at, if_neg (by omega), if_neg (by omega), if_neg (by omega), if_pos ⟨rfl, rfl⟩]) hK2 hQ2 (by rw [u1.1]; exact BgM_r) hM (by rw [atS _ _ (by omega), atB _ _ (by omega) (by omega), t2]) (by rw [u2 367 95 ⟨rfl, rfl⟩, eB1, wI_at]) u3
  have e95 : B2.1 367 95 = n' := by rw [d4.2.2.2 367 95 (by omega) (by omega)]; exact d6.1
  have kfm := md_ftW (q := q) (n' : Int) hr d4
  have q3 : ∀ (c : Nat) (k : Int), (FTm B2 st n').1 c k = if c = 367 ∧ k = 81 then (n' : Int) else if c = 367 ∧ k = 80 then st.2.1 else if c = 367 ∧ k = 79 then st.1 else B2.1 c k := fun _ _ => rfl
  have e19 : (FTm B2 st n').1 367 19 = st.1 := d4.2.1.1
  have e95' : (FTm B2 st n').1 367 95 = n' := e95
  -- the reference's cells behind its reading
  have at3 : ∀ (c : Nat) (k : Int), (c < 367 ∨ ¬ XOp c k) → ¬ xSi c k → ¬ XBm c k → (FTm B2 st n').1 c k = AF.1 c k := fun c k n1 n2 n3 => by
    unfold XOp at n1
    have n2' := n2
    unfold xSi at n2'
    rw [q3, if_neg (by omega), if_neg (by omega), if_neg (by omega), d4.2.2.2 c k (by omega) (by omega), d3.2 c k (by rintro (y | y | y); exact n2 y; exact n3 y; omega), atS c k (by omega), eB0, wI_no _ (by omega)]
  have e322 : (FTm B2 st n').2.2 = (wR AF 367 13 368).2.2 := by
    show B2.2.2 = _
    rw [d4.1, d3.1, u1.1, eB0]
    rfl
  -- all that comes behind it
  have fin : ∀ T : ms, T.2.2 = (FTm B2 st n').2.2 → (∀ (c : Nat) (k : Int), ¬ (419 ≤ c ∧ c ≤ 424) → ¬ (c = 367 ∧ k = 88) → T.1 c k = (FTm B2 st n').1 c k) → FQ T ∧ TbK T ∧ T.2.2 = (wR AF 367 13 368).2.2 ∧ ∀ (c : Nat) (k : Int), ¬ X19 si c k → ¬ (419 ≤ c ∧ c ≤ 424) → ¬ (c = 367 ∧ k = 88) → T.1 c k = S.1 c k := by
    intro T h1 h2
    refine ⟨⟨?_, ?_, ?_⟩, ?_, by rw [h1, e322], fun c k n n1 n2 => ?_⟩
    · rw [h2 367 79 (by omega) (by omega), h2 0 16 (by omega) (by omega), at3 0 16 (Or.inl (by omega)) (by unfold xSi; omega) (by unfold XBm XCm XTb; omega), q3, qF, if_neg (by omega), if_neg (by omega), if_pos ⟨rfl, rfl⟩, if_neg (by omega), if_neg (by omega), if_pos ⟨rfl, rfl⟩]
    · rw [h2 367 80 (by omega) (by omega), h2 0 17 (by omega) (by omega), at3 0 17 (Or.inl (by omega)) (by unfold xSi; omega) (by unfold XBm XCm XTb; omega), q3, qF, if_neg (by omega), if_pos ⟨rfl, rfl⟩, if_neg (by omega), if_pos ⟨rfl, rfl⟩]
    · rw [h2 367 81 (by omega) (by omega), h2 0 18 (by omega) (by omega), at3 0 18 (Or.inl (by omega)) (by unfold xSi; omega) (by unfold XBm XCm XTb; omega), q3, qF, if_pos ⟨rfl, rfl⟩, if_pos ⟨rfl, rfl⟩]
    · have e2 : ∀ (c : Nat) (k : Int), ((391 ≤ c ∧ c ≤ 394) ∨ (c = 367 ∧ k = 45)) → T.1 c k = S2.1 c k := fun c k y => by
        rw [h2 c k (by omega) (by omega), q3, if_neg (by omega), if_neg (by omega), if_neg (by omega), d4.2.2.2 c k (by omega) (by omega)]
      unfold TbK TbM at d5 ⊢
      rw [e2 392 28 (by omega), e2 367 45 (by omega)]
      refine ⟨d5.1, d5.2.imp id (fun y => ⟨y.1, fun s h1 h2 => ?_, fun s h1 h2 => ?_⟩)⟩
      · rw [e2 391 s (by omega), e2 392 s (by omega)]; exact y.2.1 s h1 h2
      · rw [e2 393 s (by omega), e2 394 s (by omega)]; exact y.2.2 s h1 h2
    · have y1 : ¬ xSh si c k := fun y => n (Or.inl y)
      have y2 : ¬ XCc c k := fun y => n (Or.inr (Or.inl y))
      have y3 : c ≠ 7 := fun y => n (Or.inr (Or.inr (Or.inl y)))
      have y4 : c ≠ 8 := fun y => n (Or.inr (Or.inr (Or.inr (Or.inl y))))
      have y5 : ¬ XOp c k := fun y => n (Or.inr (Or.inr (Or.inr (Or.inr (Or.inl y)))))
      have y6 : ¬ xSi c k := fun y => n (Or.inr (Or.inr (Or.inr (Or.inr (Or.inr (Or.inl y))))))
      have y7 : ¬ XBm c k := fun y => n (Or.inr (Or.inr (Or.inr (Or.inr (Or.inr (Or.inr y))))))
      rw [h2 c k n1 n2, at3 c k (Or.inr y5) y6 y7]
      unfold XOp at y5
      exact atF c k y1 y2 y3 y4 (by omega) (by omega)
  by_cases c : st.1 = 0
  · -- it is read
    rw [if_pos c] at kph eAF2
    obtain ⟨V0, eV0⟩ : ∃ V0, V0 = wI (FTm B2 st n') 367 88 n' := ⟨_, rfl⟩
    obtain ⟨V1, v1, -, v3, v4⟩ := md_rd86 (q := q) (n' := n') (x1 := a) (x2 := -10 - st.1) hn n' 0 V0 (by omega) (by rw [eV0, wI_at])
    obtain ⟨V2, o1, -, o3, o4⟩ := md_rd150 (q := q) (x1 := a) (x2 := -10 - st.1) 1600 0 V1 (by omega)
    obtain ⟨V3, p1, -, p3, p4⟩ := md_rd177 (q := q) (x1 := a) (x2 := -10 - st.1) 96000 0 V2 (by omega)
    have e88 : V2.1 367 88 = n' := by rw [o1.2 _ _ (by omega), v1.2 _ _ (by omega), eV0, wI_at]
    have e88' : V3.1 367 88 = n' := by rw [p1.2 _ _ (by omega), e88]
    rw [e88] at p4
    obtain ⟨f1, f2, f3, f4⟩ := fin V3 (by rw [p1.1, o1.1, v1.1, eV0]; rfl) (fun c k n1 n2 => by rw [p1.2 c k (by omega), o1.2 c k (by omega), v1.2 c k (by omega), eV0, wI_no _ n2])
    -- behind the copies
    have s2 : ∀ (c : Nat) (k : Int), (425 ≤ c ∧ c ≤ 430) → V0.1 c k = S2.1 c k := fun c k y => by
      rw [eV0, wI_no _ (by omega), q3, if_neg (by omega), if_neg (by omega), if_neg (by omega), d4.2.2.2 c k (by omega) (by omega)]
    have sC : ∀ (c : Nat) (k : Int), xSh si c k → V3.1 c k = S1.1 c k := fun c k y => by
      unfold xSh at y
      rw [p1.2 c k (by omega), o1.2 c k (by omega), v1.2 c k (by omega), eV0, wI_no _ (by omega), at3 c k (Or.inr (by unfold XOp; omega)) (by unfold xSi; omega) (by unfold XBm XCm XTb; omega), qF, if_neg (by omega), if_neg (by omega), if_neg (by omega), k2.2.2.2 c k (by omega) (by omega) (by omega)]
    have b88 : ∀ y : Int, b8 (b8 y) = b8 y := fun y => by unfold b8; omega
    have hRE : RE V3 si := by
      refine ⟨?_, hs, ?_, ?_, fun e he => ?_⟩
      · rw [f3]
        show (if 0 = 367 ∧ (13 : Int) = 13 then 368 else AF.2.2 0 13) = si
        rw [if_neg (by decide), eAF2]
        show (if 0 = 0 ∧ (13 : Int) = 14 then sh else if 0 = 0 ∧ (13 : Int) = 13 then si else (wR S 9 1 7).2.2 0 13) = si
        rw [if_neg (by decide), if_pos ⟨rfl, rfl⟩]
      · rw [sC si 4 (by unfold xSh; omega), k3.1]; omega
      · rw [e88', sC si 4 (by unfold xSh; omega), k3.1]
      · rw [sC si 4 (by unfold xSh; omega), k3.1] at he
        obtain ⟨⟨g1, g2⟩, ⟨g3, g4⟩, g5, g6⟩ := k3.2 e (by omega)
        obtain ⟨⟨h1, h2⟩, ⟨h3, h4⟩, h5, h6⟩ := d6.2 e (by omega)
        obtain ⟨⟨l1, l2⟩, l3, l4, -⟩ := hE e (by omega)
        obtain ⟨w1, w2, w3, w4⟩ := v3 e (by omega) he
        have z1 : ∀ c : Nat, (c = 420 ∨ c = 421 ∨ c = 422 ∨ c = 424) → V3.1 c e = V1.1 c e := fun c hc => by rw [p1.2 c _ (by omega), o1.2 c _ (by omega)]
        rw [sC (si + 11 + 4 * e) 1 (by unfold xSh; omega), sC (si + 13 + 4 * e) 1 (by unfold xSh; omega), sC (si + 3) e (by unfold xSh; omega), sC (si + 4) e (by unfold xSh; omega), z1 420 (by omega), z1 421 (by omega), z1 422 (by omega), z1 424 (by omega), w1, w2, w3, w4, s2 426 _ (by omega), s2 427 _ (by omega), s2 428 _ (by omega), s2 430 _ (by omega), g1, g3, g4, g5, h1, h3, h4, h5]
        refine ⟨⟨l1, rfl, fun k k0 k1 => ?_⟩, ⟨rfl, rfl⟩, l3, rfl, fun k k0 k1 => ?_⟩
        · rw [sC (si + 11 + 4 * e + 1) k (by unfold xSh; omega), g2 k k0 k1, p1.2 419 _ (by omega), o3 _ (by omega) (by omega), v1.2 425 _ (by omega), s2 425 _ (by omega), h2 k k0 k1, b88]
          exact ⟨l2 k k0 k1, rfl⟩
        · rw [sC (si + 13 + 4 * e + 1) k (by unfold xSh; omega), g6 k k0 k1, p3 _ (by omega) (by omega), o1.2 429 _ (by omega), v1.2 429 _ (by omega), s2 429 _ (by omega), h6 k k0 k1, b88]
          exact ⟨l4 k k0 k1, rfl⟩
    have hRM : RM V3 si := fun e he => by
      rw [sC si 4 (by unfold xSh; omega), k3.1] at he
      obtain ⟨-, ⟨g3, g4⟩, -, -⟩ := k3.2 e (by omega)
      obtain ⟨-, -, -, l5, l6⟩ := hE e (by omega)
      rw [sC (si + 3) e (by unfold xSh; omega), sC (si + 4) e (by unfold xSh; omega), g3, g4]
      exact ⟨l5, l6⟩
    have k58 : EV q 392 58 [some (.ref 367), some (vI a), none, none] [] B2 (some (vI n')) V3 := by
      refine vc_MD_read_58 _ ⟨_, FTm B2 st n', by rw [e95]; exact kfm, ?_⟩
      rw [e19, wr, e95']
      refine cY (by omega) (fun S4 f4 => ?_)
      rw [← eV0] at f4
      subst f4
      exact v4 _ _ (o4 _ _ p4)
    refine ⟨n', AF, n', V3, kph, vc_MD_read _ (fun U1 e => ?_), rfl, Or.inr ⟨f1, f2, Or.inr ⟨⟨?_, fun c k n => f4 c k (fun y => n (Or.inl y)) (fun y => n (Or.inr (Or.inl y))) (fun y => n (Or.inr (Or.inr y)))⟩, hRE, hRM⟩⟩⟩
    · rw [← eB0] at e
      subst e
      refine ⟨1, _, kin _, cY (by decide) ⟨B1, d1, fun S7 f7 => ?_⟩⟩
      rw [← eB1] at f7
      subst f7
      exact d7 _ _ k58
    · rw [f3]
      show (fun b k => if b = 367 ∧ k = 13 then 368 else AF.2.2 b k) = _
      rw [eAF2]
      rfl
  · rw [if_neg c] at kph eAF2
    obtain ⟨f1, f2, f3, f4⟩ := fin (FTm B2 st n') rfl (fun _ _ _ _ => rfl)
    have k58 : EV q 392 58 [some (.ref 367), some (vI a), none, none] [] B2 (some (vI (-10 - st.1))) (FTm B2 st n') := by
      refine vc_MD_read_58 _ ⟨_, FTm B2 st n', by rw [e95]; exact kfm, ?_⟩
      rw [e19, wr]
      exact cNo (by have := hr.1; omega) ⟨rfl, rfl⟩
    have f5 : ∀ (c : Nat) (k : Int), ¬ X19 si c k → (FTm B2 st n').1 c k = S.1 c k := fun c k n => by
      by_cases y : (419 ≤ c ∧ c ≤ 424) ∨ (c = 367 ∧ k = 88)
      · rw [at3 c k (Or.inr (by unfold XOp; omega)) (by unfold xSi; omega) (by unfold XBm XCm XTb; omega)]
        exact atF c k (by unfold xSh; omega) (by unfold XCc; omega) (by omega) (by omega) (by omega) (by omega)
      · exact f4 c k n (fun z => y (Or.inl z)) (fun z => y (Or.inr z))
    refine ⟨-10 - st.1, AF, -10 - st.1, FTm B2 st n', kph, vc_MD_read _ (fun U1 e => ?_), rfl, Or.inr ⟨f1, f2, Or.inl ⟨?_, f5⟩⟩⟩
    · rw [← eB0] at e
      subst e
      refine ⟨1, _, kin _, cY (by decide) ⟨B1, d1, fun S7 f7 => ?_⟩⟩
      rw [← eB1] at f7
      subst f7
      exact d7 _ _ k58
    · rw [f3]
      show (fun b k => if b = 367 ∧ k = 13 then 368 else AF.2.2 b k) = _
      rw [eAF2]
      rfl
end ReaQ
