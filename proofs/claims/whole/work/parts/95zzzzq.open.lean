/-! open -/
section Open3
variable {q : Nat × (Nat → Int32)} {S : ms} {a b d x : Int} {o : Nat}
def BgH (S : ms) (o : Nat) (x hi : Int) : ms := wI (wI (wI (CL (wR S 9 1 o) o) 9 2 x) 9 7 hi) 9 8 0
theorem BgH_at {hi : Int} (a : Nat) (k : Int) : (BgH S o x hi).1 a k = if a = 9 ∧ k = 8 then 0 else if a = 9 ∧ k = 7 then hi else if a = 9 ∧ k = 2 then x else (CL S o).1 a k := rfl
theorem BgH_o {hi : Int} : (BgH S o x hi).2.2 9 1 = o := by
  show (if 9 = 9 ∧ (1 : Int) = 1 then o else S.2.2 9 1) = o
  rw [if_pos ⟨rfl, rfl⟩]
theorem sp_beginH {hi : Int} (hhi : hi = 0 ∨ hi = 1) (ho : isRow o 12000) (h3 : (300 < o ∨ o = 7)) (hx : 0 ≤ x ∧ x ≤ 6000) : ∃ A, EV q 115 0 [some (.ref 9), some (vI x), some (.ref o), some (vI hi)] [] S none A ∧ CR (BgH S o x hi) A o x st0 := by
  have wx : w32 x = x := w32_of (by omega)
  have mx : min (w32 x) (w32 ((6000 : Nat) : Int)) = x := by
    rw [wx, show w32 ((6000 : Nat) : Int) = 6000 by decide]
    omega
  have cl := sp_clear (q := q) (S := wR S 9 1 o) ho
  let A := wI (wI (wI (wI (wI (wI (wI (CL (wR S 9 1 o) o) 9 2 x) 9 3 0) 9 4 0) 9 5 0) 9 6 0) 9 7 hi) 9 8 0
  have q2 : ∀ (a : Nat) (k : Int), A.1 a k = if a = 9 ∧ k = 8 then 0 else if a = 9 ∧ k = 7 then hi else if a = 9 ∧ k = 6 then 0 else if a = 9 ∧ k = 5 then 0 else if a = 9 ∧ k = 4 then 0 else if a = 9 ∧ k = 3 then 0 else if a = 9 ∧ k = 2 then x else (CL S o).1 a k := fun _ _ => rfl
  refine ⟨A, vc_Source_begin _ _ o 12000 ho (fun S1 f1 => ?_), rfl, ⟨?_, ?_, ?_, ?_, ?_⟩, ⟨?_, fun k k0 k1 => absurd (show k < (0 : Int) from k1) (by omega)⟩, fun a k n1 n2 n3 => ?_⟩
  · subst f1
    refine ⟨o, 12000, ?_, ho, _, cl, fun S7 f7 S8 f8 S9 f9 S10 f10 S11 f11 => ⟨hhi, fun S13 f13 S14 f14 => ⟨rfl, ?_⟩⟩⟩
    · show (if 9 = 9 ∧ (1 : Int) = 1 then o else S.2.2 9 1) = o
      rw [if_pos ⟨rfl, rfl⟩]
    · rw [mx] at f7
      subst f7 f8 f9 f10 f11 f13 f14
      rfl
  · exact fun _ => by rw [q2, if_neg (by decide), if_neg (by decide), if_neg (by decide), if_neg (by decide), if_neg (by decide), if_neg (by decide), if_pos ⟨rfl, rfl⟩]
  · rw [q2, if_neg (by decide), if_neg (by decide), if_neg (by decide), if_pos ⟨rfl, rfl⟩]
    rfl
  · rw [q2, if_neg (by decide), if_neg (by decide), if_pos ⟨rfl, rfl⟩]
    rfl
  · exact fun _ => by rw [q2, if_neg (by decide), if_neg (by decide), if_neg (by decide), if_neg (by decide), if_neg (by decide), if_pos ⟨rfl, rfl⟩]; rfl
  · exact fun _ => ⟨by rw [q2, if_neg (by decide), if_neg (by decide), if_neg (by decide), if_neg (by decide), if_pos ⟨rfl, rfl⟩]; rfl, by rw [q2, if_pos ⟨rfl, rfl⟩]; rfl, fun y => absurd y (by decide)⟩
  · rw [q2, if_neg (by omega), if_neg (by omega), if_neg (by omega), if_neg (by omega), if_neg (by omega), if_neg (by omega), if_neg (by omega), CL_1]
    rfl
  · rw [q2, BgH_at]
    by_cases y7 : a = 9 ∧ k = 7
    · rw [if_neg (show ¬ (a = 9 ∧ k = 8) by omega), if_neg (show ¬ (a = 9 ∧ k = 8) by omega), if_pos y7, if_pos y7]
    · rw [if_neg (show ¬ (a = 9 ∧ k = 8) by omega), if_neg (show ¬ (a = 9 ∧ k = 8) by omega), if_neg y7, if_neg y7, if_neg (show ¬ (a = 9 ∧ k = 6) by omega), if_neg (show ¬ (a = 9 ∧ k = 5) by omega), if_neg (show ¬ (a = 9 ∧ k = 4) by omega), if_neg (show ¬ (a = 9 ∧ k = 3) by omega), if_neg (show ¬ (a = 9 ∧ k = 2) by omega)]
def X12 (a : Nat) (k : Int) : Prop := XOp a k ∨ XKc a k ∨ XKm a k
theorem op12_ok (ha : -2147483648 ≤ a ∧ a < 2147483648) (hT : RT S) (hS : RS S) (hq : RQ S) (hK : TbK S) (hc1 : CodC S 31 288 flF) (hc2 : CodC S 42 32 (fun _ => 5)) : op_12 q a b d S (fun T => T = wI S 367 0 0 ∨ (OY X12 S T ∧ TbK T)) := by
  have ea : w32 a = a := w32_of ha
  have w1 : w32 1 = 1 := by decide
  have w10 : w32 10 = 10 := by decide
  by_cases ca : 1 ≤ a ∧ a ≤ 10
  case neg =>
    refine ⟨-2, S, -2, wI S 367 0 0, vc_PH_open _ ?_, vc_MD_open _ (fun S1 e => ?_), rfl, Or.inl rfl⟩
    · rw [ea]
      by_cases c : a < 1
      · exact cY c ⟨rfl, rfl⟩
      · exact cNo c (cNo (fun y => ca ⟨by omega, y⟩) ⟨rfl, rfl⟩)
    · subst e
      refine ⟨0, _, vc_MD_in _ _ _ ?_, cNN (by decide) ⟨rfl, rfl⟩⟩
      rw [ea, w1, w10]
      by_cases c : a < 1
      · exact cY c ⟨rfl, rfl⟩
      · exact cNo c (cY (by
          have : ¬ a ≤ 10 := fun y => ca ⟨by omega, y⟩
          omega) ⟨rfl, rfl⟩)
  have kin : ∀ B : ms, EV q 257 0 [some (vI a), some (vI 1), some (vI 10)] [] B (some (vI 1)) B := fun B => vc_MD_in _ _ _ (by
    rw [ea, w1, w10]
    exact cNo (by omega) (cNo (by omega) ⟨rfl, rfl⟩))
  obtain ⟨f, hF⟩ := fr_ex hS
  have kfree := ph_free (q := q) hF
  by_cases cf : f ≤ 12
  case neg =>
    rw [if_neg cf] at kfree
    have kf2 := md_free (q := q) (T := wI S 367 0 0) hF (fun k k1 k2 => by rw [r0a _ _ (by decide)]; exact (hS k k1 k2).2.1)
    rw [if_neg cf] at kf2
    refine ⟨-4, S, -4, wI S 367 0 0, vc_PH_open _ ?_, vc_MD_open _ (fun S1 e => ?_), rfl, Or.inl rfl⟩
    · rw [ea]
      exact cNo (by omega) (cY ca.2 ⟨0, S, kfree, cNN (by decide) ⟨rfl, rfl⟩⟩)
    · subst e
      exact ⟨1, _, kin _, cY (by decide) ⟨-4, _, kf2, cNo (by decide) ⟨rfl, rfl⟩⟩⟩
  rw [if_pos cf] at kfree
  obtain ⟨f1, f2, f3⟩ := id hF
  have rg := sR_rg f1.1 cf
  obtain ⟨s1, s2⟩ := st_is f1.1 cf
  have wf : w32 f = f := w32_of (by omega)
  obtain ⟨t1, t2, t3⟩ := id hT
  obtain ⟨x, ex⟩ : ∃ x, x = S.1 1 1 := ⟨_, rfl⟩
  obtain ⟨t, et⟩ : ∃ t : Int → Int, ∀ k, t k = S.1 2 k := ⟨_, fun _ => rfl⟩
  rw [← ex] at t1 t2 t3
  have ht : ∀ k : Int, 0 ≤ k → k < x → 0 ≤ t k ∧ t k < 256 := fun k k0 k1 => by rw [et]; exact (t3 k k0 k1).1
  obtain ⟨hi, ehi⟩ : ∃ hi : Int, hi = if a = 9 then 1 else 0 := ⟨_, rfl⟩
  have hhi : hi = 0 ∨ hi = 1 := by rw [ehi]; split <;> omega
  obtain ⟨st, hr, hJc, hJm⟩ := jk_all (q := q) ca t1 ht
  rw [← ehi] at hJc
  -- the class
  obtain ⟨SA, eSA⟩ : ∃ SA, SA = BgH S (sR f) x hi := ⟨_, rfl⟩
  have atA : ∀ (c : Nat) (k : Int), ¬ (c = 9 ∧ 2 ≤ k ∧ k ≤ 8) → c ≠ sR f → SA.1 c k = S.1 c k := fun c k n1 n2 => by
    rw [eSA, BgH_at, if_neg (by omega), if_neg (by omega), if_neg (by omega), CL_n _ n2]
  have hC : RdC SA (sR f) x t := ⟨by rw [eSA]; exact BgH_o, s2, by omega, t1, fun k k0 k1 => ⟨ht k k0 k1, by rw [atA 2 k (by omega) (by omega), et]⟩⟩
  have exA : ∀ (b n : Nat) (l : Int → Int), CodC S b n l → CodC SA b n l := fun b n l h => ⟨h.1, h.2.1, h.2.2.1, by have := h.2.1; rw [atA b 5 (by omega) (by omega)]; exact h.2.2.2.1, fun k k1 k2 => by have := h.2.1; rw [atA (b + 5) k (by omega) (by omega)]; exact h.2.2.2.2.1 k k1 k2, fun s hs hl => by have := h.2.1; rw [atA (b + 4) _ (by omega) (by omega)]; exact h.2.2.2.2.2 s hs hl⟩
  obtain ⟨A0, c1, c2⟩ := sp_beginH (q := q) (S := S) (x := x) hhi s2 (by omega) t1
  rw [← eSA] at c2
  obtain ⟨S1, A, c3, c4, t', u, c5⟩ := hJc SA A0 (sR f) (by rw [eSA, BgH_at, if_neg (by omega), if_pos ⟨rfl, rfl⟩]) hC (exA _ _ _ hc1) (exA _ _ _ hc2) c2
  have atA1 : ∀ (c : Nat) (k : Int), ¬ (c = 9 ∧ 2 ≤ k ∧ k ≤ 8) → c ≠ sR f → ¬ XKc c k → S1.1 c k = S.1 c k := fun c k n1 n2 n3 => by rw [c3.2 c k n3, atA c k n1 n2]
  have sX : ∀ k : Int, ¬ XKc (sR f) k := fun k y => by unfold XKc at y; omega
  have hz : S1.1 (sR f) 2 = 0 := by
    rw [c3.2 _ _ (sX 2), eSA, BgH_at, if_neg (by omega), if_neg (by omega), if_neg (by omega), CL_at, if_neg (by omega), if_pos ⟨rfl, rfl⟩]
  -- the reference
  obtain ⟨B0, eB0⟩ : ∃ B0, B0 = wI (CEn A st f) 367 0 0 := ⟨_, rfl⟩
  have atE : ∀ (c : Nat) (k : Int), ¬ XOp c k → ¬ XKc c k → c ≠ sR f → c ≠ sR f + 1 → ¬ (c = 4 ∧ k = f) → (CEn A st f).1 c k = S.1 c k := fun c k n n0 n1 n2 n3 => by
    unfold XOp at n
    rw [CEn_1 _ _ (by omega) n3, c5.2.2.2 c k (by omega) (by omega) n2, atA1 c k (by omega) n1 n0]
  have atB : ∀ (c : Nat) (k : Int), ¬ XOp c k → ¬ XKc c k → c ≠ sR f → c ≠ sR f + 1 → ¬ (c = 4 ∧ k = f) → B0.1 c k = S.1 c k := fun c k n n0 n1 n2 n3 => by
    have n' := n
    unfold XOp at n'
    rw [eB0, rI_I, if_neg (by omega), atE c k n n0 n1 n2 n3]
  obtain ⟨SB, eSB⟩ : ∃ SB, SB = BgM B0 x := ⟨_, rfl⟩
  have atS : ∀ (c : Nat) (k : Int), ¬ (c = 367 ∧ 14 ≤ k ∧ k ≤ 18) → SB.1 c k = B0.1 c k := fun c k n => by
    rw [eSB, BgM_at, if_neg (by omega), if_neg (by omega), if_neg (by omega), if_neg (by omega)]
  -- cells of the reference, from 368 on
  have atR : ∀ (c : Nat) (k : Int), 367 < c → c ≠ 375 → SB.1 c k = S.1 c k := fun c k n n0 => by
    rw [atS c k (by omega), atB c k (by unfold XOp; omega) (by unfold XKc; omega) (by omega) (by omega) (by omega)]
  have hM : RdM SB x t := ⟨by rw [eSB]; exact BgM_r, t1, fun k k0 k1 => ⟨ht k k0 k1, by
    rw [atR _ _ (by omega) (by omega), et]
    exact oct_eq (t3 k k0 k1).1 (t3 k k0 k1).2⟩⟩
  have e45 : SB.1 367 45 = S.1 367 45 := by
    rw [atS _ _ (by omega), atB _ _ (by unfold XOp; omega) (by unfold XKc; omega) (by omega) (by omega) (by omega)]
  have hK2 : TbK SB := by
    unfold TbK TbM at hK ⊢
    rw [atR 392 28 (by omega) (by omega), e45]
    refine ⟨hK.1, hK.2.imp id (fun y => ⟨y.1, fun s h1 h2 => ?_, fun s h1 h2 => ?_⟩)⟩
    · rw [atR 391 s (by omega) (by omega), atR 392 s (by omega) (by omega)]; exact y.2.1 s h1 h2
    · rw [atR 393 s (by omega) (by omega), atR 394 s (by omega) (by omega)]; exact y.2.2 s h1 h2
  have hQ2 : RQ SB := ⟨fun s hs => by rw [atR _ _ (by omega) (by omega)]; exact hq.1 s hs, fun s hs => by rw [atR _ _ (by omega) (by omega)]; exact hq.2 s hs⟩
  have hSB0 : ∀ k : Int, 1 ≤ k → k ≤ 12 → B0.1 371 k = S.1 4 k := fun k k1 k2 => by
    rw [atB _ _ (by unfold XOp; omega) (by unfold XKc; omega) (by omega) (by omega) (by omega)]
    exact (hS k k1 k2).2.1
  have kf2 := md_free (q := q) (T := B0) hF hSB0
  rw [if_pos cf] at kf2
  obtain ⟨B1, d1, d2⟩ := md_start (q := q) (B := B0) (x := x) (by rw [atB _ _ (by unfold XOp; omega) (by unfold XKc; omega) (by omega) (by omega) (by omega), t2])
  rw [← eSB] at d2
  obtain ⟨S2, B2, d3, ⟨u', d4⟩, d5, d6⟩ := hJm SB B1 (by rw [eSB, BgM_at, if_neg (by omega), if_neg (by omega), if_neg (by omega), if_pos ⟨rfl, rfl⟩]) hK2 hQ2 hM d2
  -- the end: longs as the reference leaves them
  obtain ⟨L, eL⟩ : ∃ L, L = S2.2.1 := ⟨_, rfl⟩
  have cE : ∀ (c : Nat) (k : Int), (CEn ((A.1, L, A.2.2) : ms) st f).1 c k = (CEn A st f).1 c k := fun c k => by
    unfold CEn
    split <;> rfl
  have e22A : A.2.2 = (wR S 9 1 (sR f)).2.2 := by rw [c5.1, c3.1, eSA]; rfl
  obtain ⟨i1, T, i2, i3, i4, i5⟩ := op_endF (q := q) (X := X12) (S := (S.1, L, S.2.2)) (A := (A.1, L, A.2.2)) (B := B2) (SA := (S1.1, L, S1.2.2)) (SB := S2) (f := f) (x := x) (st := st) (t := t') (u := u) (u' := u') (fun _ _ y => Or.inl y) (fun c k y => by unfold X12 XOp XKc XKm at y; omega) hS hF cf hr ⟨by
      show (L, A.2.2) = (L, S1.2.2)
      rw [c5.1], c5.2⟩ ⟨by
      show (L, S1.2.2) = (L, (wR S 9 1 (sR f)).2.2)
      rw [← e22A, c5.1], fun c k n n1 => by
      have n2 : ¬ XKc c k := fun y => n (Or.inr (Or.inl y))
      have n3 : ¬ XOp c k := fun y => n (Or.inl y)
      unfold XOp at n3
      exact atA1 c k (by omega) n1 n2⟩ d4 ⟨by
      have y1 : (CEn ((A.1, L, A.2.2) : ms) st f).2 = (L, A.2.2) := CEn_2
      have y2 : S2.2.2 = (wR (CEn A st f) 367 13 368).2.2 := by rw [d3.1, eSB, eB0]; rfl
      have y3 : (CEn A st f).2.2 = A.2.2 := by rw [CEn_2]
      show S2.2 = ((CEn ((A.1, L, A.2.2) : ms) st f).2.1, fun b k => if b = 367 ∧ k = 13 then 368 else (CEn ((A.1, L, A.2.2) : ms) st f).2.2 b k)
      rw [y1]
      have y4 : S2.2 = (L, S2.2.2) := by rw [eL]
      rw [y4, y2]
      show (L, fun b k => if b = 367 ∧ k = 13 then 368 else (CEn A st f).2.2 b k) = _
      rw [y3], fun c k n => by
      have n2 : ¬ XKm c k := fun y => by
        rcases n with n | n
        · unfold XKm at y; omega
        · exact n (Or.inr (Or.inr y))
      have n3 : ¬ (c = 367 ∧ 14 ≤ k ∧ k ≤ 18) ∧ ¬ (c = 367 ∧ k = 0) := by
        rcases n with n | n
        · omega
        · have n4 : ¬ XOp c k := fun y => n (Or.inl y)
          unfold XOp at n4
          omega
      rw [d3.2 c k n2, atS c k n3.1, eB0, rI_I, if_neg n3.2, cE]⟩
  have hOY : OY X12 S T := OQ_OY (S' := (S.1, L, S.2.2)) rfl rfl i4
  have hTK : TbK T := by
    unfold TbK TbM at d5 ⊢
    rw [i5 392 28 (by omega), i5 367 45 (by omega)]
    refine ⟨d5.1, d5.2.imp id (fun y => ⟨y.1, fun s h1 h2 => ?_, fun s h1 h2 => ?_⟩)⟩
    · rw [i5 391 s (by omega), i5 392 s (by omega)]; exact y.2.1 s h1 h2
    · rw [i5 393 s (by omega), i5 394 s (by omega)]; exact y.2.2 s h1 h2
  have e22 : B2.1 367 22 = st.2.2.2.1 := d4.2.2.1.1
  have e22' : (FTm B2 st st.2.2.2.1).1 367 22 = st.2.2.2.1 := e22
  have e19 : (FTm B2 st st.2.2.2.1).1 367 19 = st.1 := d4.2.1.2.2.1
  have wr : w32 st.1 = st.1 := w32_of (by have := hr.1; omega)
  have k160 : EV q 329 160 [some (.ref 367), some (vI a), none] [] B2 (some (vI (if st.1 = 0 then f else -10 - st.1))) T := by
    refine vc_MD_open_160 _ ?_
    rw [e22]
    refine ⟨_, _, i1, ?_⟩
    rw [e19, wr, e22']
    by_cases c : st.1 = 0
    · rw [if_pos c]
      exact cY (by omega) ⟨_, T, i2 c, rfl, rfl⟩
    · rw [if_neg c]
      exact cNo (by have := hr.1; omega) ⟨rfl, i3 c⟩
  refine ⟨if st.1 = 0 then f else -10 - st.1, CEn A st f, if st.1 = 0 then f else -10 - st.1, T, vc_PH_open _ ?_, vc_MD_open _ (fun S1 e => ?_), rfl, Or.inr ⟨hOY, hTK⟩⟩
  · have k54 : EV q 114 54 [some (.ref 0), some (vI a), some (vI f)] [vI hi, .ref (sR f), vI (S.1 1 1), .ref 9] S (some (vI (if st.1 = 0 then f else -10 - st.1))) (CEn A st f) := by
      rw [← ex]
      exact vc_PH_open_54 _ _ _ _ _ _ s2 ⟨A0, c1, A, c4, _, _, op_endCF f1.1 cf hr c5 hz, rfl, rfl⟩
    rw [ea]
    refine cNo (by omega) (cY ca.2 ⟨f, S, kfree, ?_⟩)
    rw [wf]
    refine cY (by omega) ⟨by omega, sR f, 12000, s1, s2, ?_⟩
    by_cases c : a = 9
    · rw [ehi, if_pos c] at k54; exact cNN c k54
    · rw [ehi, if_neg c] at k54; exact cY c k54
  · rw [← eB0] at e
    subst e
    refine ⟨1, _, kin _, cY (by decide) ⟨f, _, kf2, ?_⟩⟩
    rw [wf]
    exact cY (by omega) ⟨B1, d1, d6 _ _ k160⟩
end Open3
