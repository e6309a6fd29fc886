/-! open: how any opening ends, wherever the bits stand -/
section Open1
variable {q : Nat × (Nat → Int32)} {S A B SA SB : ms} {f x en a b d u u' : Int} {t : Int → Int} {st : Rd}
theorem sp_faultF {o : Nat} (n : Int) (h : CB S A o en t st u) : EV q 174 0 [some (.ref 0), some (vI n)] [] A none (FTc A st n) := by
  obtain ⟨-, ⟨-, a2, a3, -⟩, -⟩ := h
  refine vc_PH_tellFault _ (fun S1 f1 S2 f2 S3 f3 => ⟨rfl, ?_⟩)
  rw [a2] at f1
  have e : S1.1 9 6 = st.2.1 := by rw [f1, rI_I, if_neg (by decide), a3]
  rw [e] at f2
  subst f1 f2 f3
  rfl
theorem sp_setlF (f1 : 1 ≤ f) (f2 : f ≤ 12) (hr : rdR en st) (h : CB S A (sR f) en t st u) (ho : S.1 (sR f) 2 = 0) : (st.1 ≠ 0 → EV q 173 0 [some (.ref 0), some (vI f)] [] A (some (vI (-10 - st.1))) (FTc A st st.2.2.2.1)) ∧ (st.1 = 0 → EV q 173 0 [some (.ref 0), some (vI f)] [] A (some (vI f)) (wI (FTc A st st.2.2.2.1) 4 f 1)) := by
  have rg := sR_rg f1 f2
  have wf : w32 f = f := w32_of (by omega)
  have wr : w32 st.1 = st.1 := w32_of (by have := hr.1; omega)
  obtain ⟨s1, s2⟩ := st_is f1 f2
  have kf := sp_faultF (q := q) st.2.2.2.1 h
  have a6 := h.2.2.1.1
  have q2 : ∀ (a : Nat) (k : Int), (FTc A st st.2.2.2.1).1 a k = if a = 0 ∧ k = 18 then st.2.2.2.1 else if a = 0 ∧ k = 17 then st.2.1 else if a = 0 ∧ k = 16 then st.1 else A.1 a k := fun _ _ => rfl
  have e16 : (FTc A st st.2.2.2.1).1 0 16 = st.1 := by rw [q2, if_neg (by decide), if_neg (by decide), if_pos ⟨rfl, rfl⟩]
  have eo : (FTc A st st.2.2.2.1).1 (sR f) 2 = 0 := by
    rw [q2, if_neg (by omega), if_neg (by omega), if_neg (by omega), h.2.2.2 _ _ (by omega) (by omega) (by omega), ho]
  constructor
  · intro c
    refine vc_PH_settleOpening _ ?_
    rw [wf]
    refine ⟨by omega, sR f, 12000, s1, s2, FTc A st st.2.2.2.1, by rw [a6]; exact kf, ?_⟩
    rw [e16, wr]
    exact ⟨fun _ => ⟨rfl, rfl⟩, fun n => absurd c n⟩
  · intro c
    refine vc_PH_settleOpening _ ?_
    rw [wf]
    refine ⟨by omega, sR f, 12000, s1, s2, FTc A st st.2.2.2.1, by rw [a6]; exact kf, ?_⟩
    rw [e16, wr]
    exact ⟨fun n => absurd c n, fun _ => ⟨f, _, ph_settle (q := q) f1 f2 eo, rfl, rfl⟩⟩
theorem md_faultF (n : Int) (hr : rdR en st) (h : MB S B en st u) : EV q 368 0 [some (.ref 367), some (vI n)] [] B (some (vI (-10 - st.1))) (FTm B st n) := by
  obtain ⟨-, ⟨-, -, a2, a3, -⟩, -⟩ := h
  have wr : w32 st.1 = st.1 := w32_of (by have := hr.1; omega)
  refine vc_MD_tellFault _ (fun S1 f1 => ?_)
  rw [a2] at f1
  have e19 : S1.1 367 19 = st.1 := by rw [f1, rI_I, if_neg (by decide), a2]
  have e20 : S1.1 367 20 = st.2.1 := by rw [f1, rI_I, if_neg (by decide), a3]
  have fin : ∀ y0 : Int, y0 = st.2.1 → EV q 368 24 [some (.ref 367), some (vI n)] [vI y0, .ref 367] S1 (some (vI (-10 - st.1))) (FTm B st n) := by
    intro y0 ey
    refine vc_MD_tellFault_24 _ _ (fun S2 f2 S3 f3 => ⟨?_, ?_⟩)
    · have e : S3.1 367 19 = st.1 := by rw [f3, rI_I, if_neg (by decide), f2, rI_I, if_neg (by decide), e19]
      rw [e]
    · rw [ey] at f2
      subst f1 f2 f3
      rfl
  rw [e19, wr, e20]
  exact ⟨fun _ => fin _ rfl, fun c => fin 0 (hr.2.2.2.2 (Classical.not_not.mp c)).symm⟩
theorem op_endCF (f1 : 1 ≤ f) (hf : f ≤ 12) (hr : rdR x st) (hA : CB SA A (sR f) x t st u) (hz : SA.1 (sR f) 2 = 0) : EV q 173 0 [some (.ref 0), some (vI f)] [] A (some (vI (if st.1 = 0 then f else -10 - st.1))) (CEn A st f) := by
  have setl := sp_setlF (q := q) f1 hf hr hA hz
  unfold CEn
  by_cases c : st.1 = 0
  · rw [if_pos c, if_pos c]
    exact setl.2 c
  · rw [if_neg c, if_neg c]
    exact setl.1 c
theorem op_endF {X : Nat → Int → Prop} (hX : ∀ a k, XOp a k → X a k) (hX2 : ∀ a k, X a k → a ≠ 4 ∧ (a < 343 ∨ 366 < a) ∧ a ≠ 369 ∧ a ≠ 370 ∧ a ≠ 371) (hS : RS S) (hF : FR S f) (hf : f ≤ 12) (hr : rdR x st) (hA : CB SA A (sR f) x t st u) (eA : SA.2 = (wR S 9 1 (sR f)).2 ∧ ∀ (a : Nat) (k : Int), ¬ X a k → a ≠ sR f → SA.1 a k = S.1 a k) (hB : MB SB B x st u') (eB : SB.2 = (wR (CEn A st f) 367 13 368).2 ∧ ∀ (a : Nat) (k : Int), (a < 367 ∨ ¬ X a k) → SB.1 a k = (CEn A st f).1 a k) : EV q 368 0 [some (.ref 367), some (vI st.2.2.2.1)] [] B (some (vI (-10 - st.1))) (FTm B st st.2.2.2.1) ∧ ∃ T, (st.1 = 0 → EV q 328 0 [some (.ref 367), some (.ref 375), some (vI 0), some (vI st.2.2.2.1), none, none] [] (FTm B st st.2.2.2.1) (some (vI f)) T) ∧ (st.1 ≠ 0 → T = FTm B st st.2.2.2.1) ∧ OQ X S T ∧ ∀ (a : Nat) (k : Int), (375 < a ∨ (a = 367 ∧ k = 45)) → T.1 a k = SB.1 a k := by
  obtain ⟨f1, f2, f3⟩ := id hF
  have rg := sR_rg f1.1 hf
  have nX : ∀ (a : Nat) (k : Int), ¬ X a k → ¬ XOp a k := fun a k n y => n (hX a k y)
  have sX : ∀ k, ¬ X (sR f) k := fun k y => by have := hX2 _ _ y; omega
  have sX1 : ∀ k, ¬ X (sR f + 1) k := fun k y => by have := hX2 _ _ y; omega
  refine ⟨md_faultF _ hr hB, ?_⟩
  have q2 : ∀ (a : Nat) (k : Int), (FTm B st st.2.2.2.1).1 a k = if a = 367 ∧ k = 81 then st.2.2.2.1 else if a = 367 ∧ k = 80 then st.2.1 else if a = 367 ∧ k = 79 then st.1 else B.1 a k := fun _ _ => rfl
  have c0 : ∀ (a : Nat) (k : Int), a < 367 → (FTm B st st.2.2.2.1).1 a k = (CEn A st f).1 a k := by
    intro a k n
    rw [q2, if_neg (by omega), if_neg (by omega), if_neg (by omega), hB.2.2.2 a k (by omega) (by omega), eB.2 a k (Or.inl n)]
  have c1 : ∀ (a : Nat) (k : Int), ¬ X a k → (FTm B st st.2.2.2.1).1 a k = (CEn A st f).1 a k := by
    intro a k n
    have n2 := nX a k n
    unfold XOp at n2
    rw [q2, if_neg (by omega), if_neg (by omega), if_neg (by omega), hB.2.2.2 a k (by omega) (by omega), eB.2 a k (Or.inr n)]
  have c2 : ∀ (a : Nat) (k : Int), ¬ X a k → a ≠ sR f → a ≠ sR f + 1 → ¬ (a = 4 ∧ k = f) → (FTm B st st.2.2.2.1).1 a k = S.1 a k := by
    intro a k n n1 n2 n3
    have n4 := nX a k n
    unfold XOp at n4
    rw [c1 a k n, CEn_1 a k (by omega) n3, hA.2.2.2 a k (by omega) (by omega) (by omega), eA.2 a k n n1]
  have e2 : (FTm B st st.2.2.2.1).2 = (wR (wR S 9 1 (sR f)) 367 13 368).2 := by
    have y : (CEn A st f).2 = (wR S 9 1 (sR f)).2 := by rw [CEn_2, hA.1, eA.1]
    have w1 : (wR (CEn A st f) 367 13 368).2 = (wR (wR S 9 1 (sR f)) 367 13 368).2 := by
      show ((CEn A st f).2.1, fun b k => if b = 367 ∧ k = 13 then 368 else (CEn A st f).2.2 b k) = _
      rw [y]
      rfl
    show B.2 = _
    rw [hB.1, eB.1, w1]
  have e4 : ∀ k : Int, 1 ≤ k → k ≤ 12 → (FTm B st st.2.2.2.1).1 371 k = S.1 4 k := fun k k1 k2 => by
    rw [c2 371 k (fun y => (hX2 _ _ y).2.2.2.2 rfl) (by omega) (by omega) (by omega)]
    exact (hS k k1 k2).2.1
  obtain ⟨g0, g1, g2⟩ := CEn_f (A := A) (st := st) (f := f)
  have fq : FQ (FTm B st st.2.2.2.1) := ⟨by rw [c0 0 16 (by decide), g0, q2, if_neg (by decide), if_neg (by decide), if_pos ⟨rfl, rfl⟩], by rw [c0 0 17 (by decide), g1, q2, if_neg (by decide), if_pos ⟨rfl, rfl⟩], by rw [c0 0 18 (by decide), g2, q2, if_pos ⟨rfl, rfl⟩]⟩
  by_cases c : st.1 = 0
  · obtain ⟨F, hFT⟩ : ∃ F, F = FTm B st st.2.2.2.1 := ⟨_, rfl⟩
    have hB375 : ∀ k : Int, 0 ≤ k → k < st.2.2.2.1 → F.1 375 k = b8 (st.2.2.2.2 k) := fun k k0 k1 => by
      rw [hFT, q2, if_neg (by omega), if_neg (by omega), if_neg (by omega)]
      exact hB.2.2.1.2 k k0 (by omega)
    have cx : ∀ (a : Nat) (k : Int), (375 < a ∨ (a = 367 ∧ k = 45)) → F.1 a k = SB.1 a k := fun a k y => by
      rw [hFT, q2, if_neg (by omega), if_neg (by omega), if_neg (by omega), hB.2.2.2 a k (by omega) (by omega)]
    rw [← hFT]
    rw [← hFT] at c0 c1 c2 e2 e4 fq
    have n12 := hr.2.2.1
    have hr4 := hr.2.2.2.1
    have h61 := hA.2.2.1.1
    have h62 := hA.2.2.1.2
    generalize st.2.2.2.1 = n at n12 hr4 h61 h62 hB375 ⊢
    generalize st.2.2.2.2 = g at hr4 h62 hB375 ⊢
    have new := md_new (q := q) (T := F) (c := 375) (n1 := 12000) (fr := 0) (n := n) hF hf e4 rfl (by decide) (by decide) (by decide) (by omega) (by omega) (by omega)
    obtain ⟨T, eT⟩ : ∃ T, T = wC (wI (wI F 371 f 1) 370 f n) 369 (12000 * f) n (fun k => b8 ((wI (wI F 371 f 1) 370 f n).1 375 (0 + k))) := ⟨_, rfl⟩
    rw [← eT] at new
    have key : ∀ (a : Nat) (k : Int), T.1 a k = if a = 369 ∧ 12000 * f ≤ k ∧ k < 12000 * f + n then b8 ((wI (wI F 371 f 1) 370 f n).1 375 (0 + (k - 12000 * f))) else if a = 370 ∧ k = f then n else if a = 371 ∧ k = f then 1 else F.1 a k := fun _ _ => by rw [eT]; rfl
    have eT2 : T.2 = (wR (wR S 9 1 (sR f)) 367 13 368).2 := by rw [eT]; exact e2
    refine ⟨T, fun _ => new, fun y => absurd c y, ⟨f, ⟨hF, hf⟩, ⟨?_, ?_, ?_⟩, Or.inr ⟨n, g, ⟨⟨f1.1, hf⟩, by omega, hr4⟩, eT2, ⟨?_, ?_, fun k k0 kn => ?_⟩, ⟨?_, ?_, fun k k0 kn => ?_⟩, fun a k hn' e1 e2' e3 e4' e5 e6 => ?_⟩⟩, fun a k y => ?_⟩
    · rw [key, if_neg (by omega), if_neg (by omega), if_neg (by omega), key, if_neg (by omega), if_neg (by omega), if_neg (by omega)]
      exact fq.1
    · rw [key, if_neg (by omega), if_neg (by omega), if_neg (by omega), key, if_neg (by omega), if_neg (by omega), if_neg (by omega)]
      exact fq.2.1
    · rw [key, if_neg (by omega), if_neg (by omega), if_neg (by omega), key, if_neg (by omega), if_neg (by omega), if_neg (by omega)]
      exact fq.2.2
    · rw [key, if_neg (by omega), if_neg (by omega), if_neg (by omega), c0 4 f (by decide)]
      unfold CEn
      rw [if_pos c, rI_I, if_pos ⟨rfl, rfl⟩]
    · rw [key, if_neg (by omega), if_neg (by omega), if_neg (by omega), c1 _ _ (sX 1), CEn_1 _ _ (by omega) (by omega), h61]
    · rw [key, if_neg (by omega), if_neg (by omega), if_neg (by omega), c1 _ _ (sX1 k), CEn_1 _ _ (by omega) (by omega)]
      exact h62 k k0 kn
    · rw [key, if_neg (by omega), if_neg (by omega), if_pos ⟨rfl, rfl⟩]
    · rw [key, if_neg (by omega), if_pos ⟨rfl, rfl⟩]
    · rw [key, if_pos ⟨rfl, by omega, by omega⟩, show 0 + (12000 * f + k - 12000 * f) = k by omega, rI_I, if_neg (by omega), rI_I, if_neg (by omega), hB375 k k0 kn, b8_of (b8_rg _)]
    · rw [key, if_neg (fun z => e6 ⟨z.1, z.2.1, by omega⟩), if_neg e5, if_neg e4', c2 a k hn' e1 e2' e3]
      rfl
    · rw [key, if_neg (by omega), if_neg (by omega), if_neg (by omega), cx a k y]
  · refine ⟨_, fun y => absurd y c, fun _ => rfl, ⟨f, ⟨hF, hf⟩, fq, Or.inl ⟨e2, fun a k n => ?_⟩⟩, fun a k y => by
      rw [q2, if_neg (by omega), if_neg (by omega), if_neg (by omega), hB.2.2.2 a k (by omega) (by omega)]⟩
    have n1 : ¬ X a k := fun y => n (Or.inl y)
    have n2 : a ≠ sR f := fun y => n (Or.inr (Or.inl y))
    have n3 : a ≠ sR f + 1 := fun y => n (Or.inr (Or.inr y))
    by_cases c4 : a = 4 ∧ k = f
    · obtain ⟨y1, y2⟩ := c4
      subst y1 y2
      rw [c0 4 k (by decide)]
      have z1 : (CEn A st k).1 4 k = A.1 4 k := by
        unfold CEn
        rw [if_neg c]
        show (if (4 : Nat) = 0 ∧ k = 18 then st.2.2.2.1 else if (4 : Nat) = 0 ∧ k = 17 then st.2.1 else if (4 : Nat) = 0 ∧ k = 16 then st.1 else A.1 4 k) = A.1 4 k
        rw [if_neg (by omega), if_neg (by omega), if_neg (by omega)]
      rw [z1, hA.2.2.2 4 k (by omega) (by omega) (by omega), eA.2 4 k n1 n2]
      rfl
    · rw [c2 a k n1 n2 n3 c4]
      rfl
/-- the longs aside -/
def NY (X : Nat → Int → Prop) (S T : ms) (f n : Int) (g : Int → Int) : Prop := ((1 ≤ f ∧ f ≤ 12) ∧ (0 ≤ n ∧ n ≤ 12000) ∧ ∀ k : Int, 0 ≤ k → k < n → 0 ≤ g k ∧ g k < 256) ∧ T.2.2 = S.2.2 ∧ (T.1 4 f = 1 ∧ T.1 (sR f) 1 = n ∧ ∀ k : Int, 0 ≤ k → k < n → T.1 (sR f + 1) k = g k) ∧ (T.1 371 f = 1 ∧ T.1 370 f = n ∧ ∀ k : Int, 0 ≤ k → k < n → T.1 369 (12000 * f + k) = b8 (g k)) ∧ ∀ (a : Nat) (k : Int), ¬ X a k → a ≠ sR f → a ≠ sR f + 1 → ¬ (a = 4 ∧ k = f) → ¬ (a = 371 ∧ k = f) → ¬ (a = 370 ∧ k = f) → ¬ (a = 369 ∧ 12000 * f ≤ k ∧ k < 12000 * f + 12000) → T.1 a k = S.1 a k
theorem NW_NY {X : Nat → Int → Prop} {S T : ms} {f n : Int} {g : Int → Int} (h : NW X S T f n g) : NY X S T f n g := ⟨h.1, by rw [h.2.1], h.2.2⟩
def OY (X : Nat → Int → Prop) (S T : ms) : Prop := ∃ f : Int, (FR S f ∧ f ≤ 12) ∧ FQ T ∧ (EY (fun a k => X a k ∨ a = sR f ∨ a = sR f + 1) (wR (wR S 9 1 (sR f)) 367 13 368) T ∨ ∃ (n : Int) (g : Int → Int), NY X (wR (wR S 9 1 (sR f)) 367 13 368) T f n g)
theorem OQ_OY {X : Nat → Int → Prop} {S S' T : ms} (e1 : S'.1 = S.1) (e2 : S'.2.2 = S.2.2) (h : OQ X S' T) : OY X S T := by
  obtain ⟨s1, s2, s3⟩ := S
  obtain ⟨r1, r2, r3⟩ := S'
  subst e1 e2
  obtain ⟨f, h1, h2, h3⟩ := h
  refine ⟨f, h1, h2, ?_⟩
  rcases h3 with h3 | ⟨n, g, h3⟩
  · exact Or.inl ⟨h3.ey.1, h3.ey.2⟩
  · have := NW_NY h3
    exact Or.inr ⟨n, g, this.1, this.2.1, this.2.2⟩
end Open1
