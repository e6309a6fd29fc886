/-! apply: how an opening ends, on both sides -/
section Apply3
variable {q : Nat × (Nat → Int32)} {S A B SA SB : ms} {f x a b d : Int} {st : Rd}
/-- what is told of the last opening is alike -/
def FQ (T : ms) : Prop := T.1 367 79 = T.1 0 16 ∧ T.1 367 80 = T.1 0 17 ∧ T.1 367 81 = T.1 0 18
/-- the cells that every opening writes -/
def XOp (a : Nat) (k : Int) : Prop := a = 9 ∨ (a = 0 ∧ 16 ≤ k ∧ k ≤ 18) ∨ (a = 367 ∧ (k = 0 ∨ (14 ≤ k ∧ k ≤ 22) ∨ (79 ≤ k ∧ k ≤ 81))) ∨ a = 375
/-- an opening went on from S to T; the cells of X were written besides -/
def OQ (X : Nat → Int → Prop) (S T : ms) : Prop := ∃ f : Int, (FR S f ∧ f ≤ 12) ∧ FQ T ∧ (EX (fun a k => X a k ∨ a = sR f ∨ a = sR f + 1) (wR (wR S 9 1 (sR f)) 367 13 368) T ∨ ∃ (n : Int) (g : Int → Int), NW X (wR (wR S 9 1 (sR f)) 367 13 368) T f n g)
/-- the class's memory at the end -/
def CEn (A : ms) (st : Rd) (f : Int) : ms := if st.1 = 0 then wI (FTc A st st.2.2.2.1) 4 f 1 else FTc A st st.2.2.2.1
theorem CEn_2 : (CEn A st f).2 = A.2 := by
  unfold CEn
  split <;> rfl
theorem CEn_1 (a : Nat) (k : Int) (h1 : ¬ (a = 0 ∧ 16 ≤ k ∧ k ≤ 18)) (h2 : ¬ (a = 4 ∧ k = f)) : (CEn A st f).1 a k = A.1 a k := by
  have q2 : (FTc A st st.2.2.2.1).1 a k = if a = 0 ∧ k = 18 then st.2.2.2.1 else if a = 0 ∧ k = 17 then st.2.1 else if a = 0 ∧ k = 16 then st.1 else A.1 a k := rfl
  rw [if_neg (by omega), if_neg (by omega), if_neg (by omega)] at q2
  unfold CEn
  split
  · rw [rI_I, if_neg h2, q2]
  · exact q2
theorem CEn_f : (CEn A st f).1 0 16 = st.1 ∧ (CEn A st f).1 0 17 = st.2.1 ∧ (CEn A st f).1 0 18 = st.2.2.2.1 := by
  have q2 : ∀ (a : Nat) (k : Int), (FTc A st st.2.2.2.1).1 a k = if a = 0 ∧ k = 18 then st.2.2.2.1 else if a = 0 ∧ k = 17 then st.2.1 else if a = 0 ∧ k = 16 then st.1 else A.1 a k := fun _ _ => rfl
  have r : (FTc A st st.2.2.2.1).1 0 16 = st.1 ∧ (FTc A st st.2.2.2.1).1 0 17 = st.2.1 ∧ (FTc A st st.2.2.2.1).1 0 18 = st.2.2.2.1 := ⟨by rw [q2, if_neg (by decide), if_neg (by decide), if_pos ⟨rfl, rfl⟩], by rw [q2, if_neg (by decide), if_pos ⟨rfl, rfl⟩], by rw [q2, if_pos ⟨rfl, rfl⟩]⟩
  unfold CEn
  split
  · rw [rI_I, if_neg (by omega), rI_I, if_neg (by omega), rI_I, if_neg (by omega)]
    exact r
  · exact r
theorem op_endC (f1 : 1 ≤ f) (hf : f ≤ 12) (hr : rdR x st) (hA : CR SA A (sR f) x st) (hz : SA.1 (sR f) 2 = 0) : EV q 173 0 [some (.ref 0), some (vI f)] [] A (some (vI (if st.1 = 0 then f else -10 - st.1))) (CEn A st f) := by
  have setl := sp_setl (q := q) f1 hf hr hA hz
  unfold CEn
  by_cases c : st.1 = 0
  · rw [if_pos c, if_pos c]
    exact setl.2 c
  · rw [if_neg c, if_neg c]
    exact setl.1 c
theorem op_end {X : Nat → Int → Prop} (hX : ∀ a k, XOp a k → X a k) (hX2 : ∀ a k, X a k → a ≠ 4 ∧ (a < 343 ∨ 366 < a) ∧ a ≠ 369 ∧ a ≠ 370 ∧ a ≠ 371) (hS : RS S) (hF : FR S f) (hf : f ≤ 12) (hr : rdR x st) (hA : CR SA A (sR f) x st) (eA : SA.2 = (wR S 9 1 (sR f)).2 ∧ ∀ (a : Nat) (k : Int), ¬ X a k → a ≠ sR f → SA.1 a k = S.1 a k) (hB : MR SB B x st) (eB : SB.2 = (wR (CEn A st f) 367 13 368).2 ∧ ∀ (a : Nat) (k : Int), (a < 367 ∨ ¬ X a k) → SB.1 a k = (CEn A st f).1 a k) : EV q 368 0 [some (.ref 367), some (vI st.2.2.2.1)] [] B (some (vI (-10 - st.1))) (FTm B st st.2.2.2.1) ∧ ∃ T, (st.1 = 0 → EV q 328 0 [some (.ref 367), some (.ref 375), some (vI 0), some (vI st.2.2.2.1), none, none] [] (FTm B st st.2.2.2.1) (some (vI f)) T) ∧ (st.1 ≠ 0 → T = FTm B st st.2.2.2.1) ∧ OQ X S T := by
  obtain ⟨f1, f2, f3⟩ := id hF
  have rg := sR_rg f1.1 hf
  have nX : ∀ (a : Nat) (k : Int), ¬ X a k → ¬ XOp a k := fun a k n y => n (hX a k y)
  have sX : ∀ k, ¬ X (sR f) k := fun k y => by have := hX2 _ _ y; omega
  have sX1 : ∀ k, ¬ X (sR f + 1) k := fun k y => by have := hX2 _ _ y; omega
  refine ⟨md_fault _ hr hB, ?_⟩
  have q2 : ∀ (a : Nat) (k : Int), (FTm B st st.2.2.2.1).1 a k = if a = 367 ∧ k = 81 then st.2.2.2.1 else if a = 367 ∧ k = 80 then st.2.1 else if a = 367 ∧ k = 79 then st.1 else B.1 a k := fun _ _ => rfl
  have c0 : ∀ (a : Nat) (k : Int), a < 367 → (FTm B st st.2.2.2.1).1 a k = (CEn A st f).1 a k := by
    intro a k n
    rw [q2, if_neg (by omega), if_neg (by omega), if_neg (by omega), hB.2.2.2 a k (by omega) (by omega), eB.2 a k (Or.inl n)]
  have c1 : ∀ (a : Nat) (k : Int), ¬ X a k → (FTm B st st.2.2.2.1).1 a k = (CEn A st f).1 a k := by
    intro a k n
    have n2 := nX a k n
    unfold XOp at n2
    rw [q2, if_neg (by omega), if_neg (by omega), if_neg (by omega), hB.2.2.2 a k (by omega) (by omega), eB.2 a k (Or.inr n)]
  have c2 : ∀ (a : Nat) (k : Int), ¬ X a k → a ≠ sR f → a ≠ sR f + 1 → ¬ (a = 4 ∧ k = f) → (FTm B st st.2.2.2.1).1 a k = S.1 a k := by
    intro a k n n1 n2 n3
    have n4 := nX a k n
    unfold XOp at n4
    rw [c1 a k n, CEn_1 a k (by omega) n3, hA.2.2.2 a k (by omega) (by omega) (by omega), eA.2 a k n n1]
  have e2 : (FTm B st st.2.2.2.1).2 = (wR (wR S 9 1 (sR f)) 367 13 368).2 := by
    have y : (CEn A st f).2 = (wR S 9 1 (sR f)).2 := by rw [CEn_2, hA.1, eA.1]
    have w1 : (wR (CEn A st f) 367 13 368).2 = (wR (wR S 9 1 (sR f)) 367 13 368).2 := by
      show ((CEn A st f).2.1, fun b k => if b = 367 ∧ k = 13 then 368 else (CEn A st f).2.2 b k) = _
      rw [y]
      rfl
    show B.2 = _
    rw [hB.1, eB.1, w1]
  have e4 : ∀ k : Int, 1 ≤ k → k ≤ 12 → (FTm B st st.2.2.2.1).1 371 k = S.1 4 k := fun k k1 k2 => by
    rw [c2 371 k (fun y => (hX2 _ _ y).2.2.2.2 rfl) (by omega) (by omega) (by omega)]
    exact (hS k k1 k2).2.1
  obtain ⟨g0, g1, g2⟩ := CEn_f (A := A) (st := st) (f := f)
  have fq : FQ (FTm B st st.2.2.2.1) := ⟨by rw [c0 0 16 (by decide), g0, q2, if_neg (by decide), if_neg (by decide), if_pos ⟨rfl, rfl⟩], by rw [c0 0 17 (by decide), g1, q2, if_neg (by decide), if_pos ⟨rfl, rfl⟩], by rw [c0 0 18 (by decide), g2, q2, if_pos ⟨rfl, rfl⟩]⟩
  by_cases c : st.1 = 0
  · obtain ⟨F, hFT⟩ : ∃ F, F = FTm B st st.2.2.2.1 := ⟨_, rfl⟩
    have hB375 : ∀ k : Int, 0 ≤ k → k < st.2.2.2.1 → F.1 375 k = b8 (st.2.2.2.2 k) := fun k k0 k1 => by
      rw [hFT, q2, if_neg (by omega), if_neg (by omega), if_neg (by omega)]
      exact hB.2.2.1.2 k k0 (by omega)
    rw [← hFT]
    rw [← hFT] at c0 c1 c2 e2 e4 fq
    have n12 := hr.2.2.1
    have hr4 := hr.2.2.2.1
    have h61 := hA.2.2.1.1
    have h62 := hA.2.2.1.2
    generalize st.2.2.2.1 = n at n12 hr4 h61 h62 hB375 ⊢
    generalize st.2.2.2.2 = g at hr4 h62 hB375 ⊢
    have new := md_new (q := q) (T := F) (c := 375) (n1 := 12000) (fr := 0) (n := n) hF hf e4 rfl (by decide) (by decide) (by decide) (by omega) (by omega) (by omega)
    obtain ⟨T, eT⟩ : ∃ T, T = wC (wI (wI F 371 f 1) 370 f n) 369 (12000 * f) n (fun k => b8 ((wI (wI F 371 f 1) 370 f n).1 375 (0 + k))) := ⟨_, rfl⟩
    rw [← eT] at new
    have key : ∀ (a : Nat) (k : Int), T.1 a k = if a = 369 ∧ 12000 * f ≤ k ∧ k < 12000 * f + n then b8 ((wI (wI F 371 f 1) 370 f n).1 375 (0 + (k - 12000 * f))) else if a = 370 ∧ k = f then n else if a = 371 ∧ k = f then 1 else F.1 a k := fun _ _ => by rw [eT]; rfl
    have eT2 : T.2 = (wR (wR S 9 1 (sR f)) 367 13 368).2 := by rw [eT]; exact e2
    refine ⟨T, fun _ => new, fun y => absurd c y, f, ⟨hF, hf⟩, ⟨?_, ?_, ?_⟩, Or.inr ⟨n, g, ⟨⟨f1.1, hf⟩, by omega, hr4⟩, eT2, ⟨?_, ?_, fun k k0 kn => ?_⟩, ⟨?_, ?_, fun k k0 kn => ?_⟩, fun a k hn' e1 e2' e3 e4' e5 e6 => ?_⟩⟩
    · rw [key, if_neg (by omega), if_neg (by omega), if_neg (by omega), key, if_neg (by omega), if_neg (by omega), if_neg (by omega)]
      exact fq.1
    · rw [key, if_neg (by omega), if_neg (by omega), if_neg (by omega), key, if_neg (by omega), if_neg (by omega), if_neg (by omega)]
      exact fq.2.1
    · rw [key, if_neg (by omega), if_neg (by omega), if_neg (by omega), key, if_neg (by omega), if_neg (by omega), if_neg (by omega)]
      exact fq.2.2
    · rw [key, if_neg (by omega), if_neg (by omega), if_neg (by omega), c0 4 f (by decide)]
      unfold CEn
      rw [if_pos c, rI_I, if_pos ⟨rfl, rfl⟩]
    · rw [key, if_neg (by omega), if_neg (by omega), if_neg (by omega), c1 _ _ (sX 1), CEn_1 _ _ (by omega) (by omega), h61]
    · rw [key, if_neg (by omega), if_neg (by omega), if_neg (by omega), c1 _ _ (sX1 k), CEn_1 _ _ (by omega) (by omega)]
      exact h62 k k0 kn
    · rw [key, if_neg (by omega), if_neg (by omega), if_pos ⟨rfl, rfl⟩]
    · rw [key, if_neg (by omega), if_pos ⟨rfl, rfl⟩]
    · rw [key, if_pos ⟨rfl, by omega, by omega⟩, show 0 + (12000 * f + k - 12000 * f) = k by omega, rI_I, if_neg (by omega), rI_I, if_neg (by omega), hB375 k k0 kn, b8_of (b8_rg _)]
    · rw [key, if_neg (fun z => e6 ⟨z.1, z.2.1, by omega⟩), if_neg e5, if_neg e4', c2 a k hn' e1 e2' e3]
      rfl
  · refine ⟨_, fun y => absurd y c, fun _ => rfl, f, ⟨hF, hf⟩, fq, Or.inl ⟨e2, fun a k n => ?_⟩⟩
    have n1 : ¬ X a k := fun y => n (Or.inl y)
    have n2 : a ≠ sR f := fun y => n (Or.inr (Or.inl y))
    have n3 : a ≠ sR f + 1 := fun y => n (Or.inr (Or.inr y))
    by_cases c4 : a = 4 ∧ k = f
    · obtain ⟨y1, y2⟩ := c4
      subst y1 y2
      rw [c0 4 k (by decide)]
      have z1 : (CEn A st k).1 4 k = A.1 4 k := by
        unfold CEn
        rw [if_neg c]
        show (if (4 : Nat) = 0 ∧ k = 18 then st.2.2.2.1 else if (4 : Nat) = 0 ∧ k = 17 then st.2.1 else if (4 : Nat) = 0 ∧ k = 16 then st.1 else A.1 4 k) = A.1 4 k
        rw [if_neg (by omega), if_neg (by omega), if_neg (by omega)]
      rw [z1, hA.2.2.2 4 k (by omega) (by omega) (by omega), eA.2 4 k n1 n2]
      rfl
    · rw [c2 a k n1 n2 n3 c4]
      rfl
end Apply3
/-! apply -/
section Apply4
variable {q : Nat × (Nat → Int32)} {S : ms} {a b d : Int}
theorem op25_ok (ha : -2147483648 ≤ a ∧ a < 2147483648) (hT : RT S) (hS : RS S) (hq : RQ S) : op_25 q a b d S (fun T => T = wI S 367 0 0 ∨ OQ XOp S T) := by
  have ea : w32 a = a := w32_of ha
  have hS0 : RS (wI S 367 0 0) := RS_0 hS
  by_cases cl : Lv S a
  case neg =>
    exact ⟨-1, S, -1, wI S 367 0 0, vc_PH_apply _ ⟨0, S, ph_live0 ea hS cl, fun n => absurd (by decide) n, fun _ => ⟨rfl, rfl⟩⟩, vc_MD_apply _ (fun S1 f => by subst f; exact ⟨1, _, md_ns1 ea hS0 (fun y => cl y), fun n => absurd n (by decide), fun _ => ⟨rfl, rfl⟩⟩), rfl, Or.inl rfl⟩
  obtain ⟨f, hF⟩ := fr_ex hS
  have kfree := ph_free (q := q) hF
  by_cases cf : f ≤ 12
  case neg =>
    rw [if_neg cf] at kfree
    have kf2 := md_free (q := q) (T := wI S 367 0 0) hF (fun k k1 k2 => by rw [r0a _ _ (by decide)]; exact (hS k k1 k2).2.1)
    rw [if_neg cf] at kf2
    exact ⟨-4, S, -4, wI S 367 0 0, vc_PH_apply _ ⟨1, S, ph_live1 ea cl, fun _ => ⟨0, S, kfree, fun n => absurd (by decide) n, fun _ => ⟨rfl, rfl⟩⟩, fun n => absurd (by decide) n⟩, vc_MD_apply _ (fun S1 f => by subst f; exact ⟨0, _, md_ns0 ea hS0 cl, fun _ => ⟨-4, _, kf2, fun n => absurd n (by decide), fun _ => ⟨rfl, rfl⟩⟩, fun n => absurd (by decide) n⟩), rfl, Or.inl rfl⟩
  rw [if_pos cf] at kfree
  obtain ⟨f1, f2, f3⟩ := id hF
  have rg := sR_rg f1.1 cf
  have rga := sR_rg cl.1 cl.2.1
  obtain ⟨s1, s2⟩ := st_is f1.1 cf
  obtain ⟨s3, s4⟩ := st_is cl.1 cl.2.1
  have fa : f ≠ a := fun y => by
    have := f3 cf
    rw [y] at this
    have := cl.2.2
    omega
  have sne : sR a ≠ sR f ∧ sR a + 1 ≠ sR f ∧ sR a ≠ sR f + 1 ∧ sR a + 1 ≠ 9 := by
    have h1 := cl.1
    have h2 := f1.1
    unfold sR
    omega
  obtain ⟨y1, y2, y3⟩ := (hS a cl.1 cl.2.1).2.2 cl.2.2
  obtain ⟨t1, t2, t3⟩ := id hT
  obtain ⟨x, ex⟩ : ∃ x, x = S.1 1 1 := ⟨_, rfl⟩
  obtain ⟨sz, esz⟩ : ∃ sz, sz = S.1 (sR a) 1 := ⟨_, rfl⟩
  obtain ⟨t, et⟩ : ∃ t : Int → Int, ∀ k, t k = S.1 2 k := ⟨_, fun _ => rfl⟩
  obtain ⟨g, eg⟩ : ∃ g : Int → Int, ∀ k, g k = S.1 (sR a + 1) k := ⟨_, fun _ => rfl⟩
  rw [← ex] at t1 t2 t3
  rw [← esz] at y1 y2 y3
  have ht : ∀ k : Int, 0 ≤ k → k < x → 0 ≤ t k ∧ t k < 256 := fun k k0 k1 => by rw [et]; exact (t3 k k0 k1).1
  -- the state, through both
  obtain ⟨D, u1, ⟨a1, a2⟩, a3, a4, a5⟩ := jsev (q := q) t1.2 ht 5 0 0 st0 (by omega) (rdR_0 t1.1) (by decide)
  obtain ⟨u2, eu2⟩ : ∃ u2 : Rd, u2 = if (w64 D ≤ w64 12000) then u1 else rdTell 13 u1 := ⟨_, rfl⟩
  have h2 : rdR x u2 ∧ Fw u1 u2 := by
    rw [eu2]
    exact rd_gt (by decide) a1
  obtain ⟨z, u3, ⟨b1, b2⟩, b3, b4, b5⟩ := jlow (q := q) ht (n := 4) (by omega) 4 0 0 u2 (by omega) h2.1 (by decide)
  obtain ⟨w, ew⟩ : ∃ w : Int, w = -(crR (fun k => g k) sz.toNat : Nat) - 1 := ⟨_, rfl⟩
  obtain ⟨u4, eu4⟩ : ∃ u4 : Rd, u4 = if (w64 z = w64 ((w32 w) % 4294967296)) then u3 else rdTell 131 u3 := ⟨_, rfl⟩
  have h4 : rdR x u4 ∧ Fw u3 u4 := by
    rw [eu4]
    exact rd_gt (by decide) b1
  have lp : ∃ stf : Rd, rdR x stf ∧ apC q x t g sz D 0 u4 stf ∧ apM q x t g sz D u4 stf := by
    by_cases cD : D ≤ 12000
    · exact ap_loop t1 ht y1 ⟨a3.1, cD⟩ 6000 0 u4 (by have := h4.1.2.1; omega) (by omega) h4.1
    · have w1 : w64 D = D := w64_of (by omega)
      have w2 : w64 12000 = 12000 := by decide
      rw [w1, w2, if_neg cD] at eu2
      have d2 : u2.1 ≠ 0 := by
        rw [eu2]
        exact rdTell_1 (by decide)
      have d3 : u3 = u2 := b2.1 d2
      have d4 : u4 = u3 := h4.2.1 (by rw [d3]; exact d2)
      refine ⟨apE D x u4, ?_, ap_stop 0 t1.2 h4.1 (Or.inl (by rw [d4, d3]; exact d2))⟩
      unfold apE
      split
      · exact h4.1
      · exact rdR_tellAt h4.1 (by decide)
  obtain ⟨st, hr, l1, l2⟩ := lp
  -- the class
  obtain ⟨SA, eSA⟩ : ∃ SA, SA = BgC S (sR f) x := ⟨_, rfl⟩
  have atA : ∀ (c : Nat) (k : Int), ¬ (c = 9 ∧ 2 ≤ k ∧ k ≤ 8) → c ≠ sR f → SA.1 c k = S.1 c k := fun c k n1 n2 => by
    rw [eSA, BgC_at, if_neg (by omega), if_neg (by omega), if_neg (by omega), CL_n _ n2]
  have hC : RdC SA (sR f) x t := ⟨by rw [eSA]; exact BgC_o, s2, by omega, t1, fun k k0 k1 => ⟨ht k k0 k1, by rw [atA 2 k (by omega) (by omega), et]⟩⟩
  have hFi : FiC SA (sR f) (sR a) sz g := ⟨s4, sne, by omega, by rw [atA _ _ (by omega) sne.1, esz], fun k k0 k1 => by rw [atA _ _ (by omega) sne.2.1, eg]⟩
  obtain ⟨A0, c1, c2⟩ := sp_begin (q := q) (S := S) (x := x) s2 (by omega) t1
  rw [← eSA] at c2
  obtain ⟨A1, c3, c4⟩ := a4 SA A0 (sR f) hC c2
  have rowc : ∀ A : ms, CR SA A (sR f) x u3 → EV q 28 0 [some (.ref (sR a + 1)), some (vI 0), some (vI sz), none, none] [] A (some (vI w)) A := by
    intro A hA
    have k1 := sp_crd (q := q) (S := A) (c := sR a + 1) (n1 := 12000) (n := sz.toNat) (fr := 0) (g := fun k => g k) s4.2 (by decide) (by decide) (by omega) (fun k hk => by
      have := y3 k (by omega) (by omega)
      refine ⟨by rw [eg]; exact this.1, ?_⟩
      rw [Int.zero_add, hA.2.2.2 _ _ (by omega) (by omega) (by omega)]
      exact hFi.2.2.2.2 k (by omega) (by omega))
    rw [show (0 : Int) + (sz.toNat : Nat) = sz by omega, ← ew] at k1
    exact k1
  obtain ⟨A, c5, c6⟩ := gTellC (q := q) (k := 13) (c := w64 D ≤ w64 12000) (X := fun U V => EV q 221 19 [some (.ref 29), some (.ref 9), some (.ref (sR a)), some (vL D), none, none, none, none, none, none, none] [] U none V) (P := fun U => CR SA U (sR f) x st) a1 hC.2.2.1 c4 (fun A2 j1 => by
    rw [← eu2] at j1
    obtain ⟨A3, j2, j3⟩ := b4 SA A2 (sR f) hC j1
    obtain ⟨A4, j4, j5⟩ := gTellC (q := q) (k := 131) (c := w64 z = w64 ((w32 w) % 4294967296)) (X := fun U V => EV q 221 56 [some (.ref 29), some (.ref 9), some (.ref (sR a)), some (vL D), none, some (vL z), none, none, none, none, none] [] U none V) (P := fun U => CR SA U (sR f) x st) b1 hC.2.2.1 j3 (fun A4 i1 => by
      rw [← eu4] at i1
      obtain ⟨A5, i2, i3⟩ := l1 SA A4 (sR f) (sR a) z hC hFi i1
      exact ⟨A5, vc_Copies_openDelta_56 _ _ _ _ s4 i2, i3⟩)
    refine ⟨A4, vc_Copies_openDelta_19 _ _ _ s4 ⟨z, A3, vc_Source_takeLow _ j2, w, A3, ?_, j4⟩, j5⟩
    rw [j3.2.2.2 (sR a) 1 (by omega) (by omega) (by omega), hFi.2.2.2.1]
    exact rowc A3 j3)
  have c7 : EV q 221 0 [some (.ref 29), some (.ref 9), some (.ref (sR a)), none, none, none, none, none, none, none, none] [] A0 none A := vc_Copies_openDelta _ _ s4 ⟨D, A1, vc_Source_takeSevens c3, c5⟩
  -- the reference
  obtain ⟨B0, eB0⟩ : ∃ B0, B0 = wI (CEn A st f) 367 0 0 := ⟨_, rfl⟩
  have atE : ∀ (c : Nat) (k : Int), ¬ XOp c k → c ≠ sR f → c ≠ sR f + 1 → ¬ (c = 4 ∧ k = f) → (CEn A st f).1 c k = S.1 c k := fun c k n n1 n2 n3 => by
    unfold XOp at n
    rw [CEn_1 _ _ (by omega) n3, c6.2.2.2 c k (by omega) (by omega) n2, atA c k (by omega) n1]
  have atB : ∀ (c : Nat) (k : Int), ¬ XOp c k → c ≠ sR f → c ≠ sR f + 1 → ¬ (c = 4 ∧ k = f) → B0.1 c k = S.1 c k := fun c k n n1 n2 n3 => by
    have n' := n
    unfold XOp at n'
    rw [eB0, rI_I, if_neg (by omega), atE c k n n1 n2 n3]
  obtain ⟨SB, eSB⟩ : ∃ SB, SB = BgM B0 x := ⟨_, rfl⟩
  have atS : ∀ (c : Nat) (k : Int), ¬ (c = 367 ∧ 14 ≤ k ∧ k ≤ 18) → SB.1 c k = B0.1 c k := fun c k n => by
    rw [eSB, BgM_at, if_neg (by omega), if_neg (by omega), if_neg (by omega), if_neg (by omega)]
  have hM : RdM SB x t := ⟨by rw [eSB]; exact BgM_r, t1, fun k k0 k1 => ⟨ht k k0 k1, by
    rw [atS _ _ (by omega), atB _ _ (by unfold XOp; omega) (by omega) (by omega) (by omega), et]
    exact oct_eq (t3 k k0 k1).1 (t3 k k0 k1).2⟩⟩
  have hFm : FiM SB a sz g := ⟨⟨cl.1, cl.2.1⟩, by rw [atS _ _ (by omega), atB _ _ (by unfold XOp; omega) (by omega) (by omega) (by omega), y2], fun k k0 k1 => ⟨by rw [eg]; exact (y3 k k0 k1).1, by rw [atS _ _ (by omega), atB _ _ (by unfold XOp; omega) (by omega) (by omega) (by omega), eg]; exact (y3 k k0 k1).2⟩⟩
  have hSB0 : ∀ k : Int, 1 ≤ k → k ≤ 12 → B0.1 371 k = S.1 4 k := fun k k1 k2 => by
    rw [atB _ _ (by unfold XOp; omega) (by omega) (by omega) (by omega)]
    exact (hS k k1 k2).2.1
  have kns : EV q 271 0 [some (.ref 367), some (vI a)] [] B0 (some (vI 0)) B0 := by
    refine vc_MD_noStream a ⟨1, B0, md_in1 (by show 1 ≤ w32 a; have := cl.1; omega) (by show w32 a ≤ 12; have := cl.2.1; omega), fun c => absurd c (by decide), fun _ => ⟨by have := cl.1; have := cl.2.1; omega, fun _ => ⟨rfl, rfl⟩, fun c => ?_⟩⟩
    rw [ea, hSB0 a cl.1 cl.2.1, cl.2.2] at c
    exact absurd (by decide) c
  have kf2 := md_free (q := q) (T := B0) hF hSB0
  rw [if_pos cf] at kf2
  obtain ⟨B1, d1, d2⟩ := md_start (q := q) (B := B0) (x := x) (by rw [atB _ _ (by unfold XOp; omega) (by omega) (by omega) (by omega), t2])
  rw [← eSB] at d2
  obtain ⟨B2, d3, d4⟩ := a5 SB B1 hM d2
  have rowm : ∀ B : ms, MR SB B x u3 → EV q 264 0 [some (.ref 367), some (.ref 369), some (vI (12000 * a)), some (vI (B.1 370 (w32 a))), none, none] [] B (some (vI w)) B := by
    intro B hB
    have cla := cl.1
    have clb := cl.2.1
    have k1 := sp_mrd (q := q) (S := B) (c := 369) (n1 := 156000) (n := sz.toNat) (fr := 12000 * a) (g := fun k => g k) rfl (by decide) (by omega) (by omega) (fun k hk => by
      have := hFm.2.2 k (by omega) (by omega)
      refine ⟨this.1, ?_⟩
      rw [hB.2.2.2 _ _ (by omega) (by decide)]
      exact oct_eq this.1 this.2) (fun t' ht' => by
      rw [hB.2.2.2 _ _ (by omega) (by decide), atS _ _ (by omega), atB _ _ (by unfold XOp; omega) (by omega) (by omega) (by omega)]
      exact hq.1 t' ht')
    rw [show ((sz.toNat : Nat) : Int) = sz by omega, ← ew] at k1
    rw [ea, hB.2.2.2 _ _ (by omega) (by decide), hFm.2.1]
    exact k1
  have fin : ∀ B, MR SB B x st → ∃ B', EV q 406 387 [some (.ref 367), some (vI a), some (vL D), none, some (vL z), none, none, none, none, none, none, none, none] [] B (some (vI (if st.1 = 0 then f else -10 - st.1))) B' ∧ OQ XOp S B' := by
    intro B hB
    obtain ⟨i1, T, i2, i3, i4⟩ := op_end (q := q) (X := XOp) (S := S) (A := A) (B := B) (SA := SA) (SB := SB) (f := f) (x := x) (st := st) (fun _ _ y => y) (fun c k y => by unfold XOp at y; omega) hS hF cf hr c6 ⟨by rw [eSA]; rfl, fun c k n n1 => atA c k (by unfold XOp at n; omega) n1⟩ hB ⟨by rw [eSB, eB0]; rfl, fun c k n => by
      rw [atS c k (by unfold XOp at n; omega), eB0, rI_I, if_neg (by unfold XOp at n; omega)]⟩
    have e22 : B.1 367 22 = st.2.2.2.1 := hB.2.2.1.1
    have e22' : (FTm B st st.2.2.2.1).1 367 22 = st.2.2.2.1 := e22
    have e19 : (FTm B st st.2.2.2.1).1 367 19 = st.1 := hB.2.1.2.2.1
    have wr : w32 st.1 = st.1 := w32_of (by have := hr.1; omega)
    refine ⟨T, vc_MD_apply_387 _ _ _ ?_, i4⟩
    rw [e22]
    refine ⟨_, _, i1, ?_⟩
    rw [e19, wr, e22']
    by_cases c : st.1 = 0
    · rw [if_pos c]
      exact cY (by omega) ⟨_, T, i2 c, rfl, rfl⟩
    · rw [if_neg c]
      exact cNo (by have := hr.1; omega) ⟨rfl, i3 c⟩
  obtain ⟨T, d5, d6⟩ := gTellB (q := q) (k := 13) (c := w64 D ≤ w64 12000) (X := fun U V => EV q 406 55 [some (.ref 367), some (vI a), some (vL D), none, none, none, none, none, none, none, none, none, none] [] U (some (vI (if st.1 = 0 then f else -10 - st.1))) V) (P := OQ XOp S) a1 t1.2 d4 (fun B3 j1 => by
    rw [← eu2] at j1
    obtain ⟨B4, j2, j3⟩ := b5 SB B3 hM j1
    obtain ⟨T, j4, j5⟩ := gTellB (q := q) (k := 131) (c := w64 z = w64 ((w32 w) % 4294967296)) (X := fun U V => EV q 406 106 [some (.ref 367), some (vI a), some (vL D), none, some (vL z), none, none, none, none, none, none, none, none] [] U (some (vI (if st.1 = 0 then f else -10 - st.1))) V) (P := OQ XOp S) b1 t1.2 j3 (fun B5 i1 => by
      rw [← eu4] at i1
      exact l2 SB B5 a z _ _ hM hFm i1 fin)
    exact ⟨T, vc_MD_apply_55 _ _ ⟨z, B4, vc_MD_lowNumber _ j2, _, B4, md_fine b1 j3, j4.1, fun y => ⟨by rw [ea]; have := cl.1; have := cl.2.1; omega, w, B4, rowm B4 j3, j4.2 y⟩⟩, j5⟩)
  have wf : w32 f = f := w32_of (by omega)
  have hz : SA.1 (sR f) 2 = 0 := by
    rw [eSA, BgC_at, if_neg (by omega), if_neg (by omega), if_neg (by omega), CL_at, if_neg (by omega), if_pos ⟨rfl, rfl⟩]
  refine ⟨if st.1 = 0 then f else -10 - st.1, CEn A st f, if st.1 = 0 then f else -10 - st.1, T, vc_PH_apply _ ⟨1, S, ph_live1 ea cl, fun _ => ⟨f, S, kfree, fun _ => ?_, fun n => absurd (by rw [wf]; omega) n⟩, fun n => absurd (by decide) n⟩, vc_MD_apply _ (fun S1 e => ?_), rfl, Or.inr d6⟩
  · rw [wf, ea, ← ex]
    exact ⟨by omega, sR f, 12000, s1, s2, A0, c1, by have := cl.1; have := cl.2.1; omega, sR a, 12000, s3, s4, A, c7, _, _, op_endC f1.1 cf hr c6 hz, rfl, rfl⟩
  · rw [← eB0] at e
    subst e
    exact ⟨0, _, kns, fun _ => ⟨f, _, kf2, fun _ => ⟨B1, d1, D, B2, vc_MD_readSevens d3, _, B2, md_fine a1 d4, d5⟩, fun n => absurd (by rw [wf]; omega) n⟩, fun n => absurd (by decide) n⟩
end Apply4
