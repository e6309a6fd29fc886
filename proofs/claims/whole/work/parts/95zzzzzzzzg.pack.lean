/-! pack, the call -/
section PackOp
variable {q : Nat × (Nat → Int32)} {x : Int} {t : Int → Int} {S : ms} {a b d : Int}
theorem jb_s (hx : 0 ≤ x ∧ x ≤ 6000) (ht : ∀ k : Int, 0 ≤ k → k < x → 0 ≤ t k ∧ t k < 256) {lv : Int} (hl : 0 ≤ lv ∧ lv ≤ 4) : JBs q lv x t := by
  rcases (by omega : lv = 0 ∨ lv = 1 ∨ lv = 2 ∨ lv = 3 ∨ lv = 4) with e | e | e | e | e <;> rw [e]
  · exact jb_0 hx ht
  · exact jb_1 hx ht
  · exact jb_2 hx ht
  · exact jb_3 hx ht
  · exact jb_4 hx ht
theorem jb_all (hx : 0 ≤ x ∧ x ≤ 6000) (ht : ∀ k : Int, 0 ≤ k → k < x → 0 ≤ t k ∧ t k < 256) {lv : Int} (hl : 0 ≤ lv ∧ lv ≤ 4) : ∀ s0 : Wb, s0.2 = 0 → wbR 0 s0 → s0.1.1 ≤ 1000 → JB q lv x t s0 := fun s0 h0 hr hs => JB_of (jb_s hx ht hl) h0 hr hs
theorem jp_all (hx : 0 ≤ x ∧ x ≤ 6000) (ht : ∀ k : Int, 0 ≤ k → k < x → 0 ≤ t k ∧ t k < 256) {kd lv : Int} (hk : 1 ≤ kd ∧ kd ≤ 10) (hl : 0 ≤ lv ∧ (3 ≤ kd ∧ kd ≤ 5 → lv ≤ 4) ∧ (¬ (3 ≤ kd ∧ kd ≤ 5) → lv = 0)) : JPw q BlC kd lv x t := by
  by_cases c : 3 ≤ kd ∧ kd ≤ 5
  · have l4 : 0 ≤ lv ∧ lv ≤ 4 := ⟨hl.1, hl.2.1 c⟩
    have hJ := jb_all (q := q) hx ht l4
    rcases (by omega : kd = 3 ∨ kd = 4 ∨ kd = 5) with e | e | e <;> rw [e]
    · exact jp_3 l4 hx (hJ (w00, 0) rfl (wbR_0 (Int.le_refl _) w00_O) (by show (0 : Int) ≤ 1000; decide))
    · exact jp_4 l4 hx ht hJ
    · exact jp_5 l4 hx ht hJ
  · rw [hl.2.2 c]
    rcases (by omega : kd = 1 ∨ kd = 2 ∨ kd = 6 ∨ kd = 7 ∨ kd = 8 ∨ kd = 9 ∨ kd = 10) with e | e | e | e | e | e | e <;> rw [e]
    · exact JP_w (jp_runs hx ht)
    · exact JP_w (jp_words hx ht)
    · exact JP_w (jp_fast hx ht)
    · exact JP_w (jp_frame hx ht)
    · exact JP_w (jp_copies hx ht)
    · exact jp_9 hx ht
    · exact JP_w (jp_odds hx ht)
theorem cl_keep {A : ms} {T : Int → Int × Int × Int} {K : Int} (hK : 0 ≤ K ∧ K ≤ 6000) (h : CTk A T K) : ∃ F, EX (fun a k => (a = 10 ∧ k = 12) ∨ a = 16 ∨ a = 17 ∨ a = 18) A F ∧ (F.1 10 12 = K ∧ ∀ k : Int, 0 ≤ k → k < K → F.1 16 k = (T k).1 ∧ F.1 17 k = (T k).2.1 ∧ F.1 18 k = (T k).2.2) ∧ EV q 113 0 [some (.ref 10)] [] A none F := by
  have wK : w32 K = K := w32_of (by omega)
  have w0 : w32 0 = 0 := by decide
  obtain ⟨A1, e1⟩ : ∃ A1, A1 = wI A 10 12 K := ⟨_, rfl⟩
  obtain ⟨A2, e2⟩ : ∃ A2, A2 = wC A1 16 0 K (fun k => A1.1 13 (0 + k)) := ⟨_, rfl⟩
  obtain ⟨A3, e3⟩ : ∃ A3, A3 = wC A2 17 0 K (fun k => A2.1 14 (0 + k)) := ⟨_, rfl⟩
  obtain ⟨A4, e4⟩ : ∃ A4, A4 = wC A3 18 0 K (fun k => A3.1 15 (0 + k)) := ⟨_, rfl⟩
  have f1 : ∀ (c : Nat) (k : Int), ¬ (c = 10 ∧ k = 12) → A1.1 c k = A.1 c k := fun c k y => by rw [e1, wI_no _ y]
  have f2 : ∀ (c : Nat) (k : Int), c ≠ 16 → A2.1 c k = A1.1 c k := fun c k y => by rw [e2, rI_C, if_neg (fun z => y z.1)]
  have f3 : ∀ (c : Nat) (k : Int), c ≠ 17 → A3.1 c k = A2.1 c k := fun c k y => by rw [e3, rI_C, if_neg (fun z => y z.1)]
  have f4 : ∀ (c : Nat) (k : Int), c ≠ 18 → A4.1 c k = A3.1 c k := fun c k y => by rw [e4, rI_C, if_neg (fun z => y z.1)]
  refine ⟨A4, ⟨by rw [e4, e3, e2, e1]; rfl, fun c k y => ?_⟩, ⟨?_, fun k k0 k1 => ?_⟩, vc_Finder_keepTokens (fun S1 q1 => ?_)⟩
  · rw [f4 c k (fun z => y (Or.inr (Or.inr (Or.inr z)))), f3 c k (fun z => y (Or.inr (Or.inr (Or.inl z)))), f2 c k (fun z => y (Or.inr (Or.inl z))), f1 c k (fun z => y (Or.inl z))]
  · rw [f4 _ _ (by decide), f3 _ _ (by decide), f2 _ _ (by decide), e1, wI_at]
  · obtain ⟨t1, t2, t3⟩ := h.2 k k0 k1
    refine ⟨?_, ?_, ?_⟩
    · rw [f4 _ _ (by decide), f3 _ _ (by decide), e2, rI_C, if_pos ⟨rfl, by omega, by omega⟩, show 0 + (k - 0) = k by omega, f1 _ _ (by omega)]
      exact t1
    · rw [f4 _ _ (by decide), e3, rI_C, if_pos ⟨rfl, by omega, by omega⟩, show 0 + (k - 0) = k by omega, f2 _ _ (by decide), f1 _ _ (by omega)]
      exact t2
    · rw [e4, rI_C, if_pos ⟨rfl, by omega, by omega⟩, show 0 + (k - 0) = k by omega, f3 _ _ (by decide), f2 _ _ (by decide), f1 _ _ (by omega)]
      exact t3
  · rw [h.1, ← e1] at q1
    have g1 : S1.1 10 8 = K := by rw [q1, f1 _ _ (by decide)]; exact h.1
    rw [g1, w0, wK]
    refine ⟨by omega, fun S3 q3 => ?_⟩
    rw [q1, ← e2] at q3
    have g3 : S3.1 10 8 = K := by rw [q3, f2 _ _ (by decide), f1 _ _ (by decide)]; exact h.1
    rw [g3, wK]
    refine ⟨by omega, fun S5 q5 => ?_⟩
    rw [q3, ← e3] at q5
    have g5 : S5.1 10 8 = K := by rw [q5, f3 _ _ (by decide), f2 _ _ (by decide), f1 _ _ (by decide)]; exact h.1
    rw [g5, wK]
    refine ⟨by omega, fun S7 q7 => ⟨rfl, ?_⟩⟩
    rw [q5, ← e4] at q7
    exact q7.symm
theorem md_keep {x1 x2 x3 : Int} {K : Nat} (hK : K ≤ 6000) : ∀ (v i : Nat) (B : ms), i + v = K → B.1 367 84 = K → (∀ k : Int, 0 ≤ k → k < i → B.1 416 k = B.1 380 k ∧ B.1 417 k = B.1 381 k ∧ B.1 418 k = B.1 382 k) → ∃ B', EX (fun a _ => 416 ≤ a ∧ a ≤ 418) B B' ∧ (∀ k : Int, 0 ≤ k → k < K → B'.1 416 k = B.1 380 k ∧ B'.1 417 k = B.1 381 k ∧ B'.1 418 k = B.1 382 k) ∧ ∀ (Q : Option Value) (S' : ms), EV q 276 142 [some (.ref 367), some (vI x1), some (vI x2), some (vI x3), some (vI K)] [] B' Q S' → EV q 276 142 [some (.ref 367), some (vI x1), some (vI x2), some (vI x3), some (vI i)] [] B Q S' := by
  intro v
  induction v with
  | zero =>
    intro i B hi h4 h
    have e : i = K := by omega
    subst e
    exact ⟨B, EX.refl _ B, h, fun Q S' k => k⟩
  | succ v ih =>
    intro i B hi h4 h
    obtain ⟨B1, e1⟩ : ∃ B1, B1 = wI (wI (wI B 416 i (B.1 380 i)) 417 i (B.1 381 i)) 418 i (B.1 382 i) := ⟨_, rfl⟩
    have at1 : ∀ (a : Nat) (k : Int), ¬ (416 ≤ a ∧ a ≤ 418 ∧ k = i) → B1.1 a k = B.1 a k := fun a k y => by rw [e1, wI_no _ (by omega), wI_no _ (by omega), wI_no _ (by omega)]
    obtain ⟨B', g1, g2, g3⟩ := ih (i + 1) B1 (by omega) (by rw [at1 _ _ (by omega)]; exact h4) (fun k k0 k1 => by
      rw [at1 380 k (by omega), at1 381 k (by omega), at1 382 k (by omega)]
      by_cases e : k = i
      · rw [e, e1]
        exact ⟨by rw [wI_no _ (by omega), wI_no _ (by omega), wI_at], by rw [wI_no _ (by omega), wI_at], by rw [wI_at]⟩
      · rw [at1 416 k (by omega), at1 417 k (by omega), at1 418 k (by omega)]
        exact h k k0 (by omega))
    refine ⟨B', EX.trans (by rw [e1]; exact (((EX.refl _ B).wr (by omega)).wr (by omega)).wr (by omega)) g1, fun k k0 k1 => ?_, fun Q S' k => vc_MD_pack_142 _ _ _ _ ?_⟩
    · have := g2 k k0 k1
      rw [at1 380 k (by omega), at1 381 k (by omega), at1 382 k (by omega)] at this
      exact this
    · have g4 := g3 Q S' k
      rw [show ((i + 1 : Nat) : Int) = (i : Int) + 1 by omega] at g4
      rw [h4, show w32 (K : Int) = K from w32_of (by omega), show w32 (i : Int) = i from w32_of (by omega)]
      refine cNo (by omega) ⟨by omega, by omega, fun S6 q6 => ⟨by omega, by omega, fun S9 q9 => ⟨by omega, by omega, fun S12 q12 => ?_⟩⟩⟩
      have y1 : S6.1 381 i = B.1 381 i := by rw [q6, wI_no _ (by omega)]
      rw [y1] at q9
      have y2 : S9.1 382 i = B.1 382 i := by rw [q9, wI_no _ (by omega), q6, wI_no _ (by omega)]
      rw [y2, q9, q6, ← e1] at q12
      rw [q12]
      exact g4
/-- a packing went on from S to T; longs are free -/
def PY (X : Nat → Int → Prop) (S T : ms) : Prop := ∃ (f : Int) (o : Nat), (FR S f ∧ f ≤ 12) ∧ (EY (fun a k => X a k ∨ a = sR f ∨ a = sR f + 1) (wR S 10 2 o) T ∨ ∃ (n : Int) (g : Int → Int), NY X (wR S 10 2 o) T f n g)
def X11 (a : Nat) (k : Int) : Prop := (a = 0 ∧ k = 15) ∨ (a = 10 ∧ (k = 3 ∨ k = 4 ∨ k = 8 ∨ k = 12)) ∨ a = 7 ∨ a = 8 ∨ (11 ≤ a ∧ a ≤ 28) ∨ a = 30 ∨ (53 ≤ a ∧ a ≤ 91) ∨ (94 ≤ a ∧ a ≤ 172) ∨ (a = 367 ∧ (k = 0 ∨ (82 ≤ k ∧ k ≤ 84))) ∨ XPb a k ∨ (416 ≤ a ∧ a ≤ 418)
/-- a new stream of the reference -/
theorem md_newY {X : Nat → Int → Prop} {B : ms} {f : Int} {o : Nat} {w : Wt} (hX2 : ∀ a k, X a k → a ≠ 4 ∧ (a < 343 ∨ 366 < a) ∧ a ≠ 369 ∧ a ≠ 370 ∧ a ≠ 371) (hS : RS S) (hF : FR S f) (hf : f ≤ 12) (hw : 0 ≤ w.1 ∧ wtO w) (hc : w.1 ≤ 12000) (hB : MWt B w) (h4 : B.1 4 f = 1 ∧ B.1 (sR f) 1 = w.1 ∧ ∀ k : Int, 0 ≤ k → k < w.1 → B.1 (sR f + 1) k = w.2 k) (e2 : B.2.2 = (wR S 10 2 o).2.2) (c2 : ∀ (a : Nat) (k : Int), ¬ X a k → a ≠ sR f → a ≠ sR f + 1 → ¬ (a = 4 ∧ k = f) → B.1 a k = S.1 a k) : ∃ T, EV q 328 0 [some (.ref 367), some (.ref 374), some (vI 0), some (vI w.1), none, none] [] B (some (vI f)) T ∧ PY X S T ∧ ∀ (a : Nat) (k : Int), a ≠ 369 → a ≠ 370 → a ≠ 371 → T.1 a k = B.1 a k := by
  obtain ⟨f1, f2, f3⟩ := id hF
  have rg := sR_rg f1.1 hf
  have e4 : ∀ k : Int, 1 ≤ k → k ≤ 12 → B.1 371 k = S.1 4 k := fun k k1 k2 => by
    rw [c2 371 k (fun y => (hX2 _ _ y).2.2.2.2 rfl) (by omega) (by omega) (by omega)]
    exact (hS k k1 k2).2.1
  obtain ⟨n, hn⟩ : ∃ n, n = w.1 := ⟨_, rfl⟩
  have new := md_new (q := q) (T := B) (c := 374) (n1 := 30000) (fr := 0) (n := n) hF hf e4 rfl (by decide) (by decide) (by decide) (by omega) (by omega) (by omega)
  obtain ⟨T, eT⟩ : ∃ T, T = wC (wI (wI B 371 f 1) 370 f n) 369 (12000 * f) n (fun k => b8 ((wI (wI B 371 f 1) 370 f n).1 374 (0 + k))) := ⟨_, rfl⟩
  rw [← eT] at new
  have key : ∀ (a : Nat) (k : Int), T.1 a k = if a = 369 ∧ 12000 * f ≤ k ∧ k < 12000 * f + n then b8 ((wI (wI B 371 f 1) 370 f n).1 374 (0 + (k - 12000 * f))) else if a = 370 ∧ k = f then n else if a = 371 ∧ k = f then 1 else B.1 a k := fun _ _ => by rw [eT]; rfl
  have far : ∀ (a : Nat) (k : Int), a ≠ 369 → a ≠ 370 → a ≠ 371 → T.1 a k = B.1 a k := fun a k y0 y1 y2 => by rw [key, if_neg (by omega), if_neg (by omega), if_neg (by omega)]
  refine ⟨T, by rw [← hn]; exact new, ⟨f, o, ⟨hF, hf⟩, Or.inr ⟨n, w.2, ⟨⟨f1.1, hf⟩, by omega, fun k _ _ => hw.2 k⟩, by rw [eT]; exact e2, ⟨?_, ?_, fun k k0 kn => ?_⟩, ⟨?_, ?_, fun k k0 kn => ?_⟩, fun a k hn' e1 e2' e3 e4' e5 e6 => ?_⟩⟩, far⟩
  · rw [far 4 f (by decide) (by decide) (by decide)]; exact h4.1
  · rw [far _ _ (by omega) (by omega) (by omega), hn]; exact h4.2.1
  · rw [far _ _ (by omega) (by omega) (by omega)]; exact h4.2.2 k k0 (by omega)
  · rw [key, if_neg (by omega), if_neg (by omega), if_pos ⟨rfl, rfl⟩]
  · rw [key, if_neg (by omega), if_pos ⟨rfl, rfl⟩]
  · rw [key, if_pos ⟨rfl, by omega, by omega⟩, show 0 + (12000 * f + k - 12000 * f) = k by omega, rI_I, if_neg (by omega), rI_I, if_neg (by omega), hB.2 k k0 (by omega) (by omega), b8_of (b8_rg _)]
  · rw [key, if_neg (fun z => e6 ⟨z.1, z.2.1, by omega⟩), if_neg e5, if_neg e4', c2 a k hn' e1 e2' e3]
    rfl
end PackOp
