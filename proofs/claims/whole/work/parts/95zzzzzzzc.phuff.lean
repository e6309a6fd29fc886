/-! pack: own codes; how a round of the reference begins -/
section PIniM
variable {q : Nat × (Nat → Int32)} {n : Nat} {c : Nat → Int}
def Rh0 (B : ms) (c : Nat → Int) (a4 s : Nat) : Prop := ∀ t : Nat, t < s → B.2.1 376 t = c t ∧ B.1 377 t = -1 ∧ B.1 a4 t = 0
theorem md_h0 {a1 na1 a4 na4 : Nat} {x3 x6 : Int} (s1 : SH a1 = (0, na1, [])) (s4 : SH a4 = (0, na4, [])) (h4 : a4 ≠ 377 ∧ n ≤ na4 ∧ na4 < 100000) (hn : n ≤ 288) (hr : ∀ s : Nat, s < n → 0 ≤ c s ∧ c s < 100000000) : ∀ (v s : Nat) (B : ms), s + v = n → (∀ t : Nat, t < n → B.2.1 378 t = c t) → Rh0 B c a4 s → ∃ B', EY (fun a _ => a = 377 ∨ a = a4) B B' ∧ (∀ t : Nat, t < n → B'.2.1 378 t = c t) ∧ Rh0 B' c a4 n ∧ ∀ (R : Option Value) (T : ms), EV q 299 115 [some (.ref 367), some (.ref a1), some (vI n), some (vI x3), some (.ref a4), some (vI 0), some (vI x6), some (vI (pcF c n)), some (vI n), some (vI 1), none, none] [] B' R T → EV q 299 44 [some (.ref 367), some (.ref a1), some (vI n), some (vI x3), some (.ref a4), some (vI 0), some (vI x6), some (vI (pcF c s)), some (vI s), none, none, none] [] B R T := by
  have wn : Unit → w32 (n : Int) = n := fun _ => w32_of (by omega)
  have w0 : w64 0 = 0 := by decide
  intro v
  induction v with
  | zero =>
    intro s B hs h8 h0
    have e : s = n := by omega
    subst e
    exact ⟨B, EY.refl _ B, h8, h0, fun R T k => vc_MD_lengthsBy_44 _ _ _ _ _ _ _ _ s1 _ _ s4 (cY (Int.le_refl _) k)⟩
  | succ v ih =>
    intro s B hs h8 h0
    have ws : Unit → w32 (s : Int) = s := fun _ => w32_of (by omega)
    have cs := hr s (by omega)
    obtain ⟨B1, e1⟩ : ∃ B1, B1 = wI (wI (wJ B 376 s (c s)) 377 s (-1)) a4 s 0 := ⟨_, rfl⟩
    have j1 : ∀ t : Nat, B1.2.1 378 t = B.2.1 378 t := fun t => by
      rw [e1]
      show (wJ B 376 s (c s)).2.1 378 t = _
      rw [wJ_no _ (by omega)]
    have j2 : ∀ t : Nat, B1.2.1 376 t = if t = s then c s else B.2.1 376 t := fun t => by
      rw [e1]
      show (wJ B 376 s (c s)).2.1 376 t = _
      by_cases d : t = s
      · rw [d, wJ_at, if_pos rfl]
      · rw [wJ_no _ (by omega), if_neg d]
    obtain ⟨B', g1, g2, g3, g4⟩ := ih (s + 1) B1 (by omega) (fun t ht => by rw [j1]; exact h8 t ht) (fun t ht => by
      rw [j2]
      by_cases d : t = s
      · rw [if_pos d, d]
        exact ⟨rfl, by rw [e1, wI_no _ (by omega), wI_at], by rw [e1, wI_at]⟩
      · rw [if_neg d, e1, wI_no _ (by omega), wI_no _ (by omega), wI_no _ (by omega)]
        obtain ⟨y1, y2, y3⟩ := h0 t (by omega)
        refine ⟨y1, y2, ?_⟩
        by_cases d4 : a4 = 377 ∧ (t : Int) = s
        · exact absurd d4.1 h4.1
        · rw [wI_no _ d4]
          exact y3)
    refine ⟨B', EY.trans ⟨by rw [e1]; rfl, fun a k y => by rw [e1, wI_no _ (fun z => y (Or.inr z.1)), wI_no _ (fun z => y (Or.inl z.1))]; rfl⟩ g1, g2, g3, fun R T k => vc_MD_lengthsBy_44 _ _ _ _ _ _ _ _ s1 _ _ s4 ?_⟩
    have g5 := g4 R T k
    rw [pcF_s, show ((s + 1 : Nat) : Int) = (s : Int) + 1 by omega] at g5
    rw [wn (), ws (), h8 s (by omega)]
    refine cNo (by omega) ⟨by omega, by omega, fun S3 q3 => ⟨by omega, fun S5 q5 => ⟨by omega, ?_⟩⟩⟩
    have e8 : S5.2.1 378 s = c s := by
      rw [q5, q3]
      show (wJ B 376 s (c s)).2.1 378 s = _
      rw [wJ_no _ (by omega)]
      exact h8 s (by omega)
    have k91 : ∀ y0 : Int, (y0 = if 0 < c s then 1 else 0) → EV q 299 91 [some (.ref 367), some (.ref a1), some (vI n), some (vI x3), some (.ref a4), some (vI 0), some (vI x6), some (vI (pcF c s)), some (vI s), none, none, none] [vI y0, vI (pcF c s)] S5 R T := fun y0 hy => by
      refine vc_MD_lengthsBy_91 _ _ _ _ _ _ _ _ _ _ s1 _ _ s4 ?_
      rw [show (0 : Int) + (s : Int) = s by omega, ws ()]
      refine ⟨by omega, fun S2 q2 => ?_⟩
      have e2 : S2 = B1 := by rw [q2, q5, q3, e1]
      rw [e2]
      have ey : (pcF c s : Int) + y0 = ((pcF c s + if 0 < c s then 1 else 0 : Nat) : Int) := by
        rw [hy]
        split <;> omega
      rw [ey]
      exact g5
    rw [e8, w64_of (x := c s) (by omega), w0]
    by_cases d : c s ≤ 0
    · exact cY d (k91 0 (by rw [if_neg (by omega)]))
    · exact cNo d (k91 1 (by rw [if_pos (by omega)]))
theorem RfH_ini {B : ms} {m a4 : Nat} {od U : Nat → Nat} {W : Nat → Int} (hO : OLv n m od c) (hr : ∀ s : Nat, s < n → 0 ≤ c s ∧ c s < 100000000) (hW : ∀ i : Nat, i < m → W i = c (od i)) (h8 : ∀ t : Nat, t < n → B.2.1 378 t = c t) (h0 : Rh0 B c a4 n) : RfH B n m 0 m m od c W U := by
  refine ⟨fun s hs => ⟨hr s hs, h8 s hs, fun y => ⟨by rw [(h0 s hs).1, y], (h0 s hs).2.1⟩⟩, fun i hi => ?_⟩
  have o1 := (hO.1 i hi).1
  rw [rI_l hi]
  exact ⟨by rw [(h0 (od i) o1).1, hW i hi], fun _ => (h0 (od i) o1).2.1, fun y => absurd (Or.inl ⟨by omega, hi⟩) y⟩
end PIniM
