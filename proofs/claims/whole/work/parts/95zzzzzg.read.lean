/-! read: a BOX's rows, the reference -/
section ReaG
variable {q : Nat × (Nat → Int32)} {x : Int} {t : Int → Int}
/-- a row that is none -/
theorem md_bxNo {S B : ms} {r L x2 x4 x7 : Int} {st : Rd} (hx : 0 ≤ x ∧ x ≤ 6000) (hL : L + 22 = x) (r0 : 0 ≤ r ∧ r < 100000) (hA1 : ¬ bxA t r L) (hk : ¬ w64 x2 ≤ w64 x7) (hr : rdR x st) (c0 : st.1 = 0) (hT : TM S x t) (hB : MWl S B st) : ∃ B1, MWl S B1 (rdTellAt 122 r st) ∧ EV q 400 161 [some (.ref 367), some (vI L), some (vL x2), none, some (vL x4), none, some (vI r), some (vL x7), none, none, none, none, none, none] [] B none B1 := by
  have hTB : TM B x t := fun k k0 k1 => ⟨(hT k k0 k1).1, by rw [hB.2.2.2 368 k (by omega) (by omega)]; exact (hT k k0 k1).2⟩
  have ht : ∀ k : Int, 0 ≤ k → k < x → 0 ≤ t k ∧ t k < 256 := fun k k0 k1 => (hT k k0 k1).1
  have kf := mt_fine (q := q) hr hB
  rw [if_pos c0] at kf
  obtain ⟨B1, m1, m2⟩ := mt_tellAt (q := q) (k := 122) (p := r) hr hB
  have k236 : ∀ x9 : Int, EV q 400 236 [some (.ref 367), some (vI L), some (vL x2), none, some (vL x4), none, some (vI r), some (vL x7), none, some (vI x9), none, none, none, none] [] B none B1 := fun x9 => vc_MD_readBox_236 _ _ _ _ _ _ ⟨B1, m1, rfl, rfl⟩
  have wLr : w32 (L - r) = L - r := w32_of (by omega)
  refine ⟨B1, m2, vc_MD_readBox_161 _ _ _ _ _ (cNo hk ⟨1, B, kf, cNo (by decide) ?_⟩)⟩
  rw [wLr]
  by_cases c1 : 46 ≤ L - r
  case neg =>
    refine cNo c1 (vc_MD_readBox_199 _ _ _ _ _ _ ?_)
    rw [wLr]
    exact cY (by omega) (k236 _)
  have l2 := low2_r (t := t) (x := x) (p := r + 28) (by omega) ht
  have l4 := low4_r (t := t) (x := x) (p := r) (by omega) ht
  refine cY c1 ⟨_, B, mn_low (p := r + 28) (n := 2) (by omega) (by omega) hx.2 hTB, vc_MD_readBox_199 _ _ _ _ _ _ ?_⟩
  rw [wLr]
  refine cNo (by omega) ⟨_, B, mn_low (p := r) (n := 4) r0.1 (by omega) hx.2 hTB, ?_⟩
  rw [w64_of (x := lowV t r 4) (by omega), show w64 33639248 = 33639248 by decide]
  by_cases c2 : lowV t r 4 = 33639248
  case neg => exact cY c2 (k236 _)
  refine cNN c2 ?_
  rw [w32_of (x := lowV t (r + 28) 2) (by omega), w32_of (x := L - r - 46) (by omega)]
  exact cNo (fun y => hA1 ⟨by omega, c2, by omega⟩) (k236 _)
theorem md_bxRow {S B : ms} {n u : Nat} {r L x2 x4 x7 : Int} {st : Rd} (hx : 0 ≤ x ∧ x ≤ 6000) (hL : L + 22 = x) (r0 : 0 ≤ r) (hA1 : bxA t r L) (hn : lowV t (r + 28) 2 = n) (hu : upR t (r + 46) n u) (ku : ∀ B : ms, TM B x t → EV q 395 0 [some (.ref 367), some (vI (r + 46)), some (vI n), none] [] B (some (vI u)) B) (hk : ¬ w64 x2 ≤ w64 x7) (hr : rdR x st) (c0 : st.1 = 0) (hT : TM S x t) (hB : MWl S B st) : ((bxF t r n u st).1 ≠ 0 → ∃ B1, MWl S B1 (bxF t r n u st) ∧ EV q 400 161 [some (.ref 367), some (vI L), some (vL x2), none, some (vL x4), none, some (vI r), some (vL x7), none, none, none, none, none, none] [] B none B1) ∧ ((bxF t r n u st).1 = 0 → bxF t r n u st = st ∧ ∀ (R : Option Value) (T : ms), (∃ S1 : ms, EV q 402 0 [some (.ref 367), some (vI r), some (vI x4), some (vI n), none, none, none, none, none, none, none, none, none, none, none, none, none] [] B none S1 ∧ EV q 400 161 [some (.ref 367), some (vI L), some (vL x2), none, some (vL x4), none, some (vI (r + (46 + n))), some (vL (x7 + 1)), none, none, none, none, none, none] [] S1 R T) → EV q 400 161 [some (.ref 367), some (vI L), some (vL x2), none, some (vL x4), none, some (vI r), some (vL x7), none, none, none, none, none, none] [] B R T) := by
  obtain ⟨a1, a2, a3⟩ := hA1
  rw [hn] at a3
  have hTB : TM B x t := fun k k0 k1 => ⟨(hT k k0 k1).1, by rw [hB.2.2.2 368 k (by omega) (by omega)]; exact (hT k k0 k1).2⟩
  have ht : ∀ k : Int, 0 ≤ k → k < x → 0 ≤ t k ∧ t k < 256 := fun k k0 k1 => (hT k k0 k1).1
  have kf := mt_fine (q := q) hr hB
  rw [if_pos c0] at kf
  have wLr : w32 (L - r) = L - r := w32_of (by omega)
  have wn : Unit → w32 ((n : Nat) : Int) = n := fun _ => w32_of (by omega)
  have wu : Unit → w32 ((u : Nat) : Int) = u := fun _ => w32_of (by have := hu.1; omega)
  have w0 : w64 0 = 0 := by decide
  have wl2 : ∀ k : Int, 0 ≤ k → k + 2 ≤ x → w64 (lowV t k 2) = lowV t k 2 := fun k k0 k1 => w64_of (by have := low2_r (t := t) (x := x) (p := k) (by omega) ht; omega)
  have wl4 : ∀ k : Int, 0 ≤ k → k + 4 ≤ x → w64 (lowV t k 4) = lowV t k 4 := fun k k0 k1 => w64_of (by have := low4_r (t := t) (x := x) (p := k) (by omega) ht; omega)
  obtain ⟨M, eM⟩ : ∃ M : Int, M = lowV t (r + 10) 2 := ⟨_, rfl⟩
  have wM : w64 M = M := by rw [eM]; exact wl2 (r + 10) (by omega) (by omega)
  -- as far as the flags, with 1 where 123 is told for them
  have odd : ∀ (R : Option Value) (T : ms), (∀ y0 : Int, (y0 = 0 ∨ y0 = 1) → (y0 = 0 ↔ lowV t (r + 8) 2 = 0 ∧ w64 (lowV t (r + 30) 8) = 0 ∧ lowV t (r + 38) 2 = 0 ∧ lowV t (r + 40) 2 ≤ 511 ∧ lowV t (r + 12) 4 ≤ 2147483647) → EV q 400 342 [some (.ref 367), some (vI L), some (vL x2), none, some (vL x4), none, some (vI r), some (vL x7), none, some (vI n), some (vL M), none, none, none] [vI y0] B R T) → EV q 400 161 [some (.ref 367), some (vI L), some (vL x2), none, some (vL x4), none, some (vI r), some (vL x7), none, none, none, none, none, none] [] B R T := by
    intro R T y
    have kl := mn_low (q := q) (p := r + 28) (n := 2) (by omega) (by omega) hx.2 hTB
    rw [hn] at kl
    refine vc_MD_readBox_161 _ _ _ _ _ (cNo hk ⟨1, B, kf, cNo (by decide) ?_⟩)
    rw [wLr]
    refine cY (by omega) ⟨_, B, kl, vc_MD_readBox_199 _ _ _ _ _ _ ?_⟩
    rw [wLr]
    refine cNo (by omega) ⟨_, B, mn_low (p := r) (n := 4) r0 (by omega) hx.2 hTB, ?_⟩
    rw [wl4 r r0 (by omega), show w64 33639248 = 33639248 by decide, wn (), w32_of (x := L - r - 46) (by omega)]
    have km := mn_low (q := q) (p := r + 10) (n := 2) (by omega) (by omega) hx.2 hTB
    rw [← eM] at km
    refine cNN a2 (cY (by omega) ⟨_, B, km, _, B, mn_low (p := r + 8) (n := 2) (by omega) (by omega) hx.2 hTB, ?_⟩)
    have y337 : ¬ (lowV t (r + 8) 2 = 0 ∧ w64 (lowV t (r + 30) 8) = 0 ∧ lowV t (r + 38) 2 = 0 ∧ lowV t (r + 40) 2 ≤ 511 ∧ lowV t (r + 12) 4 ≤ 2147483647) → EV q 400 337 [some (.ref 367), some (vI L), some (vL x2), none, some (vL x4), none, some (vI r), some (vL x7), none, some (vI n), some (vL M), none, none, none] [] B R T := fun h => vc_MD_readBox_337 _ _ _ _ _ _ _ (y 1 (Or.inr rfl) ⟨fun z => absurd z (by decide), fun z => absurd z h⟩)
    rw [wl2 (r + 8) (by omega) (by omega), w0]
    by_cases d1 : lowV t (r + 8) 2 = 0
    case neg => exact cY d1 (y337 (fun z => d1 z.1))
    refine cNN d1 ⟨_, B, mn_low (p := r + 30) (n := 8) (by omega) (by omega) hx.2 hTB, ?_⟩
    by_cases d2 : w64 (lowV t (r + 30) 8) = 0
    case neg => exact cY d2 (y337 (fun z => d2 z.2.1))
    refine cNN d2 ⟨_, B, mn_low (p := r + 38) (n := 2) (by omega) (by omega) hx.2 hTB, ?_⟩
    rw [wl2 (r + 38) (by omega) (by omega)]
    by_cases d3 : lowV t (r + 38) 2 = 0
    case neg => exact cY d3 (y337 (fun z => d3 z.2.2.1))
    refine cNN d3 ⟨_, B, mn_low (p := r + 40) (n := 2) (by omega) (by omega) hx.2 hTB, ?_⟩
    rw [wl2 (r + 40) (by omega) (by omega), show w64 511 = 511 by decide]
    by_cases d4 : lowV t (r + 40) 2 ≤ 511
    case neg => exact cY (by omega) (y337 (fun z => d4 z.2.2.2.1))
    refine cNo (by omega) ⟨_, B, mn_low (p := r + 12) (n := 4) (by omega) (by omega) hx.2 hTB, ?_⟩
    rw [wl4 (r + 12) (by omega) (by omega), show w64 2147483647 = 2147483647 by decide]
    by_cases d5 : lowV t (r + 12) 4 ≤ 2147483647
    · exact cY d5 (y 0 (Or.inl rfl) ⟨fun _ => ⟨d1, d2, d3, d4, d5⟩, fun _ => rfl⟩)
    · exact cNo d5 (y337 (fun z => d5 z.2.2.2.2))
  -- a rule told in 426
  have told : ∀ (k : Int), (1 ≤ k ∧ k < 1000) → bxF t r n u st = rdTellAt k r st → ((∀ B1 : ms, EV q 335 0 [some (.ref 367), some (vI k), some (vI r)] [] B none B1 → ∀ x12 : Int, EV q 400 426 [some (.ref 367), some (vI L), some (vL x2), none, some (vL x4), none, some (vI r), some (vL x7), none, some (vI n), some (vL M), none, some (vI x12), none] [vI k] B none B1) → ∀ B1 : ms, EV q 335 0 [some (.ref 367), some (vI k), some (vI r)] [] B none B1 → EV q 400 161 [some (.ref 367), some (vI L), some (vL x2), none, some (vL x4), none, some (vI r), some (vL x7), none, none, none, none, none, none] [] B none B1) → ∃ B1, MWl S B1 (bxF t r n u st) ∧ EV q 400 161 [some (.ref 367), some (vI L), some (vL x2), none, some (vL x4), none, some (vI r), some (vL x7), none, none, none, none, none, none] [] B none B1 := by
    intro k hk' et h3
    obtain ⟨B1, m1, m2⟩ := mt_tellAt (q := q) (k := k) (p := r) hr hB
    rw [← et] at m2
    refine ⟨B1, m2, h3 (fun B1 m x12 => vc_MD_readBox_426 _ _ _ _ _ _ _ _ _ ?_) B1 m1⟩
    rw [w32_of (x := k) (by omega)]
    exact cNo (by omega) ⟨B1, m, rfl, rfl⟩
  have bxBe : bxB t r ↔ (M = 0 ∨ M = 8) ∧ (lowV t (r + 8) 2 = 0 ∧ w64 (lowV t (r + 30) 8) = 0 ∧ lowV t (r + 38) 2 = 0 ∧ lowV t (r + 40) 2 ≤ 511 ∧ lowV t (r + 12) 4 ≤ 2147483647) := by rw [eM]
  have c342 : ∀ (y0 : Int) (R : Option Value) (T : ms), (y0 = 0 ∨ y0 = 1) → (((M = 0 ∨ M = 8) ∧ y0 = 0) → EV q 400 360 [some (.ref 367), some (vI L), some (vL x2), none, some (vL x4), none, some (vI r), some (vL x7), none, some (vI n), some (vL M), none, some (vI 0), none] [] B R T) → (¬ ((M = 0 ∨ M = 8) ∧ y0 = 0) → ∀ x12 : Int, EV q 400 426 [some (.ref 367), some (vI L), some (vL x2), none, some (vL x4), none, some (vI r), some (vL x7), none, some (vI n), some (vL M), none, some (vI x12), none] [vI 123] B R T) → EV q 400 342 [some (.ref 367), some (vI L), some (vL x2), none, some (vL x4), none, some (vI r), some (vL x7), none, some (vI n), some (vL M), none, none, none] [vI y0] B R T := by
    intro y0 R T hy h1 h2
    refine vc_MD_readBox_342 _ _ _ _ _ _ _ _ ?_
    have k365 : ¬ ((M = 0 ∨ M = 8) ∧ y0 = 0) → EV q 400 365 [some (.ref 367), some (vI L), some (vL x2), none, some (vL x4), none, some (vI r), some (vL x7), none, some (vI n), some (vL M), none, some (vI y0), none] [] B R T := fun h => vc_MD_readBox_365 _ _ _ _ _ _ _ _ (h2 h y0)
    have k360 : (M = 0 ∨ M = 8) → EV q 400 360 [some (.ref 367), some (vI L), some (vL x2), none, some (vL x4), none, some (vI r), some (vL x7), none, some (vI n), some (vL M), none, some (vI y0), none] [] B R T := by
      intro hm
      rcases hy with rfl | rfl
      · exact h1 ⟨hm, rfl⟩
      · exact vc_MD_readBox_360 _ _ _ _ _ _ _ _ (cNo (by decide) (k365 (fun z => absurd z.2 (by decide))))
    rw [wM, w0, show w64 8 = 8 by decide]
    by_cases m0 : M = 0
    · exact cY m0 (k360 (Or.inl m0))
    · refine cNo m0 ?_
      by_cases m8 : M = 8
      · exact cNN m8 (k360 (Or.inr m8))
      · exact cY m8 (k365 (fun z => z.1.elim m0 m8))
  by_cases cB : bxB t r
  case neg =>
    have et : bxF t r n u st = rdTellAt 123 r st := by
      unfold bxF
      have t1 := @rdTellAt_1 123 r st (by decide)
      rw [tl_n (c := bxB t r) cB, tl_told t1, tl_told t1]
    have ct : (bxF t r n u st).1 ≠ 0 := by rw [et]; exact rdTellAt_1 (by decide)
    refine ⟨fun _ => told 123 (by decide) et (fun h B1 m => odd _ _ (fun y0 hy hyy => c342 y0 _ _ hy (fun z => absurd (bxBe.2 ⟨z.1, hyy.1 z.2⟩) cB) (fun _ x12 => h B1 m x12))), fun y => absurd y ct⟩
  have hm := (bxBe.1 cB).1
  have hf := (bxBe.1 cB).2
  have p360 : ∀ (R : Option Value) (T : ms), EV q 400 360 [some (.ref 367), some (vI L), some (vL x2), none, some (vL x4), none, some (vI r), some (vL x7), none, some (vI n), some (vL M), none, some (vI 0), none] [] B R T → EV q 400 161 [some (.ref 367), some (vI L), some (vL x2), none, some (vL x4), none, some (vI r), some (vL x7), none, none, none, none, none, none] [] B R T := fun R T k => odd R T (fun y0 hy hyy => c342 y0 R T hy (fun _ => k) (fun z => absurd ⟨hm, hyy.2 hf⟩ z))
  have hu1 := hu.1
  by_cases cC : bxC n u
  case neg =>
    have et : bxF t r n u st = rdTellAt 103 r st := by
      unfold bxF
      have t1 := @rdTellAt_1 103 r st (by decide)
      rw [tl_y (c := bxB t r) cB, tl_n (c := bxC n u) cC, tl_told t1]
    have ct : (bxF t r n u st).1 ≠ 0 := by rw [et]; exact rdTellAt_1 (by decide)
    refine ⟨fun _ => told 103 (by decide) et (fun h B1 m => p360 _ _ (vc_MD_readBox_360 _ _ _ _ _ _ _ _ (cY (by decide) ?_))), fun y => absurd y ct⟩
    have k398 := vc_MD_readBox_398 (q := q) L x2 x4 r x7 n M 0 (h B1 m 0)
    rw [wn ()]
    by_cases z1 : (n : Int) = 0
    · exact cY z1 k398
    · refine cNo z1 ?_
      by_cases z2 : 100 < (n : Int)
      · exact cY z2 k398
      · refine cNo z2 ⟨u, B, ku B hTB, ?_⟩
        rw [wu ()]
        exact cNo (fun z => cC ⟨by omega, by omega, by omega⟩) k398
  have q360 : ∀ (y0 : Int) (R : Option Value) (T : ms), (y0 = if lowV t (r + 24) 4 ≤ 6000 then 0 else 104) → EV q 400 426 [some (.ref 367), some (vI L), some (vL x2), none, some (vL x4), none, some (vI r), some (vL x7), none, some (vI n), some (vL M), none, some (vI 0), none] [vI y0] B R T → EV q 400 161 [some (.ref 367), some (vI L), some (vL x2), none, some (vL x4), none, some (vI r), some (vL x7), none, none, none, none, none, none] [] B R T := by
    intro y0 R T hy k
    refine p360 _ _ (vc_MD_readBox_360 _ _ _ _ _ _ _ _ (cY (by decide) ?_))
    rw [wn ()]
    refine cNo (by have := cC.1; omega) (cNo (by have := cC.2.1; omega) ⟨u, B, ku B hTB, ?_⟩)
    rw [wu ()]
    refine cY (by have := cC.2.2; omega) ⟨_, B, mn_low (p := r + 24) (n := 4) (by omega) (by omega) hx.2 hTB, ?_⟩
    rw [wl4 (r + 24) (by omega) (by omega), show w64 6000 = 6000 by decide]
    by_cases z : lowV t (r + 24) 4 ≤ 6000
    · rw [if_pos z] at hy; rw [hy] at k; exact cY z k
    · rw [if_neg z] at hy; rw [hy] at k; exact cNo z k
  by_cases cD : lowV t (r + 24) 4 ≤ 6000
  case neg =>
    have et : bxF t r n u st = rdTellAt 104 r st := by
      unfold bxF
      rw [tl_y (c := bxB t r) cB, tl_y (c := bxC n u) cC, tl_n cD]
    have ct : (bxF t r n u st).1 ≠ 0 := by rw [et]; exact rdTellAt_1 (by decide)
    exact ⟨fun _ => told 104 (by decide) et (fun h B1 m => q360 104 _ _ (by rw [if_neg cD]) (h B1 m 0)), fun y => absurd y ct⟩
  have et : bxF t r n u st = st := by
    unfold bxF
    rw [tl_y (c := bxB t r) cB, tl_y (c := bxC n u) cC, tl_y cD]
  refine ⟨fun y => absurd (by rw [et]; exact c0) y, fun _ => ⟨et, fun R T ⟨S1, k1, k2⟩ => q360 0 R T (by rw [if_pos cD]) (vc_MD_readBox_426 _ _ _ _ _ _ _ _ _ (cY (by decide) ⟨S1, k1, k2⟩))⟩⟩
end ReaG
