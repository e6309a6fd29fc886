/-! read: a BOX's rows, both sides -/
section ReaF
variable {q : Nat × (Nat → Int32)} {x : Int} {t : Int → Int}
abbrev bxA (t : Int → Int) (r L : Int) : Prop := r ≤ L - 46 ∧ lowV t r 4 = 33639248 ∧ lowV t (r + 28) 2 ≤ L - 46 - r
abbrev bxB (t : Int → Int) (r : Int) : Prop := (lowV t (r + 10) 2 = 0 ∨ lowV t (r + 10) 2 = 8) ∧ lowV t (r + 8) 2 = 0 ∧ w64 (lowV t (r + 30) 8) = 0 ∧ lowV t (r + 38) 2 = 0 ∧ lowV t (r + 40) 2 ≤ 511 ∧ lowV t (r + 12) 4 ≤ 2147483647
abbrev bxC (n u : Nat) : Prop := n ≠ 0 ∧ n ≤ 100 ∧ u = n
def bxF (t : Int → Int) (r : Int) (n u : Nat) (st : Rd) : Rd := tl (lowV t (r + 24) 4 ≤ 6000) 104 r (tl (bxC n u) 103 r (tl (bxB t r) 123 r st))
theorem rdTellAt_2 {k k' p p' : Int} {st : Rd} (hk : k ≠ 0) : rdTellAt k' p' (rdTellAt k p st) = rdTellAt k p st := by
  have h := @rdTellAt_1 k p st hk
  unfold rdTellAt at h ⊢
  rw [if_pos h]
theorem sp_bxRow {sh n u : Nat} {r L : Int} {st : Rd} {S A : ms} (hs : isSh sh) (hx : 0 ≤ x ∧ x ≤ 6000) (hL : L + 22 = x) (r0 : 0 ≤ r) (hA1 : bxA t r L) (hn : lowV t (r + 28) 2 = n) (hu : upR t (r + 46) n u) (hr : rdR x st) (hT : TC S x t) (hA : CW S A x st) : ∃ S1 A1, EX (fun a _ => a = sh + 5 ∨ a = sh + 6) S S1 ∧ CW S1 A1 x (bxF t r n u st) ∧ LabC S1 (sh + 5) n (fun k => t (r + 46 + k)) ∧ EV q 205 0 [some (.ref sh), some (.ref 9), some (vI r), some (vI L), none, none, none, none, none] [] A none A1 := by
  have hsl := isSh_is hs
  have hsr : sh = 193 ∨ sh = 268 := hs
  obtain ⟨a1, a2, a3⟩ := hA1
  rw [hn] at a3
  have ht : ∀ k : Int, 0 ≤ k → k < x → 0 ≤ t k ∧ t k < 256 := fun k k0 k1 => (hT k k0 k1).1
  have tcA : ∀ (S A : ms) (st : Rd), TC S x t → CW S A x st → TC A x t := fun S A st hT hA k k0 k1 => ⟨(hT k k0 k1).1, by rw [hA.2.2.2 2 k (by omega) (by omega) (by omega)]; exact (hT k k0 k1).2⟩
  have wl2 : ∀ k : Int, 0 ≤ k → k + 2 ≤ x → w64 (lowV t k 2) = lowV t k 2 := fun k k0 k1 => w64_of (by have := low2_r (t := t) (x := x) (p := k) (by omega) ht; omega)
  have wl4 : ∀ k : Int, 0 ≤ k → k + 4 ≤ x → w64 (lowV t k 4) = lowV t k 4 := fun k k0 k1 => w64_of (by have := low4_r (t := t) (x := x) (p := k) (by omega) ht; omega)
  have w0 : w64 0 = 0 := by decide
  obtain ⟨s1, e1⟩ : ∃ s : Rd, s = tl (bxB t r) 123 r st := ⟨_, rfl⟩
  have r1 : rdR x s1 := by rw [e1]; exact tl_r hr (by decide)
  obtain ⟨s2, e2⟩ : ∃ s : Rd, s = tl (bxC n u) 103 r s1 := ⟨_, rfl⟩
  have r2 : rdR x s2 := by rw [e2]; exact tl_r r1 (by decide)
  obtain ⟨s3, e3⟩ : ∃ s : Rd, s = tl (lowV t (r + 24) 4 ≤ 6000) 104 r s2 := ⟨_, rfl⟩
  have ef : bxF t r n u st = s3 := by rw [e3, e2, e1]; rfl
  rw [ef]
  obtain ⟨A1, g1, g2⟩ := gWa (q := q) (c := bxB t r) (k := 123) (p := r) hr hA
  rw [← e1] at g1
  -- the label
  have wn : Unit → w32 ((n : Nat) : Int) = n := fun _ => w32_of (by omega)
  have hT1 := tcA S A1 s1 hT g1
  obtain ⟨c1, c2, c3⟩ := lab_clr (q := q) (A := A1) (b5_row hs) (fun k => t (r + 46 + k))
  obtain ⟨S0, m1, m2, m3⟩ := CW_X (X := fun a _ => a = sh + 5 ∨ a = sh + 6) (fun a k y => by omega) g1 c2
  have lb : ∀ (U V : ms), (∀ a k, a = sh + 5 ∨ a = sh + 6 → U.1 a k = V.1 a k) → ∀ T : Nat, LabC V (sh + 5) T (fun k => t (r + 46 + k)) → LabC U (sh + 5) T (fun k => t (r + 46 + k)) := fun U V h T hl => ⟨by rw [h _ _ (Or.inl rfl)]; exact hl.1, by rw [h _ _ (Or.inl rfl)]; exact hl.2.1, fun k k0 k1 => by rw [h _ _ (Or.inr rfl)]; exact hl.2.2 k k0 k1⟩
  have lp : ∀ (d i : Nat) (U B : ms), i + d = n → TC U x t → LabC U (sh + 5) i (fun k => t (r + 46 + k)) → CW U B x (tl (i ≤ u) 103 r s1) → ∃ U1 B1, EX (fun a _ => a = sh + 5 ∨ a = sh + 6) U U1 ∧ LabC U1 (sh + 5) n (fun k => t (r + 46 + k)) ∧ CW U1 B1 x (tl (n ≤ u) 103 r s1) ∧ ∀ (x5 : Int) (R : Option Value) (T : ms), EV q 205 195 [some (.ref sh), some (.ref 9), some (vI r), some (vI L), some (.ref 2), some (vL x5), none, some (vI n), some (vI n)] [] B1 R T → EV q 205 195 [some (.ref sh), some (.ref 9), some (vI r), some (vI L), some (.ref 2), some (vL x5), none, some (vI n), some (vI i)] [] B R T := by
    intro d
    induction d with
    | zero =>
      intro i U B hi hU hl hB
      have e : i = n := by omega
      subst e
      exact ⟨U, B, EX.refl _ U, hl, hB, fun x5 R T k => k⟩
    | succ d ih =>
      intro i U B hi hU hl hB
      have wi : Unit → w32 ((i : Nat) : Int) = i := fun _ => w32_of (by omega)
      have wk : Unit → w32 (r + 46 + (i : Int)) = r + 46 + i := fun _ => w32_of (by omega)
      have ei : ((i + 1 : Nat) : Int) = (i : Int) + 1 := by omega
      have hUB := tcA U B _ hU hB
      have hk := hUB (r + 46 + i) (by omega) (by omega)
      have wt : w32 (t (r + 46 + i)) = t (r + 46 + i) := w32_of (by omega)
      have hlB : LabC B (sh + 5) i (fun k => t (r + 46 + k)) := lb B U (fun a k y => hB.2.2.2 a k (by omega) (by omega) (by omega)) i hl
      obtain ⟨B1, k1, k2, k3⟩ := lab_add (q := q) (b5_row hs) hlB hk.1 (by omega) rfl
      obtain ⟨U1, u1, u2, u3⟩ := CW_X (X := fun a _ => a = sh + 5 ∨ a = sh + 6) (fun a k y => by omega) hB k1
      have hU1 : TC U1 x t := fun k k0 k1 => ⟨(hU k k0 k1).1, by rw [u1.2 2 k (by omega)]; exact (hU k k0 k1).2⟩
      have e2 : B1.1 2 (r + 46 + i) = t (r + 46 + i) := by rw [k1.2 2 _ (by omega)]; exact hk.2
      -- the state behind this octet
      obtain ⟨B2, v1, v2⟩ : ∃ B2, CW U1 B2 x (tl (i + 1 ≤ u) 103 r s1) ∧ ((¬ t (r + 46 + i) = 0 ∧ B2 = B1) ∨ (t (r + 46 + i) = 0 ∧ EV q 126 0 [some (.ref 9), some (vI 103), some (vI r)] [] B1 none B2)) := by
        by_cases c : t (r + 46 + i) = 0
        · have iu : ¬ i + 1 ≤ u := fun y => hu.2.1 i (by omega) c
          obtain ⟨B2, w1, w2⟩ := cw_tellAt (q := q) (k := 103) (p := r) (tl_r r1 (by decide)) u3
          refine ⟨B2, ?_, Or.inr ⟨c, w1⟩⟩
          have e : rdTellAt 103 r (tl (i ≤ u) 103 r s1) = tl (i + 1 ≤ u) 103 r s1 := by
            rw [tl_n iu]
            by_cases y : i ≤ u
            · rw [tl_y y]
            · rw [tl_n y, rdTellAt_2 (by decide)]
          rw [e] at w2
          exact w2
        · refine ⟨B1, ?_, Or.inl ⟨c, rfl⟩⟩
          have e : tl (i ≤ u) 103 r s1 = tl (i + 1 ≤ u) 103 r s1 := by
            by_cases y : i + 1 ≤ u
            · rw [tl_y y, tl_y (show i ≤ u by omega)]
            · have : ¬ i ≤ u := fun z => by
                have ei : i = u := by omega
                exact c (by rw [ei]; exact hu.2.2 (by omega))
              rw [tl_n y, tl_n this]
          rw [← e]
          exact u3
      obtain ⟨U3, B3, p1, p2, p3, p4⟩ := ih (i + 1) U1 B2 (by omega) hU1 (lb U1 B1 u2 _ k2) v1
      refine ⟨U3, B3, EX.trans u1 p1, p2, p3, fun x5 R T k => vc_Shelf_boxRow_195 _ _ _ _ _ sh hsl ?_⟩
      have k9 := p4 x5 R T k
      rw [ei] at k9
      have k239 := vc_Shelf_boxRow_239 (q := q) r L x5 n i sh hsl k9
      rw [wn (), wi (), wk (), hk.2]
      refine cNo (by omega) ⟨by omega, B1, k3, by omega, ?_⟩
      rw [e2, wt]
      rcases v2 with ⟨y1, y2⟩ | ⟨y1, y2⟩
      · rw [y2] at k239; exact cY y1 k239
      · exact cNN y1 ⟨B2, y2, k239⟩
  have hT0 : TC S0 x t := fun k k0 k1 => ⟨(hT k k0 k1).1, by rw [m1.2 2 k (by omega)]; exact (hT k k0 k1).2⟩
  obtain ⟨S2, A2, p1, p2, p3, p4⟩ := lp n 0 S0 (CL A1 (sh + 5)) (by omega) hT0 (lb S0 _ m2 0 c3) (by rw [tl_y (show 0 ≤ u by omega)]; exact m3)
  -- 103 once more
  have hT2 : TC S2 x t := fun k k0 k1 => ⟨(hT k k0 k1).1, by rw [p1.2 2 k (by omega)]; exact (hT0 k k0 k1).2⟩
  obtain ⟨A3, v1, v2⟩ : ∃ A3, CW S2 A3 x s2 ∧ (((n ≠ 0 ∧ n ≤ 100) ∧ A3 = A2) ∨ (¬ (n ≠ 0 ∧ n ≤ 100) ∧ EV q 126 0 [some (.ref 9), some (vI 103), some (vI r)] [] A2 none A3)) := by
    by_cases c : n ≠ 0 ∧ n ≤ 100
    · refine ⟨A2, ?_, Or.inl ⟨c, rfl⟩⟩
      have e : tl (n ≤ u) 103 r s1 = s2 := by
        rw [e2]
        have hu1 := hu.1
        by_cases y : n ≤ u
        · rw [tl_y y, tl_y (c := bxC n u) ⟨c.1, c.2, by omega⟩]
        · rw [tl_n y, tl_n (c := bxC n u) (fun z => y (by rw [z.2.2]; exact Nat.le_refl _))]
      rw [← e]
      exact p3
    · obtain ⟨A3, w1, w2⟩ := cw_tellAt (q := q) (k := 103) (p := r) (tl_r r1 (by decide)) p3
      refine ⟨A3, ?_, Or.inr ⟨c, w1⟩⟩
      have e : rdTellAt 103 r (tl (n ≤ u) 103 r s1) = s2 := by
        rw [e2, tl_n (c := bxC n u) (fun z => c ⟨z.1, z.2.1⟩)]
        by_cases y : n ≤ u
        · rw [tl_y y]
        · rw [tl_n y, rdTellAt_2 (by decide)]
      rw [← e]
      exact w2
  obtain ⟨A4, g5, g6⟩ := gWa (q := q) (c := lowV t (r + 24) 4 ≤ 6000) (k := 104) (p := r) r2 v1
  rw [← e3] at g5
  have hT3 := tcA S2 A3 s2 hT2 v1
  have y267 : ∀ x5 : Int, EV q 205 267 [some (.ref sh), some (.ref 9), some (vI r), some (vI L), some (.ref 2), some (vL x5), none, some (vI n), some (vI n)] [] A3 none A4 := by
    intro x5
    refine vc_Shelf_boxRow_267 _ _ _ _ _ sh hsl ⟨_, A3, cn_low (p := r + 24) (n := 4) (by omega) (by omega) hx.2 hT3, ?_⟩
    rw [wl4 (r + 24) (by omega) (by omega), show w64 6000 = 6000 by decide]
    rcases g6 with ⟨y1, y2⟩ | ⟨y1, y2⟩
    · exact cY y1 ⟨rfl, y2⟩
    · exact cNo y1 ⟨A4, y2, rfl, rfl⟩
  have hl2 : LabC A2 (sh + 5) n (fun k => t (r + 46 + k)) := lb A2 S2 (fun a k y => p3.2.2.2 a k (by omega) (by omega) (by omega)) n p2
  have y195 : ∀ x5 : Int, EV q 205 195 [some (.ref sh), some (.ref 9), some (vI r), some (vI L), some (.ref 2), some (vL x5), none, some (vI n), some (vI n)] [] A2 none A4 := by
    intro x5
    refine vc_Shelf_boxRow_195 _ _ _ _ _ sh hsl (cY (Int.le_refl _) ?_)
    have wov : w32 (A2.1 (sh + 5) 2) = 0 ↔ n ≤ 100 := by
      rw [hl2.2.1]
      by_cases z : n ≤ 100
      · rw [if_pos z]; exact ⟨fun _ => z, fun _ => by decide⟩
      · rw [if_neg z]; exact ⟨fun h => absurd h (by decide), fun h => absurd h z⟩
    rw [wn ()]
    rcases v2 with ⟨y1, y2⟩ | ⟨y1, y2⟩
    · have k := y267 x5
      rw [y2] at k
      exact cNo (by omega) (cY (wov.2 y1.2) k)
    · have k260 := vc_Shelf_boxRow_260 (q := q) r L x5 n n sh hsl ⟨A3, y2, y267 x5⟩
      by_cases z : (n : Int) = 0
      · exact cY z k260
      · exact cNo z (cNo (fun w => y1 ⟨by omega, wov.1 w⟩) k260)
  have y172 : ∀ x5 : Int, EV q 205 172 [some (.ref sh), some (.ref 9), some (vI r), some (vI L), some (.ref 2), some (vL x5), none, none, none] [] A1 none A4 := by
    intro x5
    have k := p4 x5 none A4 (y195 x5)
    have hTc : TC (CL A1 (sh + 5)) x t := fun k k0 k1 => ⟨(hT1 k k0 k1).1, by rw [c2.2 2 k (by omega)]; exact (hT1 k k0 k1).2⟩
    have kl := cn_low (q := q) (p := r + 28) (n := 2) (by omega) (by omega) hx.2 hTc
    rw [hn] at kl
    exact vc_Shelf_boxRow_172 _ _ _ sh hsl ⟨_, c1, _, _, kl, k⟩
  refine ⟨S2, A4, EX.trans m1 p1, g5, p2, vc_Shelf_boxRow _ _ sh hsl ?_⟩
  have hTA := tcA S A st hT hA
  rw [w32_of (x := L - 46) (by omega), w32_of (x := r) (by omega)]
  refine cNo (by omega) ⟨_, A, cn_low (p := r) (n := 4) r0 (by omega) hx.2 hTA, ?_⟩
  rw [wl4 r r0 (by omega), show w64 33639248 = 33639248 by decide]
  refine cNN a2 ⟨_, A, cn_low (p := r + 28) (n := 2) (by omega) (by omega) hx.2 hTA, ?_⟩
  rw [wl2 (r + 28) (by omega) (by omega), hn, w32_of (x := L - 46 - r) (by omega), w64_of (x := L - 46 - r) (by omega)]
  refine cY (by omega) ⟨_, A, cn_low (p := r + 10) (n := 2) (by omega) (by omega) hx.2 hTA, ?_⟩
  rw [wl2 (r + 10) (by omega) (by omega), w0, show w64 8 = 8 by decide]
  have k165 : ¬ bxB t r → EV q 205 165 [some (.ref sh), some (.ref 9), some (vI r), some (vI L), some (.ref 2), some (vL (lowV t (r + 10) 2)), none, none, none] [] A none A4 := by
    intro hb
    rcases g2 with ⟨y, _⟩ | ⟨_, y⟩
    · exact absurd y hb
    · exact vc_Shelf_boxRow_165 _ _ _ sh hsl ⟨A1, y, y172 _⟩
  have k172 : bxB t r → EV q 205 172 [some (.ref sh), some (.ref 9), some (vI r), some (vI L), some (.ref 2), some (vL (lowV t (r + 10) 2)), none, none, none] [] A none A4 := by
    intro hb
    have k := y172 (lowV t (r + 10) 2)
    rcases g2 with ⟨_, y⟩ | ⟨y, _⟩
    · rw [y] at k; exact k
    · exact absurd hb y
  have k85 : (lowV t (r + 10) 2 = 0 ∨ lowV t (r + 10) 2 = 8) → EV q 205 85 [some (.ref sh), some (.ref 9), some (vI r), some (vI L), some (.ref 2), some (vL (lowV t (r + 10) 2)), none, none, none] [] A none A4 := by
    intro hm
    refine vc_Shelf_boxRow_85 _ _ _ sh hsl ⟨_, A, cn_low (p := r + 8) (n := 2) (by omega) (by omega) hx.2 hTA, ?_⟩
    rw [wl2 (r + 8) (by omega) (by omega), w0]
    by_cases d1 : lowV t (r + 8) 2 = 0
    case neg => exact cY d1 (k165 (fun y => d1 y.2.1))
    refine cNN d1 ⟨_, A, cn_low (p := r + 30) (n := 8) (by omega) (by omega) hx.2 hTA, ?_⟩
    by_cases d2 : w64 (lowV t (r + 30) 8) = 0
    case neg => exact cY d2 (k165 (fun y => d2 y.2.2.1))
    refine cNN d2 ⟨_, A, cn_low (p := r + 38) (n := 2) (by omega) (by omega) hx.2 hTA, ?_⟩
    rw [wl2 (r + 38) (by omega) (by omega)]
    by_cases d3 : lowV t (r + 38) 2 = 0
    case neg => exact cY d3 (k165 (fun y => d3 y.2.2.2.1))
    refine cNN d3 ⟨_, A, cn_low (p := r + 40) (n := 2) (by omega) (by omega) hx.2 hTA, ?_⟩
    rw [wl2 (r + 40) (by omega) (by omega), show w64 511 = 511 by decide]
    by_cases d4 : lowV t (r + 40) 2 ≤ 511
    case neg => exact cY (by omega) (k165 (fun y => d4 y.2.2.2.2.1))
    refine cNo (by omega) ⟨_, A, cn_low (p := r + 12) (n := 4) (by omega) (by omega) hx.2 hTA, ?_⟩
    rw [wl4 (r + 12) (by omega) (by omega), show w64 2147483647 = 2147483647 by decide]
    by_cases d5 : lowV t (r + 12) 4 ≤ 2147483647
    · exact cY d5 (k172 ⟨hm, d1, d2, d3, d4, d5⟩)
    · exact cNo d5 (k165 (fun y => d5 y.2.2.2.2.2))
  by_cases m0 : lowV t (r + 10) 2 = 0
  · exact cY m0 (k85 (Or.inl m0))
  · refine cNo m0 ?_
    by_cases m8 : lowV t (r + 10) 2 = 8
    · exact cNN m8 (k85 (Or.inr m8))
    · exact cY m8 (k165 (fun y => y.1.elim m0 m8))
end ReaF
