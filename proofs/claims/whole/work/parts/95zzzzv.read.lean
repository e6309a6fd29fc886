/-! read: a row of a TAPE, both sides at once -/
section Rea5
variable {q : Nat × (Nat → Int32)} {en x p : Int} {t : Int → Int}
def tl (c : Prop) [Decidable c] (k p : Int) (st : Rd) : Rd := if c then st else rdTellAt k p st
theorem tl_y {c : Prop} [Decidable c] {k p : Int} {st : Rd} (h : c) : tl c k p st = st := if_pos h
theorem tl_n {c : Prop} [Decidable c] {k p : Int} {st : Rd} (h : ¬ c) : tl c k p st = rdTellAt k p st := if_neg h
theorem tl_told {c : Prop} [Decidable c] {k p : Int} {st : Rd} (h : st.1 ≠ 0) : tl c k p st = st := by
  unfold tl rdTellAt
  rw [if_pos h]
  split <;> rfl
theorem rdTellAt_1 {k p : Int} {st : Rd} (hk : k ≠ 0) : (rdTellAt k p st).1 ≠ 0 := by
  unfold rdTellAt
  by_cases c : st.1 ≠ 0
  · rw [if_pos c]; exact c
  · rw [if_neg c]; exact hk
theorem tl_0 {c : Prop} [Decidable c] {k p : Int} {st : Rd} (hk : k ≠ 0) (h : (tl c k p st).1 = 0) : c ∧ st.1 = 0 := by
  by_cases y : c
  · rw [tl_y y] at h; exact ⟨y, h⟩
  · rw [tl_n y] at h; exact absurd h (rdTellAt_1 hk)
theorem tl_r {c : Prop} [Decidable c] {k p : Int} {st : Rd} (hr : rdR en st) (hk : 1 ≤ k ∧ k < 1000) : rdR en (tl c k p st) := by
  by_cases y : c
  · rw [tl_y y]; exact hr
  · rw [tl_n y]; exact rdR_tellAt hr hk
theorem tl_h {c : Prop} [Decidable c] {k p u : Int} {st : Rd} (hh : hR st u) : hR (tl c k p st) u := by
  by_cases y : c
  · rw [tl_y y]; exact hh
  · rw [tl_n y]; exact hR_n hh Fw_tellAt
theorem gCa {c : Prop} [Decidable c] {k p u : Int} {S A : ms} {o : Nat} {t : Int → Int} {st : Rd} (hr : rdR en st) (ho : 300 < o ∨ o = 7) (h : CB S A o en t st u) : ∃ A', CB S A' o en t (tl c k p st) u ∧ ((c ∧ A' = A) ∨ (¬ c ∧ EV q 126 0 [some (.ref 9), some (vI k), some (vI p)] [] A none A')) := by
  by_cases y : c
  · rw [tl_y y]; exact ⟨A, h, Or.inl ⟨y, rfl⟩⟩
  · rw [tl_n y]
    obtain ⟨A', k1, k2⟩ := sb_tellAt (q := q) (k := k) (p := p) hr ho h
    exact ⟨A', k2, Or.inr ⟨y, k1⟩⟩
/-- the seven rules of a row, in their order -/
def tpF (x p : Int) (t : Int → Int) (n T : Nat) (v1 v2 v3 v4 : Int) (st : Rd) : Rd := tl (v3 ≤ x - p - 512) 1 x (tl (n < 16 ∧ v3 ≤ 6000) 104 p (tl (t p ≠ 0 ∧ T ≤ 100) 103 p (tl (t (p + 156) = 48) 102 p (tl (0 ≤ v2 ∧ 0 ≤ v3 ∧ 0 ≤ v4 ∧ v4 ≤ 2147483647) 101 p (tl (v1 = smF t p 512) 100 p (tl (0 ≤ v1) 101 p st))))))
theorem tpF_r {n T : Nat} {v1 v2 v3 v4 : Int} {st : Rd} (hr : rdR en st) : rdR en (tpF x p t n T v1 v2 v3 v4 st) := tl_r (tl_r (tl_r (tl_r (tl_r (tl_r (tl_r hr (by decide)) (by decide)) (by decide)) (by decide)) (by decide)) (by decide)) (by decide)
theorem tpF_0 {n T : Nat} {v1 v2 v3 v4 : Int} {st : Rd} (h : (tpF x p t n T v1 v2 v3 v4 st).1 = 0) : (0 ≤ v1 ∧ v1 = smF t p 512) ∧ (0 ≤ v2 ∧ 0 ≤ v3 ∧ 0 ≤ v4 ∧ v4 ≤ 2147483647) ∧ t (p + 156) = 48 ∧ (t p ≠ 0 ∧ T ≤ 100) ∧ (n < 16 ∧ v3 ≤ 6000) ∧ v3 ≤ x - p - 512 := by
  unfold tpF at h
  have a7 := tl_0 (by decide) h
  have a6 := tl_0 (by decide) a7.2
  have a5 := tl_0 (by decide) a6.2
  have a4 := tl_0 (by decide) a5.2
  have a3 := tl_0 (by decide) a4.2
  have a2 := tl_0 (by decide) a3.2
  have a1 := tl_0 (by decide) a2.2
  exact ⟨⟨a1.1, a2.1⟩, a3.1, a4.1, a5.1, a6.1, a7.1⟩
def tpP (p v3 : Int) : Int := p + 512 + (v3 + 511) / 512 * 512
theorem sp_tpRow {sh n u w : Nat} {E : Nat → En} {v1 v2 v3 v4 : Int} {st : Rd} {S A : ms} (hs : isSh sh) (hx : 0 ≤ x ∧ x ≤ 6000) (h0 : 0 ≤ p) (h1 : p + 512 ≤ x) (hn : n ≤ 16) (hE : ∀ e : Nat, e < n → EnOk (E e)) (b1 : -1 ≤ v1 ∧ v1 < 68719476736) (b2 : -1 ≤ v2 ∧ v2 < 68719476736) (b3 : -1 ≤ v3 ∧ v3 < 68719476736) (b4 : -1 ≤ v4 ∧ v4 < 68719476736) (k1 : ∀ A : ms, TC A x t → EV q 196 0 [some (.ref 2), some (vI (p + 148)), some (vI 8), none, none, none] [] A (some (vL v1)) A) (k2 : ∀ A : ms, TC A x t → EV q 196 0 [some (.ref 2), some (vI (p + 100)), some (vI 8), none, none, none] [] A (some (vL v2)) A) (k3 : ∀ A : ms, TC A x t → EV q 196 0 [some (.ref 2), some (vI (p + 124)), some (vI 12), none, none, none] [] A (some (vL v3)) A) (k4 : ∀ A : ms, TC A x t → EV q 196 0 [some (.ref 2), some (vI (p + 136)), some (vI 12), none, none, none] [] A (some (vL v4)) A) (hu : upR t (p + 345) 155 u) (hw : upR t p 100 w) (hr : rdR x st) (c0 : st.1 = 0) (hT : TC S x t) (hSh : ShC S sh n E) (hA : CR S A 7 x st) : ∃ (S1 A1 : ms) (zr : Int), EX (xSh sh) S S1 ∧ CR S1 A1 7 x (tpF x p t n (lbN u w) v1 v2 v3 v4 st) ∧ ((tpF x p t n (lbN u w) v1 v2 v3 v4 st).1 = 0 → ShC S1 sh (n + 1) (upE E n ((lbN u w : Nat), lbF t p u, v2 % 512, v4, v3, fun k => t (p + 512 + k))) ∧ zr = tpP p v3) ∧ ((tpF x p t n (lbN u w) v1 v2 v3 v4 st).1 ≠ 0 → ShC S1 sh n E) ∧ EV q 195 0 [some (.ref sh), some (.ref 9), some (vI p), none, none, none, none, none, none, none, none, none] [] A (some (vI zr)) A1 := by
  have hsl := isSh_is hs
  have hsr : sh = 193 ∨ sh = 268 := hs
  have ho : (300 < 7 ∨ 7 = 7) := Or.inr rfl
  have tcA : ∀ (S A : ms) (st : Rd), TC S x t → CR S A 7 x st → TC A x t := fun S A st hT hA k k0 k1 => ⟨(hT k k0 k1).1, by rw [hA.2.2.2 2 k (by omega) (by omega) (by omega)]; exact (hT k k0 k1).2⟩
  have ht : ∀ k : Int, 0 ≤ k → k < x → 0 ≤ t k ∧ t k < 256 := fun k k0 k1 => (hT k k0 k1).1
  have w0 : w64 0 = 0 := by decide
  have wv1 : w64 v1 = v1 := w64_of (by omega)
  have wv2 : w64 v2 = v2 := w64_of (by omega)
  have wv3 : w64 v3 = v3 := w64_of (by omega)
  have wv4 : w64 v4 = v4 := w64_of (by omega)
  have sr := smF_rg h0 hx.2 h1 ht 512 (by omega)
  have ws : w32 (smF t p 512) = smF t p 512 := w32_of (by omega)
  have ws' : w64 (smF t p 512) = smF t p 512 := w64_of (by omega)
  have wp : w32 p = p := w32_of (by omega)
  have w156 : w32 (p + 156) = p + 156 := w32_of (by omega)
  have t156 := ht (p + 156) (by omega) (by omega)
  have wt156 : w32 (t (p + 156)) = t (p + 156) := w32_of (by omega)
  have tp := ht p h0 (by omega)
  have wtp : w32 (t p) = t p := w32_of (by omega)
  -- the states
  obtain ⟨s1, e1⟩ : ∃ s : Rd, s = tl (0 ≤ v1) 101 p st := ⟨_, rfl⟩
  have r1 : rdR x s1 := by rw [e1]; exact tl_r hr (by decide)
  obtain ⟨s2, e2⟩ : ∃ s : Rd, s = tl (v1 = smF t p 512) 100 p s1 := ⟨_, rfl⟩
  have r2 : rdR x s2 := by rw [e2]; exact tl_r r1 (by decide)
  obtain ⟨s3, e3⟩ : ∃ s : Rd, s = tl (0 ≤ v2 ∧ 0 ≤ v3 ∧ 0 ≤ v4 ∧ v4 ≤ 2147483647) 101 p s2 := ⟨_, rfl⟩
  have r3 : rdR x s3 := by rw [e3]; exact tl_r r2 (by decide)
  obtain ⟨s4, e4⟩ : ∃ s : Rd, s = tl (t (p + 156) = 48) 102 p s3 := ⟨_, rfl⟩
  have r4 : rdR x s4 := by rw [e4]; exact tl_r r3 (by decide)
  obtain ⟨s5, e5⟩ : ∃ s : Rd, s = tl (t p ≠ 0 ∧ lbN u w ≤ 100) 103 p s4 := ⟨_, rfl⟩
  have r5 : rdR x s5 := by rw [e5]; exact tl_r r4 (by decide)
  obtain ⟨s6, e6⟩ : ∃ s : Rd, s = tl (n < 16 ∧ v3 ≤ 6000) 104 p s5 := ⟨_, rfl⟩
  have r6 : rdR x s6 := by rw [e6]; exact tl_r r5 (by decide)
  obtain ⟨s7, e7⟩ : ∃ s : Rd, s = tl (v3 ≤ x - p - 512) 1 x s6 := ⟨_, rfl⟩
  have r7 : rdR x s7 := by rw [e7]; exact tl_r r6 (by decide)
  have ef : tpF x p t n (lbN u w) v1 v2 v3 v4 st = s7 := by rw [e7, e6, e5, e4, e3, e2, e1]; rfl
  have hf := @tpF_0 x p t n (lbN u w) v1 v2 v3 v4 st
  rw [ef] at hf ⊢
  -- the class's memories
  obtain ⟨A1, g1, g2⟩ := gCa (q := q) (c := 0 ≤ v1) (k := 101) (p := p) hr ho hA
  rw [← e1] at g1
  obtain ⟨A2, g3, g4⟩ := gCa (q := q) (c := v1 = smF t p 512) (k := 100) (p := p) r1 ho g1
  rw [← e2] at g3
  obtain ⟨A3, g5, g6⟩ := gCa (q := q) (c := 0 ≤ v2 ∧ 0 ≤ v3 ∧ 0 ≤ v4 ∧ v4 ≤ 2147483647) (k := 101) (p := p) r2 ho g3
  rw [← e3] at g5
  obtain ⟨A4, g7, g8⟩ := gCa (q := q) (c := t (p + 156) = 48) (k := 102) (p := p) r3 ho g5
  rw [← e4] at g7
  obtain ⟨A5, l1, l2, l3⟩ := sp_label (q := q) hs h0 h1 hx.2 hu hw (tcA S A4 s4 hT g7)
  obtain ⟨S5, m1, m2, m3⟩ := CB_X (X := fun a _ => a = sh + 5 ∨ a = sh + 6) (fun a k y => by omega) g7 l1
  have hT5 : TC S5 x t := fun k k0 k1 => ⟨(hT k k0 k1).1, by rw [m1.2 2 k (by omega)]; exact (hT k k0 k1).2⟩
  have hSh5 : ShC S5 sh n E := ShC_x hSh m1 (fun a k y => Or.inr y) hn
  have hL5 : LabC S5 (sh + 5) (lbN u w) (lbF t p u) := ⟨by rw [m2 _ _ (Or.inl rfl)]; exact l2.1, by rw [m2 _ _ (Or.inl rfl)]; exact l2.2.1, fun k k0 k1 => by rw [m2 _ _ (Or.inr rfl)]; exact l2.2.2 k k0 k1⟩
  obtain ⟨A6, g9, g10⟩ := gCa (q := q) (c := t p ≠ 0 ∧ lbN u w ≤ 100) (k := 103) (p := p) r4 ho m3
  rw [← e5] at g9
  obtain ⟨A7, g11, g12⟩ := gCa (q := q) (c := n < 16 ∧ v3 ≤ 6000) (k := 104) (p := p) r5 ho g9
  rw [← e6] at g11
  have w512 : Unit → w32 (x - (p + 512)) = x - p - 512 := fun _ => by rw [w32_of (by omega)]; omega
  have w512' : Unit → w64 (x - p - 512) = x - p - 512 := fun _ => w64_of (by omega)
  obtain ⟨A8, g13, g14⟩ := gCa (q := q) (c := w64 v3 ≤ w64 (w32 (A7.1 9 2 - (p + 512)))) (k := 1) (p := A7.1 9 2) r6 ho g11
  have e8 : tl (w64 v3 ≤ w64 (w32 (A7.1 9 2 - (p + 512)))) 1 (A7.1 9 2) s6 = s7 := by
    by_cases z : s6.1 = 0
    · rw [e7, g11.2.1.1 z, w512 (), wv3, w512' ()]
    · rw [e7, tl_told z, tl_told z]
  rw [e8] at g13
  have ex5 : EX (xSh sh) S S5 := EX.mono m1 (fun a k y => by unfold xSh; omega)
  -- as far as 244
  have c244 : ∀ (r : Option Value) (T : ms), EV q 195 244 [some (.ref sh), some (.ref 9), some (vI p), some (vL v1), none, some (vL v2), none, some (vL v3), none, some (vL v4), none, some (vI (p + 512))] [] A8 r T → EV q 195 0 [some (.ref sh), some (.ref 9), some (vI p), none, none, none, none, none, none, none, none, none] [] A r T := by
    intro r T y
    have y214 : EV q 195 214 [some (.ref sh), some (.ref 9), some (vI p), some (vL v1), none, some (vL v2), none, some (vL v3), none, some (vL v4), none, none] [] A7 r T := by
      refine vc_Shelf_readTapeRow_214 _ _ _ _ _ sh hsl ?_
      rcases g14 with ⟨u1, u2⟩ | ⟨u1, u2⟩
      · rw [u2] at y; exact cY u1 y
      · exact cNo u1 ⟨A8, u2, y⟩
    have y189 : EV q 195 189 [some (.ref sh), some (.ref 9), some (vI p), some (vL v1), none, some (vL v2), none, some (vL v3), none, some (vL v4), none, none] [] A6 r T := by
      refine vc_Shelf_readTapeRow_189 _ _ _ _ _ sh hsl ?_
      have wn : Unit → w32 ((n : Nat) : Int) = n := fun _ => w32_of (by omega)
      have w6 : w64 6000 = 6000 := by decide
      have eN : A6.1 sh 4 = n := by rw [g9.2.2.2 sh 4 (by omega) (by omega) (by omega)]; exact hSh5.1
      rw [eN, wn (), wv3, w6]
      rcases g12 with ⟨u1, u2⟩ | ⟨u1, u2⟩
      · rw [u2] at y214; exact cNo (by omega) (cY u1.2 y214)
      · have y207 := vc_Shelf_readTapeRow_207 (q := q) p v1 v2 v3 v4 sh hsl ⟨A7, u2, y214⟩
        by_cases z : (16 : Int) ≤ n
        · exact cY z y207
        · exact cNo z (cNo (fun z' => u1 ⟨by omega, z'⟩) y207)
    have y154 : EV q 195 154 [some (.ref sh), some (.ref 9), some (vI p), some (vL v1), none, some (vL v2), none, some (vL v3), none, some (vL v4), none, none] [] A4 r T := by
      refine vc_Shelf_readTapeRow_154 _ _ _ _ _ sh hsl ⟨A5, l3, ?_⟩
      have tA5 : A5.1 2 p = t p := by rw [l1.2 2 p (by omega)]; exact (tcA S A4 s4 hT g7 p h0 (by omega)).2
      have wov : w32 (A5.1 (sh + 5) 2) = 0 ↔ lbN u w ≤ 100 := by
        rw [l2.2.1]
        by_cases z : lbN u w ≤ 100
        · rw [if_pos z]; exact ⟨fun _ => z, fun _ => by decide⟩
        · rw [if_neg z]; exact ⟨fun h => absurd h (by decide), fun h => absurd h z⟩
      rw [wp, tA5, wtp]
      refine ⟨by omega, ?_⟩
      rcases g10 with ⟨u1, u2⟩ | ⟨u1, u2⟩
      · rw [u2] at y189; exact cNo u1.1 (cY (wov.2 u1.2) y189)
      · have y182 := vc_Shelf_readTapeRow_182 (q := q) p v1 v2 v3 v4 sh hsl ⟨A6, u2, y189⟩
        by_cases z : t p = 0
        · exact cY z y182
        · exact cNo z (cNo (fun z' => u1 ⟨z, wov.1 z'⟩) y182)
    have y132 : EV q 195 132 [some (.ref sh), some (.ref 9), some (vI p), some (vL v1), none, some (vL v2), none, some (vL v3), none, some (vL v4), none, none] [] A3 r T := by
      refine vc_Shelf_readTapeRow_132 _ _ _ _ _ sh hsl ?_
      rw [w156, (tcA S A3 s3 hT g5 (p + 156) (by omega) (by omega)).2, wt156]
      refine ⟨by omega, ?_⟩
      rcases g8 with ⟨u1, u2⟩ | ⟨u1, u2⟩
      · rw [u2] at y154; exact cY u1 y154
      · exact cNo u1 ⟨A4, u2, y154⟩
    have y95 : EV q 195 95 [some (.ref sh), some (.ref 9), some (vI p), some (vL v1), none, some (vL v2), none, some (vL v3), none, some (vL v4), none, none] [] A2 r T := by
      refine vc_Shelf_readTapeRow_95 _ _ _ _ _ sh hsl ?_
      rw [wv2, wv3, wv4, w0, show w64 2147483647 = 2147483647 by decide]
      rcases g6 with ⟨u1, u2⟩ | ⟨u1, u2⟩
      · rw [u2] at y132
        exact cNo (by omega) (cNo (by omega) (cNo (by omega) (cY u1.2.2.2 y132)))
      · have y125 := vc_Shelf_readTapeRow_125 (q := q) p v1 v2 v3 v4 sh hsl ⟨A3, u2, y132⟩
        by_cases z2 : v2 < 0
        · exact cY z2 y125
        · refine cNo z2 ?_
          by_cases z3 : v3 < 0
          · exact cY z3 y125
          · refine cNo z3 ?_
            by_cases z4 : v4 < 0
            · exact cY z4 y125
            · exact cNo z4 (cNo (fun z' => u1 ⟨by omega, by omega, by omega, z'⟩) y125)
    have y74 : EV q 195 74 [some (.ref sh), some (.ref 9), some (vI p), some (vL v1), none, some (vL v2), none, some (vL v3), none, some (vL v4), none, none] [] A1 r T := by
      refine vc_Shelf_readTapeRow_74 _ _ _ _ _ sh hsl ⟨smF t p 512, A1, vc_Shelf_tapeSum _ 2 6000 sh_2 (sp_tsum h0 h1 hx.2 (tcA S A1 s1 hT g1) 512 0 (by omega)), ?_⟩
      rw [wv1, ws, ws']
      rcases g4 with ⟨u1, u2⟩ | ⟨u1, u2⟩
      · rw [u2] at y95; exact cY u1 y95
      · exact cNo u1 ⟨A2, u2, y95⟩
    have hTA := tcA S A st hT hA
    refine vc_Shelf_readTapeRow _ sh hsl ⟨v1, A, k1 A hTA, v2, A, k2 A hTA, v3, A, k3 A hTA, v4, A, k4 A hTA, ?_⟩
    rw [wv1, w0]
    rcases g2 with ⟨u1, u2⟩ | ⟨u1, u2⟩
    · rw [u2] at y74; exact cY u1 y74
    · exact cNo u1 ⟨A1, u2, y74⟩
  have wr7 : w32 s7.1 = s7.1 := w32_of (by have := r7.1; omega)
  by_cases z : s7.1 = 0
  · obtain ⟨f1, f2, f3, f4, f5, f6⟩ := hf z
    obtain ⟨M, eM⟩ : ∃ M : Nat, (M : Int) = v3 := ⟨v3.toNat, by omega⟩
    clear wv3 ws ws' wv1 wv2 wv4 wp wt156 wtp wr7 w156
    have hT8 := tcA S5 A8 s7 hT5 g13
    have hSh8 : ShC A8 sh n E := ShC_x hSh5 ⟨g13.1, fun a k (y : ¬ (a = 9 ∨ a = 7 ∨ a = 8)) => g13.2.2.2 a k (by omega) (by omega) (by omega)⟩ (fun a k y => Or.inl (by omega)) hn
    have hL8 : LabC A8 (sh + 5) (lbN u w) (lbF t p u) := ⟨by rw [g13.2.2.2 _ _ (by omega) (by omega) (by omega)]; exact hL5.1, by rw [g13.2.2.2 _ _ (by omega) (by omega) (by omega)]; exact hL5.2.1, fun k k0 k1 => by rw [g13.2.2.2 _ _ (by omega) (by omega) (by omega)]; exact hL5.2.2 k k0 k1⟩
    obtain ⟨A9, i1, i2, i3⟩ := sp_ent (q := q) (mo := v2 % 512) (ti := v4) (tx := fun k => t (p + 512 + k)) hs f5.1 hE hSh8 hL8 f4.2 sh_2 (by decide) (by decide) (fr := p + 512) (m := M) (by omega) (by omega) (by omega) (fun k k0 k1 => (hT8 (p + 512 + k) (by omega) (by omega)).2)
    rw [eM] at i2 i3
    obtain ⟨S9, j1, j2, j3⟩ := CB_X (X := xSh sh) (fun a k y => by unfold xSh at y; omega) g13 i1
    have et : Int.tdiv (w32 (v3 + 512 - 1)) (w32 512) = (v3 + 511) / 512 := by
      rw [w32_of (by omega), show w32 512 = 512 by decide, Int.tdiv_eq_ediv_of_nonneg (by omega)]
      congr 1
      omega
    refine ⟨S9, A9, tpP p v3, EX.trans ex5 j1, j3, fun _ => ⟨?_, rfl⟩, fun y => absurd z y, c244 _ _ (vc_Shelf_readTapeRow_244 _ _ _ _ _ _ sh hsl ?_)⟩
    · have hx9 : EX (fun a k => ¬ xSh sh a k) A9 S9 := ⟨(j1.1.trans (g13.1.symm)).trans i1.1.symm |>.trans rfl, fun a k y => j2 a k (Classical.not_not.mp y)⟩
      exact ShC_x i2 hx9 (fun a k y => Or.inl (by unfold xSh at y; omega)) (by omega)
    · rw [g13.2.1.2.1, w32_of (x := s7.1) (by have := r7.1; omega)]
      refine cNN z ⟨A9, i3, ?_, rfl⟩
      rw [et]
      rfl
  · refine ⟨S5, A8, p + 512, ex5, g13, fun y => absurd y z, fun _ => hSh5, c244 _ _ (vc_Shelf_readTapeRow_244 _ _ _ _ _ _ sh hsl ?_)⟩
    rw [g13.2.1.2.1, wr7]
    exact cY z ⟨rfl, rfl⟩
end Rea5
