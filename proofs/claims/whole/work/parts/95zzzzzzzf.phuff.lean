/-! pack: own codes; depths, the reference -/
section PDepM
variable {q : Nat × (Nat → Int32)} {n m : Nat} {od : Nat → Nat} {c : Nat → Int}
theorem md_hop {a1 na1 a4 na4 : Nat} {x3 x5 x6 x7 x8 : Int} (s1 : SH a1 = (0, na1, [])) (s4 : SH a4 = (0, na4, [])) {B : ms} {U D : Nat → Nat} {r s : Nat} (hs : s < 288) (h8 : B.2.1 378 s = c s) (hc : 0 < c s ∧ c s < 100000000) (hU : ∀ i : Nat, i < r → i < U i ∧ U i ≤ r) (hD0 : D r = 0) (hD : ∀ i : Nat, i < r → D i = D (U i) + 1) (h7 : ∀ i : Nat, i < r → B.1 377 (rI n m od i) = ((rI n m od (U i) : Nat) : Int)) (hr : B.1 377 (rI n m od r) = -1) (hI : ∀ i : Nat, i ≤ r → rI n m od i < 700) {R : Option Value} {T : ms} : ∀ (d i : Nat) (y : Int), D i = d → i ≤ r → EV q 299 272 [some (.ref 367), some (.ref a1), some (vI n), some (vI x3), some (.ref a4), some (vI x5), some (vI x6), some (vI x7), some (vI x8), some (vI s), some (vI (y + d)), some (vI (rI n m od r))] [] B R T → EV q 299 235 [some (.ref 367), some (.ref a1), some (vI n), some (vI x3), some (.ref a4), some (vI x5), some (vI x6), some (vI x7), some (vI x8), some (vI s), some (vI y), some (vI (rI n m od i))] [] B R T := by
  have ws : Unit → w32 (s : Int) = s := fun _ => w32_of (by omega)
  have w0 : w64 0 = 0 := by decide
  have wr : ∀ i : Nat, i ≤ r → w32 (rI n m od i : Int) = rI n m od i := fun i hi => by have := hI i hi; exact w32_of (by omega)
  intro d
  induction d with
  | zero =>
    intro i y hd hi k
    have e : i = r := by
      by_cases z : i < r
      · have := hD i z
        omega
      · omega
    subst e
    have i7 := hI i (Nat.le_refl _)
    rw [show y + ((0 : Nat) : Int) = y by omega] at k
    refine vc_MD_lengthsBy_235 _ _ _ _ _ _ _ _ _ _ _ s1 _ _ s4 ?_
    rw [ws (), h8, w64_of (x := c s) (by omega), w0, wr i (Nat.le_refl _), hr]
    exact ⟨by omega, cNo (by omega) ⟨by omega, cY (by decide) k⟩⟩
  | succ d ih =>
    intro i y hd hi k
    have ir : i < r := by
      by_cases z : i < r
      · exact z
      · have e : i = r := by omega
        rw [e, hD0] at hd
        omega
    have u := hU i ir
    have dv := hD i ir
    have i7 := hI i (by omega)
    have u7 := hI (U i) u.2
    rw [show y + ((d + 1 : Nat) : Int) = y + 1 + d by omega] at k
    have g := ih (U i) (y + 1) (by omega) u.2 k
    refine vc_MD_lengthsBy_235 _ _ _ _ _ _ _ _ _ _ _ s1 _ _ s4 ?_
    rw [ws (), h8, w64_of (x := c s) (by omega), w0, wr i (by omega), h7 i ir, wr (U i) u.2]
    exact ⟨by omega, cNo (by omega) ⟨by omega, cNo (by omega) ⟨by omega, g⟩⟩⟩
theorem md_dps {a1 na1 a4 na4 : Nat} {x8 : Int} {lim : Nat} (s1 : SH a1 = (0, na1, [])) (s4 : SH a4 = (0, na4, [])) (h4 : a4 ≠ 377 ∧ n ≤ na4 ∧ na4 < 100000) (hn : n ≤ 288 ∧ m ≤ n ∧ lim < 100) (hO : OLv n m od c) {U D : Nat → Nat} {r : Nat} (er : r = 2 * m - 2) (hU : ∀ i : Nat, i < r → i < U i ∧ U i ≤ r) (hD0 : D r = 0) (hD : ∀ i : Nat, i < r → D i = D (U i) + 1) (hD2 : ∀ i : Nat, i ≤ r → D i < 1000) {L : Nat → Int} (hL0 : ∀ s : Nat, s < n → c s = 0 → L s = 0) (hL1 : ∀ j : Nat, j < m → L (od j) = ((if m = 1 then 1 else 0 : Nat) : Int) + D j) : ∀ (v s : Nat) (x6 : Int) (B : ms), s + v = n → (∀ t : Nat, t < n → (0 ≤ c t ∧ c t < 100000000) ∧ B.2.1 378 t = c t) → (∀ i : Nat, i < r → B.1 377 (rI n m od i) = ((rI n m od (U i) : Nat) : Int)) → (0 < m → B.1 377 (rI n m od r) = -1) → (x6 = 0 ∧ ∀ t : Nat, t < s → L t ≤ lim) ∨ (x6 = 1 ∧ ∃ t : Nat, t < s ∧ (lim : Int) < L t) → (∀ t : Nat, t < s → B.1 a4 t = L t) → ∃ (B' : ms) (x6' : Int), EX (fun a _ => a = a4) B B' ∧ (∀ t : Nat, t < n → B'.1 a4 t = L t) ∧ ((x6' = 0 ∧ ∀ t : Nat, t < n → L t ≤ lim) ∨ (x6' = 1 ∧ ∃ t : Nat, t < n ∧ (lim : Int) < L t)) ∧ ∀ (R : Option Value) (T : ms), EV q 299 309 [some (.ref 367), some (.ref a1), some (vI n), some (vI lim), some (.ref a4), some (vI 0), some (vI x6'), some (vI m), some (vI x8), some (vI 0), none, none] [] B' R T → EV q 299 200 [some (.ref 367), some (.ref a1), some (vI n), some (vI lim), some (.ref a4), some (vI 0), some (vI x6), some (vI m), some (vI x8), some (vI s), none, none] [] B R T := by
  have wn : Unit → w32 (n : Int) = n := fun _ => w32_of (by omega)
  have wm : Unit → w32 (m : Int) = m := fun _ => w32_of (by omega)
  have w0 : w64 0 = 0 := by decide
  have hI : ∀ i : Nat, i ≤ r → 0 < m → rI n m od i < 700 := fun i hi h0 => by
    by_cases d : i < m
    · rw [rI_l d]; have := (hO.1 i d).1; omega
    · rw [rI_j (by omega)]; omega
  intro v
  induction v with
  | zero =>
    intro s x6 B hs h8 h7 hr hx hl
    have e : s = n := by omega
    subst e
    exact ⟨B, x6, EX.refl _ B, hl, hx, fun R T k => vc_MD_lengthsBy_200 _ _ _ _ _ _ _ _ _ s1 _ _ s4 (cY (Int.le_refl _) k)⟩
  | succ v ih =>
    intro s x6 B hs h8 h7 hr hx hl
    have ws : Unit → w32 (s : Int) = s := fun _ => w32_of (by omega)
    have ws0 : Unit → w32 (0 + (s : Int)) = s := fun _ => by rw [show (0 : Int) + s = s by omega]; exact w32_of (by omega)
    obtain ⟨cs, c8⟩ := h8 s (by omega)
    obtain ⟨B1, e1⟩ : ∃ B1, B1 = wI B a4 s (L s) := ⟨_, rfl⟩
    have Lr : 0 ≤ L s ∧ L s < 2000 := by
      by_cases z : c s = 0
      · rw [hL0 s (by omega) z]; decide
      · obtain ⟨j, j1, j2⟩ := hO.2.2 s (by omega) (by omega)
        rw [← j2, hL1 j j1]
        have := hD2 j (by omega)
        split <;> omega
    obtain ⟨x6a, ha⟩ : ∃ x6a : Int, x6a = if x6 = 0 ∧ L s ≤ lim then 0 else 1 := ⟨_, rfl⟩
    have hx' : (x6a = 0 ∧ ∀ t : Nat, t < s + 1 → L t ≤ lim) ∨ (x6a = 1 ∧ ∃ t : Nat, t < s + 1 ∧ (lim : Int) < L t) := by
      rcases hx with ⟨y1, y2⟩ | ⟨y1, t, y2, y3⟩
      · by_cases d : L s ≤ lim
        · left
          rw [ha, if_pos ⟨y1, d⟩]
          refine ⟨rfl, fun t ht => ?_⟩
          by_cases e : t = s
          · rw [e]; exact d
          · exact y2 t (by omega)
        · right
          rw [ha, if_neg (fun z => d z.2)]
          exact ⟨rfl, s, by omega, by omega⟩
      · right
        rw [ha, if_neg (fun z => by have := z.1; omega)]
        exact ⟨rfl, t, by omega, y3⟩
    obtain ⟨B', x6', g1, g2, g3, g4⟩ := ih (s + 1) x6a B1 (by omega) (fun t ht => by rw [e1]; exact h8 t ht) (fun i hi => by rw [e1, wI_no _ (fun z => h4.1 z.1.symm)]; exact h7 i hi) (fun y => by rw [e1, wI_no _ (fun z => h4.1 z.1.symm)]; exact hr y) hx' (fun t ht => by
      by_cases e : t = s
      · rw [e, e1, wI_at]
      · rw [e1, wI_no _ (by omega)]
        exact hl t (by omega))
    refine ⟨B', x6', EX.trans (by rw [e1]; exact (EX.refl _ B).wr rfl) g1, g2, g3, fun R T k => ?_⟩
    have g5 := g4 R T k
    rw [show ((s + 1 : Nat) : Int) = (s : Int) + 1 by omega] at g5
    have k272 : ∀ x11 : Int, EV q 299 272 [some (.ref 367), some (.ref a1), some (vI n), some (vI lim), some (.ref a4), some (vI 0), some (vI x6), some (vI m), some (vI x8), some (vI s), some (vI (L s)), some (vI x11)] [] B R T := fun x11 => by
      refine vc_MD_lengthsBy_272 _ _ _ _ _ _ _ _ _ _ _ s1 _ _ s4 ?_
      rw [ws0 ()]
      refine ⟨by omega, fun S2 q2 => ?_⟩
      rw [← e1] at q2
      rw [q2, w32_of (x := L s) (by omega), show w32 (lim : Int) = lim from w32_of (by omega)]
      by_cases d6 : x6 = 0
      · rw [show w32 x6 = 0 by rw [d6]; decide]
        refine cNo (fun z => z rfl) ?_
        by_cases d : L s ≤ lim
        · rw [ha, if_pos ⟨d6, d⟩] at g5
          exact cY d (vc_MD_lengthsBy_298 _ _ _ _ _ _ _ _ _ _ _ _ s1 _ _ s4 g5)
        · rw [ha, if_neg (fun z => d z.2)] at g5
          exact cNo d (vc_MD_lengthsBy_293 _ _ _ _ _ _ _ _ _ _ _ s1 _ _ s4 (vc_MD_lengthsBy_298 _ _ _ _ _ _ _ _ _ _ _ _ s1 _ _ s4 g5))
      · have d61 : x6 = 1 := by
          rcases hx with y | y
          · exact absurd y.1 d6
          · exact y.1
        rw [ha, if_neg (fun z => d6 z.1)] at g5
        rw [show w32 x6 = 1 by rw [d61]; decide]
        exact cY (by decide) (vc_MD_lengthsBy_293 _ _ _ _ _ _ _ _ _ _ _ s1 _ _ s4 (vc_MD_lengthsBy_298 _ _ _ _ _ _ _ _ _ _ _ _ s1 _ _ s4 g5))
    refine vc_MD_lengthsBy_200 _ _ _ _ _ _ _ _ _ s1 _ _ s4 ?_
    rw [wn (), ws (), c8, w64_of (x := c s) (by omega), w0, wm ()]
    refine cNo (by omega) ⟨by omega, ?_⟩
    by_cases z : c s = 0
    · refine cY (by omega) (vc_MD_lengthsBy_228 _ _ _ _ _ _ _ _ _ s1 _ _ s4 (vc_MD_lengthsBy_229 _ _ _ _ _ _ _ _ _ _ s1 _ _ s4 (vc_MD_lengthsBy_235 _ _ _ _ _ _ _ _ _ _ _ s1 _ _ s4 ?_)))
      rw [ws (), c8, w64_of (x := c s) (by omega), w0]
      have k2 := k272 s
      rw [hL0 s (by omega) z] at k2
      exact ⟨by omega, cY (by omega) k2⟩
    · obtain ⟨j, j1, j2⟩ := hO.2.2 s (by omega) (by omega)
      have ej : rI n m od j = s := by rw [rI_l j1]; exact j2
      have m0 : 0 < m := Nat.lt_of_le_of_lt (Nat.zero_le _) j1
      have jr : j ≤ r := by clear hx hx' g3; omega
      have s288 : s < 288 := by clear hx hx' g3; omega
      have cpos : 0 < c s ∧ c s < 100000000 := by clear hx hx' g3; omega
      have k2 := k272 (rI n m od r)
      have lj := hL1 j j1
      rw [j2] at lj
      rw [lj] at k2
      have hp := md_hop (q := q) (n := n) (m := m) (od := od) (c := c) (x3 := lim) (x5 := 0) (x6 := x6) (x7 := m) (x8 := x8) s1 s4 (s := s) s288 c8 cpos hU hD0 hD h7 (hr m0) (fun i hi => hI i hi m0) (D j) j _ rfl jr k2
      rw [ej] at hp
      refine cNo (by omega) ?_
      by_cases m1 : m = 1
      · rw [if_pos m1] at hp
        exact cNo (fun y => y (by omega)) (vc_MD_lengthsBy_229 _ _ _ _ _ _ _ _ _ _ s1 _ _ s4 hp)
      · rw [if_neg m1] at hp
        exact cY (by omega) (vc_MD_lengthsBy_228 _ _ _ _ _ _ _ _ _ s1 _ _ s4 (vc_MD_lengthsBy_229 _ _ _ _ _ _ _ _ _ _ s1 _ _ s4 hp))
def hlf (c : Nat → Int) (s : Nat) : Int := (c s + 1) / 2
theorem cl_half {cd a1 na1 : Nat} {x3 x4 x5 : Int} (hc : isCode cd) (s1 : SH a1 = (0, na1, [])) (hn : n ≤ 288) (hr : ∀ s : Nat, s < n → 0 ≤ c s ∧ c s < 100000000) : ∀ (v s : Nat) (A : ms), s + v = n → (∀ t : Nat, t < n → A.1 (cd + 8) t = if t < s then hlf c t else c t) → ∃ A', EX (fun a _ => a = cd + 8) A A' ∧ (∀ t : Nat, t < n → A'.1 (cd + 8) t = hlf c t) ∧ ∀ (R : Option Value) (T : ms), EV q 70 29 [some (.ref cd), some (.ref a1), some (vI n), some (vI x3), some (vI (x4 + 1)), none, none] [] A' R T → EV q 70 73 [some (.ref cd), some (.ref a1), some (vI n), some (vI x3), some (vI x4), some (vI x5), some (vI s)] [] A R T := by
  have wn : Unit → w32 (n : Int) = n := fun _ => w32_of (by omega)
  have w2 : w32 2 = 2 := by decide
  intro v
  induction v with
  | zero =>
    intro s A hs h
    have e : s = n := by omega
    subst e
    exact ⟨A, EX.refl _ A, fun t ht => by rw [h t ht, if_pos ht], fun R T k => vc_Code_byCounts_73 _ _ _ _ _ _ hc _ _ s1 (cY (Int.le_refl _) k)⟩
  | succ v ih =>
    intro s A hs h
    have ws : Unit → w32 (s : Int) = s := fun _ => w32_of (by omega)
    have cs := hr s (by omega)
    have hv : A.1 (cd + 8) s = c s := by rw [h s (by omega), if_neg (by omega)]
    obtain ⟨A', g1, g2, g3⟩ := ih (s + 1) (wI A (cd + 8) s (hlf c s)) (by omega) (fun t ht => by
      by_cases e : t = s
      · rw [e, wI_at, if_pos (by omega)]
      · rw [wI_no _ (by omega), h t ht]
        by_cases d : t < s
        · rw [if_pos d, if_pos (by omega)]
        · rw [if_neg d, if_neg (by omega)])
    refine ⟨A', ((EX.refl _ A).wr rfl).trans g1, g2, fun R T k => vc_Code_byCounts_73 _ _ _ _ _ _ hc _ _ s1 ?_⟩
    have g4 := g3 R T k
    rw [show ((s + 1 : Nat) : Int) = (s : Int) + 1 by omega] at g4
    rw [wn (), ws (), hv, w32_of (x := c s + 1) (by omega), w2, Int.tdiv_eq_ediv_of_nonneg (by omega)]
    exact cNo (by omega) ⟨by omega, by omega, fun S3 q3 => by rw [q3]; exact g4⟩
theorem md_half {a1 na1 a4 na4 : Nat} {x3 x5 x7 x8 : Int} (s1 : SH a1 = (0, na1, [])) (s4 : SH a4 = (0, na4, [])) (hn : n ≤ 288) (hr : ∀ s : Nat, s < n → 0 ≤ c s ∧ c s < 100000000) : ∀ (v s : Nat) (B : ms), s + v = n → (∀ t : Nat, t < n → B.2.1 378 t = if t < s then hlf c t else c t) → ∃ B', (B'.1 = B.1 ∧ B'.2.2 = B.2.2) ∧ (∀ t : Nat, t < n → B'.2.1 378 t = hlf c t) ∧ ∀ (R : Option Value) (T : ms), EV q 299 30 [some (.ref 367), some (.ref a1), some (vI n), some (vI x3), some (.ref a4), some (vI x5), some (vI 1), none, none, none, none, none] [] B' R T → EV q 299 309 [some (.ref 367), some (.ref a1), some (vI n), some (vI x3), some (.ref a4), some (vI x5), some (vI 1), some (vI x7), some (vI x8), some (vI s), none, none] [] B R T := by
  have wn : Unit → w32 (n : Int) = n := fun _ => w32_of (by omega)
  have w2 : w64 2 = 2 := by decide
  have w1 : w32 1 = 1 := by decide
  intro v
  induction v with
  | zero =>
    intro s B hs h
    have e : s = n := by omega
    subst e
    exact ⟨B, ⟨rfl, rfl⟩, fun t ht => by rw [h t ht, if_pos ht], fun R T k => vc_MD_lengthsBy_309 _ _ _ _ _ _ _ _ _ s1 _ _ s4 (cY (Int.le_refl _) (vc_MD_lengthsBy_346 _ _ _ _ _ _ _ _ _ s1 _ _ s4 k))⟩
  | succ v ih =>
    intro s B hs h
    have ws : Unit → w32 (s : Int) = s := fun _ => w32_of (by omega)
    have cs := hr s (by omega)
    have hv : B.2.1 378 s = c s := by rw [h s (by omega), if_neg (by omega)]
    obtain ⟨B', g1, g2, g3⟩ := ih (s + 1) (wJ B 378 s (hlf c s)) (by omega) (fun t ht => by
      by_cases e : t = s
      · rw [e, wJ_at, if_pos (by omega)]
      · rw [wJ_no _ (by omega), h t ht]
        by_cases d : t < s
        · rw [if_pos d, if_pos (by omega)]
        · rw [if_neg d, if_neg (by omega)])
    refine ⟨B', ⟨g1.1, g1.2⟩, g2, fun R T k => vc_MD_lengthsBy_309 _ _ _ _ _ _ _ _ _ s1 _ _ s4 ?_⟩
    have g4 := g3 R T k
    rw [show ((s + 1 : Nat) : Int) = (s : Int) + 1 by omega] at g4
    rw [wn (), ws (), hv, w64_of (x := c s + 1) (by omega), w2, w1, Int.tdiv_eq_ediv_of_nonneg (by omega)]
    exact cNo (by omega) (cNo (by decide) ⟨by omega, by omega, fun S3 q3 => by rw [q3]; exact g4⟩)
end PDepM
