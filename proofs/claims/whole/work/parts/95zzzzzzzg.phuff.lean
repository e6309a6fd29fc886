/-! pack: own codes; a round on both sides -/
section PRound
variable {q : Nat × (Nat → Int32)} {n m : Nat} {od : Nat → Nat} {c : Nat → Int}
theorem cG_gt {l : Int → Int} {k : Int} (hk : 0 ≤ k) : ∀ n : Nat, k < cG l n ↔ ∃ s : Nat, s < n ∧ k < l s
  | 0 => ⟨fun y => absurd y (by show ¬ k < 0; omega), fun ⟨s, h, _⟩ => absurd h (by omega)⟩
  | n + 1 => by
    have ih := cG_gt (l := l) hk n
    show (k < if 0 < l n then max (cG l n) (l n) else cG l n) ↔ _
    refine ⟨fun y => ?_, fun ⟨s, h1, h2⟩ => ?_⟩
    · by_cases d : k < cG l n
      · obtain ⟨s, h1, h2⟩ := ih.1 d
        exact ⟨s, by omega, h2⟩
      · refine ⟨n, by omega, ?_⟩
        split at y <;> omega
    · by_cases e : s = n
      · rw [e] at h2
        rw [if_pos (by omega)]
        omega
      · have := ih.2 ⟨s, by omega, h2⟩
        split <;> omega
theorem jr_join {C : Int} (hC : 288 * C < 100000000 ∧ 1 ≤ C) (hn : n ≤ 288 ∧ m ≤ n) (hO : OLv n m od c) (hr : ∀ s : Nat, s < n → 0 ≤ c s ∧ c s ≤ C) : ∃ U D : Nat → Nat, ((∀ i : Nat, i < 2 * m - 2 → i < U i ∧ U i ≤ 2 * m - 2) ∧ D (2 * m - 2) = 0 ∧ (∀ i : Nat, i < 2 * m - 2 → D i = D (U i) + 1) ∧ ∀ i : Nat, i ≤ 2 * m - 2 → D i < 1000) ∧ (∀ i : Nat, i < m → 2 ≤ m → 1 ≤ D i ∧ fbF (D i + 2) ≤ n * C) ∧ (∀ (A : ms) (cd : Nat), isCode cd → (∀ j : Nat, j < m → A.1 (cd + 4) j = od j) → (∀ s : Nat, s < n → A.1 (cd + 8) s = c s) → ∃ A', EX (fun a _ => a = cd + 9 ∨ a = cd + 10) A A' ∧ (∀ j : Nat, j < 2 * m - 2 → A'.1 (cd + 10) j = U j) ∧ EV q 72 0 [some (.ref cd), some (vI m), none, none, none, none, none, none] [] A none A') ∧ ∀ (B : ms) (a1 na1 a4 na4 : Nat) (x3 x6 : Int), SH a1 = (0, na1, []) → SH a4 = (0, na4, []) → (∀ t : Nat, t < n → B.2.1 378 t = c t) → Rh0 B c a4 n → ∃ (B' : ms) (x8 : Int), EY (fun a _ => a = 377) B B' ∧ (∀ t : Nat, t < n → B'.2.1 378 t = c t) ∧ (∀ i : Nat, i < 2 * m - 2 → B'.1 377 (rI n m od i) = ((rI n m od (U i) : Nat) : Int)) ∧ (0 < m → B'.1 377 (rI n m od (2 * m - 2)) = -1) ∧ ∀ (R : Option Value) (T : ms), EV q 299 200 [some (.ref 367), some (.ref a1), some (vI n), some (vI x3), some (.ref a4), some (vI 0), some (vI x6), some (vI m), some (vI x8), some (vI 0), none, none] [] B' R T → EV q 299 115 [some (.ref 367), some (.ref a1), some (vI n), some (vI x3), some (.ref a4), some (vI 0), some (vI x6), some (vI m), some (vI n), some (vI 1), none, none] [] B R T := by
  have hr' : ∀ s : Nat, s < n → 0 ≤ c s ∧ c s < 100000000 := fun s hs => by have := hr s hs; omega
  have wm : Unit → w32 (m : Int) = m := fun _ => w32_of (by omega)
  have w1 : w32 1 = 1 := by decide
  by_cases m0 : m = 0
  · refine ⟨fun _ => 0, fun _ => 0, ⟨fun i hi => absurd hi (by omega), rfl, fun i hi => absurd hi (by omega), fun i _ => by show (0 : Nat) < 1000; decide⟩, fun i hi => absurd hi (by omega), fun A cd hc h4 h8 => ?_, fun B a1 na1 a4 na4 x3 x6 s1 s4 h8 h0 => ?_⟩
    · obtain ⟨A', g1, g2, g3⟩ := cl_jw (q := q) hc hn hO m 0 A (by omega) h4 h8 (fun j hj => absurd hj (by omega))
      refine ⟨A', g1.mono (fun a k y => Or.inl y), fun j hj => absurd hj (by omega), vc_Code_joinAll _ _ hc (g3 none A' (vc_Code_joinAll_37 _ _ _ _ _ hc ?_))⟩
      rw [w32_of (x := 2 * (m : Int) - 1) (by omega), wm ()]
      exact cY (by omega) ⟨rfl, rfl⟩
    · refine ⟨B, n, EY.refl _ B, h8, fun i hi => absurd hi (by omega), fun y => absurd y (by omega), fun R T k => vc_MD_lengthsBy_115 _ _ _ _ _ _ _ _ _ s1 _ _ s4 ?_⟩
      rw [wm (), w1]
      exact cY (by omega) k
  · obtain ⟨W, eW⟩ : ∃ W : Nat → Int, ∀ i, W i = c (od i) := ⟨_, fun _ => rfl⟩
    obtain ⟨i1, i2, i3⟩ := hq_ini (W := W) hO (fun i _ => eW i)
    obtain ⟨Z, eZ⟩ : ∃ Z, Z = sm W m := ⟨_, rfl⟩
    have z1 : Z ≤ m * C := by
      rw [eZ]
      exact sm_le (fun j hj => by rw [eW]; exact (hr (od j) (hO.1 j hj).1).2)
    have z2 : (m : Int) * C ≤ n * C := Int.mul_le_mul_of_nonneg_right (by omega) (by omega)
    have z3 : (n : Int) * C ≤ 288 * C := Int.mul_le_mul_of_nonneg_right (by omega) (by omega)
    have hZ : Z < 100000000 := by omega
    rw [← eZ] at i2
    have wz : ∀ i : Nat, i < m → W i ≤ Z := fun i hi => HT_le i1 i2 (Or.inl ⟨by omega, hi⟩)
    obtain ⟨a', b', W', H', U', L', ⟨g1, g2, g3, g4, g5⟩, gc, gm⟩ := jjoin (q := q) ⟨hn.1, by omega⟩ hO hZ (m - 1) 0 m m W (fun _ => 0) (fun _ => 0) 0 (by omega) (Nat.le_refl _) (by omega) i1 i2 wz (fun i _ => eW i) i3
    have hr1 := g1.1.1
    have ab : (a' = m ∧ b' = 2 * m - 2) ∨ (m = 1 ∧ a' = 0) := by
      rcases g5 with y | y
      · omega
      · omega
    have un : ∀ i : Nat, i < 2 * m - 2 → ¬ unp m a' b' (2 * m - 1) i := fun i hi y => by
      unfold unp at y
      omega
    have hU : ∀ i : Nat, i < 2 * m - 2 → i < U' i ∧ U' i ≤ 2 * m - 2 := fun i hi => by
      have := (g4 i (by omega) (un i hi)).1
      omega
    have hH : ∀ i : Nat, i < 2 * m - 2 → H' i + 1 ≤ H' (U' i) := fun i hi => (g4 i (by omega) (un i hi)).2
    obtain ⟨D, d0, d1, d2⟩ := dp_ex hU hH
    refine ⟨U', D, ⟨hU, d0, d1, fun i hi => by have := (d2 i hi).1; omega⟩, fun i hi h2 => ?_, fun A cd hc h4 h8 => ?_, fun B a1 na1 a4 na4 x3 x6 s1 s4 h8 h0 => ?_⟩
    · have dd := d1 i (by omega)
      have f := (g1.2.2 (2 * m - 2) (by omega)).2.1
      have f2 := g2 (2 * m - 2) (by omega)
      have f3 := (d2 i (by omega)).2
      have f4 := fbF_m (m := D i + 2) (n := H' (2 * m - 2) + 2) (by omega) (by omega)
      exact ⟨by omega, by omega⟩
    · obtain ⟨A1, k1, k2, k3⟩ := cl_jw (q := q) hc hn hO m 0 A (by omega) h4 h8 (fun j hj => absurd hj (by omega))
      obtain ⟨A', l1, l2, l3⟩ := gc A1 cd hc (fun i hi => by rw [k2 i hi, eW]) (fun i hi hu => absurd (Or.inl ⟨by omega, hi⟩) hu)
      exact ⟨A', (k1.mono (fun a k y => Or.inl y)).trans l1, fun j hj => l2 j (by omega) (un j hj), vc_Code_joinAll _ _ hc (k3 none A' l3)⟩
    · have hB := RfH_ini (U := fun _ => 0) (W := W) hO hr' (fun i _ => eW i) h8 h0
      obtain ⟨B', l1, l2, l3⟩ := gm B a1 na1 a4 na4 x3 0 x6 s1 s4 hB
      refine ⟨B', ((n + (2 * m - 1 - m) : Nat) : Int), l1, fun t ht => (l2.1 t ht).2.1, fun i hi => ((l2.2 i (by omega)).2.2 (un i hi)).1, fun _ => (l2.2 (2 * m - 2) (by omega)).2.1 (by unfold unp; omega), fun R T k => ?_⟩
      have l4 := l3 R T k
      rw [show n + (m - m) = n by omega, show ((m - m + 1 : Nat) : Int) = 1 by omega] at l4
      exact l4
/-- what byCounts of the code at cd may change -/
def cdX (cd : Nat) (a : Nat) (k : Int) : Prop := (a = cd ∧ (k = 5 ∨ k = 6 ∨ k = 7)) ∨ (cd < a ∧ a ≤ cd + 10)
/-- lengths L of counts c -/
def HLr (n : Nat) (c : Nat → Int) (C : Int) (L : Nat → Int) : Prop := ∀ s : Nat, s < n → 0 ≤ L s ∧ (c s = 0 → L s = 0) ∧ (0 < c s → 1 ≤ L s) ∧ (L s ≤ 1 ∨ ∃ d : Nat, L s = d ∧ fbF (d + 2) ≤ n * C)
theorem OLv_u {od' : Nat → Nat} (h : OLv n m od c) (h' : OLv n m od' c) : ∀ i : Nat, i < m → od' i = od i := by
  have inj : ∀ {od : Nat → Nat}, OLv n m od c → ∀ i j : Nat, i < m → j < m → od i = od j → i = j := fun {od} h i j hi hj e => by
    by_cases z1 : i < j
    · have := h.2.1 i j z1 hj
      rw [e] at this
      omega
    · by_cases z2 : j < i
      · have := h.2.1 j i z2 hi
        rw [e] at this
        omega
      · omega
  intro i
  induction i using Nat.strongRecOn with
  | _ i ih =>
    intro hi
    have a1 := h.1 i hi
    have a2 := h'.1 i hi
    obtain ⟨j, j1, j2⟩ := h'.2.2 (od i) a1.1 a1.2
    obtain ⟨k, k1, k2⟩ := h.2.2 (od' i) a2.1 a2.2
    by_cases jl : j < i
    · have e := ih j jl j1
      rw [j2] at e
      exact absurd (inj h i j hi j1 e) (by omega)
    · by_cases kl : k < i
      · have e := ih k kl k1
        rw [k2] at e
        exact absurd (inj h' k i k1 hi e) (by omega)
      · by_cases ej : j = i
        · rw [ej] at j2; exact j2
        · by_cases ek : k = i
          · rw [ek] at k2; exact k2.symm
          · have f1 := h'.2.1 i j (by omega) j1
            have f2 := h.2.1 i k (by omega) k1
            rw [j2] at f1
            rw [k2] at f2
            omega
theorem jround {C : Int} {lim cd a1 na1 : Nat} (hC : 288 * C < 100000000 ∧ 1 ≤ C) (hn : n ≤ 288) (hlm : lim < 20) (hr : ∀ s : Nat, s < n → 0 ≤ c s ∧ c s ≤ C) (hb : cd + 10 < 453) (hc : isCode cd) (s1 : SH a1 = (0, na1, [])) {a1m na1m a4 na4 : Nat} (s1m : SH a1m = (0, na1m, [])) (s4 : SH a4 = (0, na4, [])) (h4 : a4 ≠ 377 ∧ n ≤ na4 ∧ na4 < 100000) : ∃ (L : Nat → Int) (l : Int → Int), HLr n c C L ∧ (∀ s : Nat, s < n → l s = min (L s) 20) ∧ (∀ A : ms, (∀ s : Nat, s < n → A.1 (cd + 8) s = c s) → ∃ A' : ms, EX (cdX cd) A A' ∧ (∀ s : Nat, s < n → A'.1 (cd + 8) s = c s) ∧ (∀ s : Nat, s < n → A'.1 (cd + 1) s = l s) ∧ (∃ A0, SetP cd n l A0 A') ∧ ∀ x4 : Int, 0 ≤ x4 → x4 < 40 → ((∃ s : Nat, s < n ∧ (lim : Int) < L s) → ∃ z : Int, ∀ (R : Option Value) (T : ms), EV q 70 73 [some (.ref cd), some (.ref a1), some (vI n), some (vI lim), some (vI x4), some (vI z), some (vI 0)] [] A' R T → EV q 70 29 [some (.ref cd), some (.ref a1), some (vI n), some (vI lim), some (vI x4), none, none] [] A R T) ∧ ((∀ s : Nat, s < n → L s ≤ lim) → EV q 70 29 [some (.ref cd), some (.ref a1), some (vI n), some (vI lim), some (vI x4), none, none] [] A none A')) ∧ ∀ B : ms, (∀ s : Nat, s < n → B.2.1 378 s = c s) → ∃ B' : ms, EY (fun a _ => a = 377 ∨ a = a4) B B' ∧ (∀ s : Nat, s < n → B'.2.1 378 s = c s) ∧ (∀ s : Nat, s < n → B'.1 a4 s = L s) ∧ ((∃ s : Nat, s < n ∧ (lim : Int) < L s) → ∃ x7 x8 : Int, ∀ (R : Option Value) (T : ms), EV q 299 309 [some (.ref 367), some (.ref a1m), some (vI n), some (vI lim), some (.ref a4), some (vI 0), some (vI 1), some (vI x7), some (vI x8), some (vI 0), none, none] [] B' R T → EV q 299 30 [some (.ref 367), some (.ref a1m), some (vI n), some (vI lim), some (.ref a4), some (vI 0), some (vI 1), none, none, none, none, none] [] B R T) ∧ ((∀ s : Nat, s < n → L s ≤ lim) → EV q 299 30 [some (.ref 367), some (.ref a1m), some (vI n), some (vI lim), some (.ref a4), some (vI 0), some (vI 1), none, none, none, none, none] [] B none B') := by
  have hr' : ∀ s : Nat, s < n → 0 ≤ c s ∧ c s < 100000000 := fun s hs => by have := hr s hs; omega
  have w1 : w32 1 = 1 := by decide
  have ord : ∀ A : ms, (∀ s : Nat, s < n → A.1 (cd + 8) s = c s) → ∃ (A1 : ms) (m : Nat) (od : Nat → Nat), EX (fun a _ => a = cd + 4) A A1 ∧ OLv n m od c ∧ (m ≤ n ∧ m = pcF c n) ∧ (∀ i : Nat, i < m → A1.1 (cd + 4) i = od i) ∧ EV q 71 4 [some (.ref cd), some (vI n), some (vI 0), some (vI 0), none] [] A (some (vI m)) A1 := fun A hA => cl_order (q := q) (c := c) hc hn hr' n 0 0 (fun _ => 0) A (by omega) ⟨by omega, rfl⟩ ⟨fun i hi => absurd hi (by omega), fun i j _ hj => absurd hj (by omega), fun s hs => absurd hs (by omega)⟩ (fun i hi => absurd hi (by omega)) hA
  obtain ⟨m, od, hO, o2⟩ : ∃ (m : Nat) (od : Nat → Nat), OLv n m od c ∧ (m ≤ n ∧ m = pcF c n) := by
    obtain ⟨_, m, od, _, hO, o2, _⟩ := ord (fun _ k => c k.toNat, fun _ _ => 0, fun _ _ => 0) (fun s _ => rfl)
    exact ⟨m, od, hO, o2⟩
  obtain ⟨U, D, ⟨u1, u2, u3, u4⟩, u5, jc, jm⟩ := jr_join (q := q) hC ⟨hn, o2.1⟩ hO hr
  obtain ⟨L, eL⟩ : ∃ L : Nat → Int, (∀ s : Nat, s < n → c s = 0 → L s = 0) ∧ ∀ j : Nat, j < m → L (od j) = ((if m = 1 then 1 else 0 : Nat) : Int) + D j := by
    have key : ∀ s : Nat, ∃ z : Int, (s < n → c s = 0 → z = 0) ∧ ∀ j : Nat, j < m → od j = s → z = ((if m = 1 then 1 else 0 : Nat) : Int) + D j := fun s => by
      by_cases e : ∃ j : Nat, j < m ∧ od j = s
      · obtain ⟨j, j1, j2⟩ := e
        refine ⟨((if m = 1 then 1 else 0 : Nat) : Int) + D j, fun _ y => ?_, fun j' h1 h2 => ?_⟩
        · have := (hO.1 j j1).2
          rw [j2] at this
          omega
        · have ej : j' = j := by
            by_cases z1 : j' < j
            · have := hO.2.1 j' j z1 j1
              rw [h2, j2] at this
              omega
            · by_cases z2 : j < j'
              · have := hO.2.1 j j' z2 h1
                rw [h2, j2] at this
                omega
              · omega
          rw [ej]
      · exact ⟨0, fun _ _ => rfl, fun j h1 h2 => absurd ⟨j, h1, h2⟩ e⟩
    obtain ⟨L, hL⟩ : ∃ L : Nat → Int, ∀ s : Nat, (s < n → c s = 0 → L s = 0) ∧ ∀ j : Nat, j < m → od j = s → L s = ((if m = 1 then 1 else 0 : Nat) : Int) + D j := ⟨fun s => Classical.choose (key s), fun s => Classical.choose_spec (key s)⟩
    exact ⟨L, fun s hs y => (hL s).1 hs y, fun j hj => (hL (od j)).2 j hj rfl⟩
  have hL : HLr n c C L := fun s hs => by
    by_cases z : c s = 0
    · rw [eL.1 s hs z]
      exact ⟨by omega, fun _ => rfl, fun y => by omega, Or.inl (by omega)⟩
    · have cs := hr s hs
      obtain ⟨j, j1, j2⟩ := hO.2.2 s hs (by omega)
      have lj := eL.2 j j1
      rw [j2] at lj
      by_cases m1 : m = 1
      · have d0 : D j = 0 := by
          have e : j = 2 * m - 2 := by omega
          rw [e]; exact u2
        rw [lj, if_pos m1, d0]
        exact ⟨by omega, fun y => absurd y z, fun _ => by omega, Or.inl (by omega)⟩
      · have f := u5 j j1 (by omega)
        rw [lj, if_neg m1]
        exact ⟨by omega, fun y => absurd y z, fun _ => by omega, Or.inr ⟨D j, by omega, f.2⟩⟩
  obtain ⟨l, el⟩ : ∃ l : Int → Int, ∀ k, l k = min (L k.toNat) 20 := ⟨_, fun _ => rfl⟩
  have el' : ∀ s : Nat, l s = min (L s) 20 := fun s => by rw [el]; rfl
  have lrg : ∀ s : Nat, s < n → 0 ≤ l s ∧ l s ≤ 20 := fun s hs => by
    rw [el']
    have := (hL s hs).1
    omega
  have cgr := cG_rg (l := l) n lrg
  have gtl : (lim : Int) < cG l n ↔ ∃ s : Nat, s < n ∧ (lim : Int) < L s := by
    rw [cG_gt (by omega)]
    refine ⟨fun ⟨s, h1, h2⟩ => ⟨s, h1, by rw [el'] at h2; omega⟩, fun ⟨s, h1, h2⟩ => ⟨s, h1, by rw [el']; omega⟩⟩
  refine ⟨L, l, hL, fun s _ => el' s, fun A hA => ?_, fun B hB => ?_⟩
  · obtain ⟨A1, m', od', o1, hO', o2', o3', o4⟩ := ord A hA
    have em : m' = m := by rw [o2'.2, o2.2]
    subst em
    have o3 : ∀ i : Nat, i < m' → A1.1 (cd + 4) i = od i := fun i hi => by rw [o3' i hi, OLv_u hO hO' i hi]
    have a18 : ∀ s : Nat, s < n → A1.1 (cd + 8) s = c s := fun s hs => by rw [o1.2 _ _ (by omega)]; exact hA s hs
    obtain ⟨A2, p1, p2, p3⟩ := jc A1 cd hc o3 a18
    obtain ⟨A3, r1, r2, r3, r4⟩ := cl_tell (q := q) hc ⟨hn, o2.1⟩ hO u1 u2 u3 u4 (A := A2) (fun j hj => by rw [p1.2 _ _ (by omega)]; exact o3 j hj) p2
    have l3 : ∀ s : Nat, s < n → A3.1 (cd + 1) s = l s := fun s hs => by
      rw [el']
      by_cases z : c s = 0
      · rw [r2 s hs z, eL.1 s hs z]; decide
      · have cs := hr s hs
        obtain ⟨j, j1, j2⟩ := hO.2.2 s hs (by omega)
        have lj := eL.2 j j1
        have rj := r3 j j1
        rw [j2] at lj rj
        rw [rj, lj]
    obtain ⟨A4, t1, t2⟩ := ev_settle (q := q) (b := cd) (n := n) (l := l) (S := A3) hb hc hn lrg l3
    have t5 : A4.1 cd 5 = cG l n := t2.2.2.1.1
    have x14 : EX (cdX cd) A A4 := by
      refine ((o1.mono (fun a k y => Or.inr (by omega))).trans ((p1.mono (fun a k y => Or.inr (by omega))).trans (r1.mono (fun a k y => Or.inr (by omega))))).trans ⟨t2.1, fun a k y => t2.2.1 a k (fun z => y (Or.inl z)) (fun z => y (Or.inr (by omega)))⟩
    have a48 : ∀ s : Nat, s < n → A4.1 (cd + 8) s = c s := fun s hs => by
      rw [t2.2.1 _ _ (by omega) (by omega), r1.2 _ _ (by omega), p1.2 _ _ (by omega)]
      exact a18 s hs
    have a41 : ∀ s : Nat, s < n → A4.1 (cd + 1) s = l s := fun s hs => by
      rw [t2.2.1 _ _ (by omega) (by omega)]
      exact l3 s hs
    refine ⟨A4, x14, a48, a41, ⟨A3, t2⟩, fun x4 h40 h41 => ⟨fun hex => ⟨m', fun R T k => ?_⟩, fun hall => ?_⟩⟩
    · refine vc_Code_byCounts_29 _ _ _ _ hc _ _ s1 ?_
      rw [w32_of (x := x4) (by omega)]
      refine cNo (by omega) ⟨m', A1, vc_Code_orderLeaves _ _ hc o4, A2, p3, A3, r4, A4, t1, ?_⟩
      rw [t5, show w32 (lim : Int) = lim from w32_of (by omega), w32_of (x := cG l n) (by omega)]
      exact cY (gtl.2 hex) k
    · refine vc_Code_byCounts_29 _ _ _ _ hc _ _ s1 ?_
      rw [w32_of (x := x4) (by omega)]
      refine cNo (by omega) ⟨m', A1, vc_Code_orderLeaves _ _ hc o4, A2, p3, A3, r4, A4, t1, ?_⟩
      rw [t5, show w32 (lim : Int) = lim from w32_of (by omega), w32_of (x := cG l n) (by omega)]
      refine cNo (fun y => ?_) ⟨rfl, rfl⟩
      obtain ⟨s, h1, h2⟩ := gtl.1 y
      have := hall s h1
      omega
  · obtain ⟨B1, f1, f2, f3, f4⟩ := md_h0 (q := q) (c := c) (x3 := lim) (x6 := 0) s1m s4 h4 hn hr' n 0 B (by omega) hB (fun t ht => absurd ht (by omega))
    obtain ⟨B2, x8, v1, v2, v3, v4, v5⟩ := jm B1 a1m na1m a4 na4 lim 0 s1m s4 f2 f3
    obtain ⟨B3, x6', k1, k2, k3, k4⟩ := md_dps (q := q) (x8 := x8) (lim := lim) s1m s4 h4 ⟨hn, o2.1, by omega⟩ hO (r := 2 * m - 2) rfl u1 u2 u3 u4 eL.1 eL.2 n 0 0 B2 (by omega) (fun t ht => ⟨hr' t ht, v2 t ht⟩) v3 v4 (Or.inl ⟨rfl, fun t ht => absurd ht (by omega)⟩) (fun t ht => absurd ht (by omega))
    have yB : EY (fun a _ => a = 377 ∨ a = a4) B B3 := (f1.trans (v1.mono (fun a k y => Or.inl y))).trans ((k1.mono (fun a k y => Or.inr y)).ey)
    have from30 : ∀ (R : Option Value) (T : ms), EV q 299 309 [some (.ref 367), some (.ref a1m), some (vI n), some (vI lim), some (.ref a4), some (vI 0), some (vI x6'), some (vI m), some (vI x8), some (vI 0), none, none] [] B3 R T → EV q 299 30 [some (.ref 367), some (.ref a1m), some (vI n), some (vI lim), some (.ref a4), some (vI 0), some (vI 1), none, none, none, none, none] [] B R T := fun R T k => by
      refine vc_MD_lengthsBy_30 _ _ _ _ _ _ s1m _ _ s4 ?_
      rw [w1]
      have k5 := v5 R T (k4 R T k)
      rw [o2.2] at k5
      exact cNo (by decide) (f4 R T k5)
    refine ⟨B3, yB, fun s hs => by rw [k1.1]; exact v2 s hs, k2, fun hex => ?_, fun hall => ?_⟩
    · rcases k3 with ⟨y1, y2⟩ | ⟨y1, y2⟩
      · obtain ⟨s, h1, h2⟩ := hex
        have := y2 s h1
        omega
      · rw [y1] at from30
        exact ⟨m, x8, from30⟩
    · rcases k3 with ⟨y1, y2⟩ | ⟨y1, y2⟩
      · rw [y1] at from30
        have w0 : w32 0 = 0 := by decide
        have e30 : EV q 299 30 [some (.ref 367), some (.ref a1m), some (vI n), some (vI lim), some (.ref a4), some (vI 0), some (vI 0), none, none, none, none, none] [] B3 none B3 := vc_MD_lengthsBy_30 _ _ _ _ _ _ s1m _ _ s4 (by rw [w0]; exact cY rfl ⟨rfl, rfl⟩)
        refine from30 none B3 (vc_MD_lengthsBy_309 _ _ _ _ _ _ _ _ _ s1m _ _ s4 ?_)
        have k346 : EV q 299 346 [some (.ref 367), some (.ref a1m), some (vI n), some (vI lim), some (.ref a4), some (vI 0), some (vI 0), some (vI m), some (vI x8), some (vI 0), none, none] [] B3 none B3 := vc_MD_lengthsBy_346 _ _ _ _ _ _ _ _ _ s1m _ _ s4 e30
        by_cases d : w32 (n : Int) ≤ w32 0
        · exact cY d k346
        · exact cNo d (cY w0 k346)
      · obtain ⟨s, h1, h2⟩ := y2
        have := hall s h1
        omega
/-- LENGTHS BY COUNTS, both sides -/
theorem jcodes {lim cd a1 na1 : Nat} (hn : n ≤ 288) (hlm : lim < 20 ∧ (11 ≤ lim ∨ (5 ≤ lim ∧ n ≤ 20))) (hb : cd + 10 < 453) (hc : isCode cd) (s1 : SH a1 = (0, na1, [])) {a1m na1m a4 na4 : Nat} (s1m : SH a1m = (0, na1m, [])) (s4 : SH a4 = (0, na4, [])) (h4 : a4 ≠ 377 ∧ n ≤ na4 ∧ na4 < 100000) : ∀ (e : Nat) (x4 : Int) (c : Nat → Int), e ≤ 18 → 0 ≤ x4 → x4 + e < 40 → (∀ s : Nat, s < n → 0 ≤ c s ∧ c s ≤ (2 : Int) ^ e) → ∃ l : Int → Int, (∀ s : Nat, s < n → 0 ≤ l s ∧ l s ≤ lim ∧ (c s = 0 → l s = 0) ∧ (0 < c s → 1 ≤ l s)) ∧ (∀ A : ms, (∀ s : Nat, s < n → A.1 (cd + 8) s = c s) → ∃ A' : ms, EX (cdX cd) A A' ∧ (∀ s : Nat, s < n → A'.1 (cd + 1) s = l s) ∧ (∃ A0, SetP cd n l A0 A') ∧ EV q 70 29 [some (.ref cd), some (.ref a1), some (vI n), some (vI lim), some (vI x4), none, none] [] A none A') ∧ ∀ B : ms, (∀ s : Nat, s < n → B.2.1 378 s = c s) → ∃ B' : ms, EY (fun a _ => a = 377 ∨ a = a4) B B' ∧ (∀ s : Nat, s < n → B'.1 a4 s = l s) ∧ EV q 299 30 [some (.ref 367), some (.ref a1m), some (vI n), some (vI lim), some (.ref a4), some (vI 0), some (vI 1), none, none, none, none, none] [] B none B' := by
  intro e
  induction e with
  | zero =>
    intro x4 c _ h0 h40 hr
    obtain ⟨L, l, hL, el, kA, kB⟩ := jround (q := q) (C := 1) (by decide) hn hlm.1 (fun s hs => by have := hr s hs; exact ⟨this.1, this.2⟩) hb hc s1 s1m s4 h4
    have lm : ∀ s : Nat, s < n → L s ≤ lim := fun s hs => by
      rcases (hL s hs).2.2.2 with y | ⟨d, d1, d2⟩
      · rcases hlm.2 with z | z <;> omega
      · rw [d1]
        rcases hlm.2 with z | z
        · by_cases g : 12 ≤ d
          · have f := fbF_m (m := 14) (n := d + 2) (by decide) (by omega)
            have := fb_t.1
            omega
          · omega
        · by_cases g : 6 ≤ d
          · have f := fbF_m (m := 8) (n := d + 2) (by decide) (by omega)
            have := fb_t.2
            omega
          · omega
    have ll : ∀ s : Nat, s < n → l s = L s := fun s hs => by
      rw [el s hs]
      have := lm s hs
      omega
    refine ⟨l, fun s hs => by rw [ll s hs]; have y := hL s hs; exact ⟨y.1, lm s hs, y.2.1, y.2.2.1⟩, fun A hA => ?_, fun B hB => ?_⟩
    · obtain ⟨A', p1, p2, p3, p4, p5⟩ := kA A hA
      exact ⟨A', p1, p3, p4, (p5 x4 h0 (by omega)).2 lm⟩
    · obtain ⟨B', q1, q2, q3, q4, q5⟩ := kB B hB
      exact ⟨B', q1, fun s hs => by rw [ll s hs]; exact q3 s hs, q5 lm⟩
  | succ e ih =>
    intro x4 c he h0 h40 hr
    have pw : (2 : Int) ^ (e + 1) = 2 ^ e * 2 := rfl
    have pe : (1 : Int) ≤ 2 ^ e ∧ (2 : Int) ^ e ≤ 131072 := by
      have key : ∀ e : Fin 18, (1 : Int) ≤ 2 ^ e.val ∧ (2 : Int) ^ e.val ≤ 131072 := by decide
      exact key ⟨e, by omega⟩
    obtain ⟨P, eP⟩ : ∃ P : Int, P = 2 ^ e := ⟨_, rfl⟩
    rw [← eP] at pw pe ih
    have hr2 : ∀ s : Nat, s < n → 0 ≤ c s ∧ c s ≤ P * 2 := fun s hs => by have := hr s hs; rw [pw] at this; exact this
    obtain ⟨L, l, hL, el, kA, kB⟩ := jround (q := q) (C := P * 2) (by omega) hn hlm.1 hr2 hb hc s1 s1m s4 h4
    by_cases hex : ∃ s : Nat, s < n ∧ (lim : Int) < L s
    · have hr' : ∀ s : Nat, s < n → 0 ≤ c s ∧ c s < 100000000 := fun s hs => by have := hr2 s hs; omega
      obtain ⟨l', g1, gA, gB⟩ := ih (x4 + 1) (hlf c) (by omega) (by omega) (by omega) (fun s hs => by
        have := hr2 s hs
        unfold hlf
        omega)
      refine ⟨l', fun s hs => ?_, fun A hA => ?_, fun B hB => ?_⟩
      · obtain ⟨y1, y2, y3, y4⟩ := g1 s hs
        have := hr2 s hs
        unfold hlf at y3 y4
        exact ⟨y1, y2, fun z => y3 (by omega), fun z => y4 (by omega)⟩
      · obtain ⟨A', p1, p2, p3, p4, p5⟩ := kA A hA
        obtain ⟨z, kz⟩ := (p5 x4 h0 (by omega)).1 hex
        obtain ⟨A2, a1', a2, a3⟩ := cl_half (q := q) (c := c) (x3 := lim) (x4 := x4) (x5 := z) hc s1 hn hr' n 0 A' (by omega) (fun t ht => by rw [if_neg (by omega)]; exact p2 t ht)
        obtain ⟨A3, g2, g3, g4, g5⟩ := gA A2 a2
        exact ⟨A3, (p1.trans (a1'.mono (fun a k y => Or.inr (by omega)))).trans g2, g3, g4, kz none A3 (a3 none A3 g5)⟩
      · obtain ⟨B', q1, q2, q3, q4, q5⟩ := kB B hB
        obtain ⟨x7, x8, km⟩ := q4 hex
        obtain ⟨B2, b1, b2, b3⟩ := md_half (q := q) (c := c) (x3 := lim) (x5 := 0) (x7 := x7) (x8 := x8) s1m s4 hn hr' n 0 B' (by omega) (fun t ht => by rw [if_neg (by omega)]; exact q2 t ht)
        obtain ⟨B3, g6, g7, g8⟩ := gB B2 b2
        exact ⟨B3, (q1.trans ⟨b1.2, fun a k _ => by rw [b1.1]⟩).trans g6, g7, km none B3 (b3 none B3 g8)⟩
    · have lm : ∀ s : Nat, s < n → L s ≤ lim := fun s hs => by
        by_cases d : (lim : Int) < L s
        · exact absurd ⟨s, hs, d⟩ hex
        · omega
      have ll : ∀ s : Nat, s < n → l s = L s := fun s hs => by
        rw [el s hs]
        have := lm s hs
        omega
      refine ⟨l, fun s hs => by rw [ll s hs]; have y := hL s hs; exact ⟨y.1, lm s hs, y.2.1, y.2.2.1⟩, fun A hA => ?_, fun B hB => ?_⟩
      · obtain ⟨A', p1, p2, p3, p4, p5⟩ := kA A hA
        exact ⟨A', p1, p3, p4, (p5 x4 h0 (by omega)).2 lm⟩
      · obtain ⟨B', q1, q2, q3, q4, q5⟩ := kB B hB
        exact ⟨B', q1, fun s hs => by rw [ll s hs]; exact q3 s hs, q5 lm⟩
/-- LENGTHS BY COUNTS, from the calls -/
theorem jbyC {lim cd a1 na1 : Nat} (hn : n ≤ 288) (hlm : lim < 20 ∧ (11 ≤ lim ∨ (5 ≤ lim ∧ n ≤ 20))) (hb : cd + 10 < 453) (hc : isCode cd) (s1 : SH a1 = (0, na1, [])) (h1 : n ≤ na1 ∧ (a1 < cd ∨ cd + 10 < a1)) {a1m na1m a4 na4 : Nat} (s1m : SH a1m = (0, na1m, [])) (h1m : n ≤ na1m) (s4 : SH a4 = (0, na4, [])) (h4 : a4 ≠ 377 ∧ n ≤ na4 ∧ na4 < 100000) (hr : ∀ s : Nat, s < n → 0 ≤ c s ∧ c s ≤ 10000) : ∃ l : Int → Int, (∀ s : Nat, s < n → 0 ≤ l s ∧ l s ≤ lim ∧ (c s = 0 → l s = 0) ∧ (0 < c s → 1 ≤ l s)) ∧ (∀ A : ms, (∀ s : Nat, s < n → A.1 a1 s = c s) → ∃ A' : ms, EX (cdX cd) A A' ∧ CodW A' cd n l ∧ (∃ A0, SetP cd n l A0 A') ∧ EV q 70 0 [some (.ref cd), some (.ref a1), some (vI n), some (vI lim), none, none, none] [] A none A') ∧ ∀ B : ms, (∀ s : Nat, s < n → B.1 a1m s = c s) → ∃ B' : ms, EY (fun a _ => a = 377 ∨ a = a4) B B' ∧ (∀ s : Nat, s < n → B'.1 a4 s = l s) ∧ EV q 299 0 [some (.ref 367), some (.ref a1m), some (vI n), some (vI lim), some (.ref a4), some (vI 0), none, none, none, none, none, none] [] B none B' := by
  have hr' : ∀ s : Nat, s < n → 0 ≤ c s ∧ c s < 100000000 := fun s hs => by have := hr s hs; omega
  have p14 : (2 : Int) ^ 14 = 16384 := by decide
  obtain ⟨l, g1, gA, gB⟩ := jcodes (q := q) hn hlm hb hc s1 s1m s4 h4 14 0 c (by decide) (by decide) (by decide) (fun s hs => by rw [p14]; have := hr s hs; omega)
  refine ⟨l, g1, fun A hA => ?_, fun B hB => ?_⟩
  · obtain ⟨A1, k1, k2, k3⟩ := cl_cpy (q := q) (c := c) (x3 := lim) hc s1 ⟨h1.1, by omega⟩ hn n 0 A (by omega) hA (fun t ht => absurd ht (by omega))
    obtain ⟨A', m1, m2, ⟨A0, m3⟩, m4⟩ := gA A1 k2
    exact ⟨A', (k1.mono (fun a k y => Or.inr (by omega))).trans m1, ⟨hc, hn, fun s hs => ⟨by have := g1 s hs; omega, m2 s hs⟩, fun s hs y => (m3.2.2.2.2 s hs y).2.1⟩, ⟨A0, m3⟩, vc_Code_byCounts _ _ _ hc _ _ s1 (k3 none A' m4)⟩
  · obtain ⟨B1, k1, k2, k3⟩ := md_cpy (q := q) (c := c) (x3 := lim) (x5 := 0) s1m s4 h1m hn hr' n 0 B (by omega) hB (fun t ht => absurd ht (by omega))
    obtain ⟨B', m1, m2, m3⟩ := gB B1 k2
    exact ⟨B', EY.trans ⟨k1.2, fun a k _ => by rw [k1.1]⟩ m1, m2, vc_MD_lengthsBy _ _ _ _ _ s1m _ _ s4 (k3 none B' m3)⟩
end PRound
