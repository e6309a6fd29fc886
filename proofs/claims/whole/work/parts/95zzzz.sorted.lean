/-! SORTED: all signs, both sides at once -/
section Srt6
variable {q : Nat × (Nat → Int32)} {en : Int}
theorem sg_none {A T : ms} {r : Option Value} {x2 : Int} {s : Nat} (k : EV q 163 15 [some (.ref 94), some (.ref 9), some (vL x2), none, some (vI ((s : Int) + 1)), none, none, none] [] A r T) : ∀ (d v : Nat), v + d = 16 → EV q 163 57 [some (.ref 94), some (.ref 9), some (vL x2), none, some (vI s), some (vL 0), none, some (vI v)] [] A r T := by
  intro d
  induction d with
  | zero =>
    intro v hd
    have e : v = 16 := by omega
    subst e
    exact vc_Sorted_openSigns_57 _ _ _ _ (cY (by decide) k)
  | succ d ih =>
    intro v hd
    have wv : Unit → w32 ((v : Nat) : Int) = v := fun _ => w32_of (by omega)
    have ev : ((v + 1 : Nat) : Int) = (v : Int) + 1 := by omega
    have k5 := ih (v + 1) (by omega)
    rw [ev] at k5
    refine vc_Sorted_openSigns_57 _ _ _ _ ?_
    rw [wv ()]
    exact cNo (by omega) (cY ((sg_bit (y := 0) (by decide) (show v < 16 by omega)).2 (by rw [Int.zero_ediv]; decide)) (vc_Sorted_openSigns_105 _ _ _ _ k5))
theorem jsgS {t : Int → Int} {w : Int} (he : 0 ≤ en ∧ en ≤ 6000) (ht : ∀ k : Int, 0 ≤ k → k < en → 0 ≤ t k ∧ t k < 256) (hw : 0 ≤ w ∧ w < 65536) : ∀ (d s m : Nat) (g : Int → Int) (st : Rd) (h : Int), s + d = 16 → m ≤ 16 * s → (∀ k : Nat, k < m → 0 ≤ g k ∧ g k < 256) → rdR en st → hR st h → st.1 = 0 → ∃ (m' : Nat) (g' : Int → Int) (st' : Rd) (h' : Int), (rdR en st' ∧ Fw st st' ∧ hR st' h' ∧ st'.2.2.2 = st.2.2.2) ∧ m' ≤ 256 ∧ (∀ k : Nat, k < m' → 0 ≤ g' k ∧ g' k < 256) ∧ (st'.1 = 0 → rdP st h ≤ rdP st' h') ∧ (∀ (S A : ms) (o : Nat), S.1 9 7 = 1 → RdC S o en t → SgC S m g → CB S A o en t st h → ∃ S1 A1, EX (fun a k => a = 102 ∨ (a = 94 ∧ k = 9)) S S1 ∧ CB S1 A1 o en t st' h' ∧ (st'.1 = 0 → SgC S1 m' g') ∧ ∀ (r : Option Value) (T : ms), (∀ x4 : Int, EV q 163 117 [some (.ref 94), some (.ref 9), some (vL w), none, some (vI x4), none, none, none] [] A1 r T) → EV q 163 15 [some (.ref 94), some (.ref 9), some (vL w), none, some (vI s), none, none, none] [] A r T) ∧ ∀ S B : ms, S.1 367 18 = 1 → RdM S en t → SgM S m g → MB S B en st h → ∃ S1 B1, EX (fun a _ => a = 409) S S1 ∧ MB S1 B1 en st' h' ∧ (st'.1 = 0 → SgM S1 m' g') ∧ ∀ (x1 x2 : Int) (r : Option Value) (T : ms), (∀ x6 : Int, EV q 363 146 [some (.ref 367), some (vI x1), some (vL x2), none, some (vI w), some (vI m'), some (vI x6), none, none, none, none, none] [] B1 r T) → EV q 363 45 [some (.ref 367), some (vI x1), some (vL x2), none, some (vI w), some (vI m), some (vI s), none, none, none, none, none] [] B r T := by
  intro d
  induction d with
  | zero =>
    intro s m g st h hd hm hg hr hh c0
    have e : s = 16 := by omega
    subst e
    exact ⟨m, g, st, h, ⟨hr, Fw_r st, hh, rfl⟩, by omega, hg, fun _ => Int.le_refl _, fun S A o hS hC hG hA => ⟨S, A, EX.refl _ S, hA, fun _ => hG, fun r T k => vc_Sorted_openSigns_15 _ _ (cY (by decide) (k _))⟩, fun S B hS hC hG hB => ⟨S, B, EX.refl _ S, hB, fun _ => hG, fun x1 x2 r T k => vc_MD_sortedBlock_45 _ _ _ _ _ (cY (by decide) (k _))⟩⟩
  | succ d ih =>
    intro s m g st h hd hm hg hr hh c0
    have ws : Unit → w32 ((s : Nat) : Int) = s := fun _ => w32_of (by omega)
    have es : ((s + 1 : Nat) : Int) = (s : Int) + 1 := by omega
    have ww : w32 w = w := w32_of (by omega)
    have hb := sg_bit hw (show s < 16 by omega)
    have hr2 : 0 ≤ w / (2 : Int) ^ (15 - s) % 2 ∧ w / (2 : Int) ^ (15 - s) % 2 < 2 := ⟨Int.emod_nonneg _ (by decide), Int.emod_lt_of_pos _ (by decide)⟩
    have wb : w32 (w / (2 : Int) ^ (15 - s) % 2) = w / (2 : Int) ^ (15 - s) % 2 := w32_of (by omega)
    by_cases c : w / (2 : Int) ^ (15 - s) % 2 = 0
    · obtain ⟨m', g', st', h', j0, j1, j2, j2', j3, j4⟩ := ih (s + 1) m g st h (by omega) (by omega) hg hr hh c0
      refine ⟨m', g', st', h', j0, j1, j2, j2', fun S A o hS hC hG hA => ?_, fun S B hS hC hG hB => ?_⟩
      · obtain ⟨S1, A1, k1, k2, k3, k4⟩ := j3 S A o hS hC hG hA
        have h5 : A.1 9 5 = 0 := by rw [hA.2.1.2.1]; exact c0
        refine ⟨S1, A1, k1, k2, k3, fun r T k => vc_Sorted_openSigns_15 _ _ ?_⟩
        have k5 := k4 r T k
        rw [es] at k5
        rw [ws (), h5]
        exact cNo (by omega) (cNN (by decide) (cY (hb.2 c) (vc_Sorted_openSigns_52 _ _ _ (sg_none k5 16 0 (by decide)))))
      · obtain ⟨S1, B1, k1, k2, k3, k4⟩ := j4 S B hS hC hG hB
        have kf := md_fine (q := q) hr hB
        rw [if_pos c0] at kf
        refine ⟨S1, B1, k1, k2, k3, fun x1 x2 r T k => vc_MD_sortedBlock_45 _ _ _ _ _ ?_⟩
        have k5 := k4 x1 x2 r T k
        rw [es] at k5
        rw [ws (), ww, sg_sh (show s < 16 by omega), wb]
        exact cNo (by omega) ⟨1, B, kf, cNo (by decide) (cNN c (vc_MD_sortedBlock_140 _ _ _ _ _ k5))⟩
    · obtain ⟨z, z', st1, h1, ⟨a1, a2, a3, a4⟩, aR, a5, a6, a7⟩ := jbitsR0 (q := q) (hi := 1) he.2 ht (Or.inr rfl) (n := 16) (by omega) hr hh
      rw [show (2 : Int) ^ 16 = 65536 by decide] at aR
      obtain ⟨m1, g1, v1, v2, v3, v4⟩ := jsgV (q := q) (en := en) (t := t) (y := z) (s := s) aR.1 (by omega) (st := st1) (h := h1) a1 16 0 m g (by omega) (by omega) hg
      by_cases c1 : st1.1 = 0
      · obtain ⟨ez, _, pz⟩ := a5 c1
        subst ez
        obtain ⟨m', g', st', h', j0, j1, j2, j2', j3, j4⟩ := ih (s + 1) m1 g1 st1 h1 (by omega) (by omega) v2 a1 a3 c1
        refine ⟨m', g', st', h', ⟨j0.1, Fw_t a2 j0.2.1, j0.2.2.1, j0.2.2.2.trans a4⟩, j1, j2, fun y => by have := j2' y; omega, fun S A o hS hC hG hA => ?_, fun S B hS hC hG hB => ?_⟩
        · obtain ⟨A1, k1, k2⟩ := a6 S A o hS hC hA
          obtain ⟨S2, A2, k3, k4, k5, k6⟩ := v3 S A1 o hC.2.2.1 hG k2
          obtain ⟨S3, A3, k7, k8, k9, k10⟩ := j3 S2 A2 o (by rw [k3.2 9 7 (show ¬ ((9 : Nat) = 102 ∨ ((9 : Nat) = 94 ∧ (7 : Int) = 9)) by decide)]; exact hS) (RdC_ey hC k3.ey (fun k => show ¬ ((2 : Nat) = 102 ∨ ((2 : Nat) = 94 ∧ k = 9)) by omega)) k5 k4
          have h5 : A.1 9 5 = 0 := by rw [hA.2.1.2.1]; exact c0
          refine ⟨S3, A3, EX.trans k3 k7, k8, k9, fun r T k => vc_Sorted_openSigns_15 _ _ ?_⟩
          have k11 := k10 r T k
          rw [es] at k11
          rw [ws (), h5]
          exact cNo (by omega) (cNN (by decide) (cNo (fun y => c (hb.1 y)) ⟨z, A1, k1, vc_Sorted_openSigns_52 _ _ _ (k6 _ r T k11)⟩))
        · obtain ⟨B1, k1, k2⟩ := a7 S B hS hC hB
          obtain ⟨S2, B2, k3, k4, k5, k6⟩ := v4 c1 S B1 hG k2
          obtain ⟨S3, B3, k7, k8, k9, k10⟩ := j4 S2 B2 (by rw [k3.2 367 18 (show ¬ (367 : Nat) = 409 by decide)]; exact hS) (RdM_ey hC k3.ey (fun k => show ¬ (368 : Nat) = 409 by decide)) k5 k4
          have kf := md_fine (q := q) hr hB
          rw [if_pos c0] at kf
          refine ⟨S3, B3, EX.trans k3 k7, k8, k9, fun x1 x2 r T k => vc_MD_sortedBlock_45 _ _ _ _ _ ?_⟩
          have k11 := k10 x1 x2 r T k
          rw [es] at k11
          rw [ws (), ww, sg_sh (show s < 16 by omega), wb]
          exact cNo (by omega) ⟨1, B, kf, cNo (by decide) (cY c ⟨z, B1, k1, k6 x1 x2 w r T (vc_MD_sortedBlock_140 _ _ _ _ _ k11)⟩)⟩
      · refine ⟨m, g, st1, h1, ⟨a1, a2, a3, a4⟩, by omega, hg, fun y => absurd y c1, fun S A o hS hC hG hA => ?_, fun S B hS hC hG hB => ?_⟩
        · obtain ⟨A1, k1, k2⟩ := a6 S A o hS hC hA
          obtain ⟨S2, A2, k3, k4, k5, k6⟩ := v3 S A1 o hC.2.2.1 hG k2
          have h5 : A.1 9 5 = 0 := by rw [hA.2.1.2.1]; exact c0
          have wr : w32 st1.1 = st1.1 := w32_of (by have := a1.1; omega)
          refine ⟨S2, A2, k3, k4, fun y => absurd y c1, fun r T k => vc_Sorted_openSigns_15 _ _ ?_⟩
          have k11 : EV q 163 15 [some (.ref 94), some (.ref 9), some (vL w), none, some (vI ((s : Int) + 1)), none, none, none] [] A2 r T := by
            refine vc_Sorted_openSigns_15 _ _ ⟨fun _ => k _, fun _ => ?_⟩
            rw [k4.2.1.2.1, wr]
            exact cY c1 (k _)
          rw [ws (), h5]
          exact cNo (by omega) (cNN (by decide) (cNo (fun y => c (hb.1 y)) ⟨z, A1, k1, vc_Sorted_openSigns_52 _ _ _ (k6 _ r T k11)⟩))
        · obtain ⟨B1, k1, k2⟩ := a7 S B hS hC hB
          have kf := md_fine (q := q) hr hB
          rw [if_pos c0] at kf
          have kg := md_fine (q := q) a1 k2
          rw [if_neg c1] at kg
          refine ⟨S, B1, EX.refl _ S, k2, fun y => absurd y c1, fun x1 x2 r T k => vc_MD_sortedBlock_45 _ _ _ _ _ ?_⟩
          have k45 : EV q 363 45 [some (.ref 367), some (vI x1), some (vL x2), none, some (vI w), some (vI m), some (vI ((s : Int) + 1)), none, none, none, none, none] [] B1 r T := vc_MD_sortedBlock_45 _ _ _ _ _ ⟨fun _ => k _, fun _ => ⟨0, B1, kg, cY (by decide) (k _)⟩⟩
          rw [ws (), ww, sg_sh (show s < 16 by omega), wb]
          exact cNo (by omega) ⟨1, B, kf, cNo (by decide) (cY c ⟨z', B1, k1, vc_MD_sortedBlock_87 _ _ _ _ _ _ _ (cNo (by decide) ⟨0, B1, kg, cY (by decide) (vc_MD_sortedBlock_140 _ _ _ _ _ k45)⟩)⟩)⟩
theorem jsig {t : Int → Int} (he : 0 ≤ en ∧ en ≤ 6000) (ht : ∀ k : Int, 0 ≤ k → k < en → 0 ≤ t k ∧ t k < 256) {st : Rd} {h : Int} (hr : rdR en st) (hh : hR st h) : ∃ (m : Nat) (g : Int → Int) (st' : Rd) (h' : Int), (rdR en st' ∧ Fw st st' ∧ hR st' h' ∧ st'.2.2.2 = st.2.2.2) ∧ m ≤ 256 ∧ (st'.1 = 0 → (1 ≤ m ∧ m ≤ 256) ∧ (∀ k : Nat, k < m → 0 ≤ g k ∧ g k < 256) ∧ rdP st h ≤ rdP st' h') ∧ (∀ (S A : ms) (o : Nat), S.1 9 7 = 1 → RdC S o en t → CB S A o en t st h → ∃ S1 A1, EX (fun a k => a = 102 ∨ (a = 94 ∧ k = 9)) S S1 ∧ CB S1 A1 o en t st' h' ∧ (st'.1 = 0 → SgC S1 m g) ∧ EV q 163 0 [some (.ref 94), some (.ref 9), none, none, none, none, none, none] [] A none A1) ∧ ∀ S B : ms, S.1 367 18 = 1 → RdM S en t → MB S B en st h → ∃ (S1 B1 : ms) (x4 : Int), EX (fun a _ => a = 409) S S1 ∧ MB S1 B1 en st' h' ∧ (st'.1 = 0 → SgM S1 m g) ∧ ∀ (x1 x2 : Int) (r : Option Value) (T : ms), (∀ x6 : Int, EV q 363 164 [some (.ref 367), some (vI x1), some (vL x2), none, some (vI x4), some (vI m), some (vI x6), none, none, none, none, none] [] B1 r T) → ∃ (z6 : Int) (S4 : ms), EV q 339 0 [some (.ref 367), some (vI 16), none, none, none, none, none] [] B (some (vL z6)) S4 ∧ EV q 363 45 [some (.ref 367), some (vI x1), some (vL x2), none, some (vI z6), some (vI 0), some (vI 0), none, none, none, none, none] [] S4 r T := by
  obtain ⟨z, z', st1, h1, ⟨a1, a2, a3, a4⟩, aR, a5, a6, a7⟩ := jbitsR0 (q := q) (hi := 1) he.2 ht (Or.inr rfl) (n := 16) (by omega) hr hh
  rw [show (2 : Int) ^ 16 = 65536 by decide] at aR
  have w9 : ∀ (S A : ms) (o : Nat), (300 < o ∨ o = 7) → CB S A o en t st h → CB (wI S 94 9 0) (wI A 94 9 0) o en t st h := fun S A o ho hA => CB_I (9 : Int) 0 (show 94 ≠ 9 by decide) (show 94 ≠ o by omega) (show 94 ≠ o + 1 by omega) ho hA
  have e9 : ∀ S : ms, EX (fun a k => a = 102 ∨ (a = 94 ∧ k = 9)) S (wI S 94 9 0) := fun S => EX.wr (EX.refl _ S) (Or.inr ⟨rfl, rfl⟩)
  have n97 : ∀ S : ms, (wI S 94 9 0).1 9 7 = S.1 9 7 := fun S => wI_no _ (by decide)
  have rdc : ∀ (S : ms) (o : Nat), RdC S o en t → RdC (wI S 94 9 0) o en t := fun S o hC => RdC_ey hC (e9 S).ey (fun k => show ¬ ((2 : Nat) = 102 ∨ ((2 : Nat) = 94 ∧ k = 9)) by omega)
  -- the check of 84, class
  have cend : ∀ (S A : ms) (o : Nat) (st1 : Rd) (h1 w x4 : Int), (300 < o ∨ o = 7) → rdR en st1 → CB S A o en t st1 h1 → ∃ A1, CB S A1 o en t (if ¬ w32 (A.1 94 9) = 0 then st1 else rdTell 84 st1) h1 ∧ ∀ x4 : Int, EV q 163 117 [some (.ref 94), some (.ref 9), some (vL w), none, some (vI x4), none, none, none] [] A none A1 := by
    intro S A o st1 h1 w x4 ho hr1 hA
    obtain ⟨A1, k1, k2⟩ := gC (q := q) (c := ¬ w32 (A.1 94 9) = 0) (k := 84) hr1 ho hA
    refine ⟨A1, k1, fun x4 => vc_Sorted_openSigns_117 _ _ ?_⟩
    rcases k2 with ⟨u1, u2⟩ | ⟨u1, u2⟩
    · exact cY u1 ⟨rfl, u2⟩
    · exact cNo u1 ⟨A1, u2, rfl, rfl⟩
  by_cases c1 : st1.1 = 0
  case neg =>
    refine ⟨0, fun _ => 0, st1, h1, ⟨a1, a2, a3, a4⟩, by omega, fun y => absurd y c1, fun S A o hS hC hA => ?_, fun S B hS hC hB => ?_⟩
    · obtain ⟨A1, k1, k2⟩ := a6 _ _ o ((n97 S).trans hS) (rdc S o hC) (w9 S A o hC.2.2.1 hA)
      obtain ⟨A2, k3, k4⟩ := cend _ A1 o st1 h1 z 0 hC.2.2.1 a1 k2
      rw [show (if ¬ w32 (A1.1 94 9) = 0 then st1 else rdTell 84 st1) = st1 by split; rfl; exact rdTell_r c1] at k3
      have wr : w32 st1.1 = st1.1 := w32_of (by have := a1.1; omega)
      refine ⟨_, A2, e9 S, k3, fun y => absurd y c1, vc_Sorted_openSigns (fun S1 e => ?_)⟩
      rw [e]
      refine ⟨z, A1, k1, vc_Sorted_openSigns_15 _ _ (cNo (by decide) ?_)⟩
      rw [k2.2.1.2.1, wr]
      exact cY c1 (k4 _)
    · obtain ⟨B1, k1, k2⟩ := a7 S B hS hC hB
      have kg := md_fine (q := q) a1 k2
      rw [if_neg c1] at kg
      exact ⟨S, B1, z', EX.refl _ S, k2, fun y => absurd y c1, fun x1 x2 r T k => ⟨z', B1, k1, vc_MD_sortedBlock_45 _ _ _ _ _ (cNo (by decide) ⟨0, B1, kg, cY (by decide) (vc_MD_sortedBlock_146 _ _ _ _ _ ⟨0, B1, kg, cY (by decide) (k _)⟩)⟩)⟩⟩
  obtain ⟨ez, _, pz⟩ := a5 c1
  subst ez
  obtain ⟨m, g, st2, h2, ⟨b1, b2, b3, b4⟩, b5, b6, b7, b8', b9⟩ := jsgS (q := q) he ht aR.1 16 0 0 (fun _ => 0) st1 h1 (by omega) (by omega) (fun k hk => absurd hk (by omega)) a1 a3 c1
  have t3 := rd_gt (c := ¬ (m : Int) = 0) (k := 84) (by decide) b1
  obtain ⟨st3, e3⟩ : ∃ x : Rd, x = if ¬ (m : Int) = 0 then st2 else rdTell 84 st2 := ⟨_, rfl⟩
  rw [← e3] at t3
  have wm : Unit → w32 ((m : Nat) : Int) = m := fun _ => w32_of (by omega)
  refine ⟨m, g, st3, h2, ⟨t3.1, Fw_t a2 (Fw_t b2 t3.2), hR_n b3 t3.2, ?_⟩, b5, fun y => ?_, fun S A o hS hC hA => ?_, fun S B hS hC hB => ?_⟩
  · rw [e3]
    split
    · exact b4.trans a4
    · rw [rdTell_2]; exact b4.trans a4
  · by_cases d : ¬ (m : Int) = 0
    · rw [if_pos d] at e3
      rw [e3] at y ⊢
      exact ⟨by omega, b6, by have := b7 y; omega⟩
    · rw [if_neg d] at e3
      rw [e3] at y
      exact absurd y (rdTell_1 (by decide))
  · obtain ⟨A1, k1, k2⟩ := a6 _ _ o ((n97 S).trans hS) (rdc S o hC) (w9 S A o hC.2.2.1 hA)
    obtain ⟨S2, A2, k3, k4, k5, k6⟩ := b8' _ A1 o ((n97 S).trans hS) (rdc S o hC) ⟨wI_at _ _ _ _, fun k hk => absurd hk (by omega)⟩ k2
    obtain ⟨A3, k7, k8⟩ := cend _ A2 o st2 h2 z 0 hC.2.2.1 b1 k4
    have e4 : (if ¬ w32 (A2.1 94 9) = 0 then st2 else rdTell 84 st2) = st3 := by
      by_cases d : st2.1 = 0
      · have ho := hC.2.2.1
        have : A2.1 94 9 = m := by rw [k4.2.2.2 94 9 (by omega) (by omega) (by omega)]; exact (k5 d).1
        rw [this, wm (), e3]
      · rw [e3, rdTell_r d]
        split <;> split <;> rfl
    rw [e4] at k7
    refine ⟨S2, A3, EX.trans (e9 S) k3, k7, fun y => k5 (Fw_z t3.2 y), vc_Sorted_openSigns (fun S1 e => ?_)⟩
    rw [e]
    exact ⟨z, A1, k1, k6 none A3 k8⟩
  · obtain ⟨B1, k1, k2⟩ := a7 S B hS hC hB
    obtain ⟨S2, B2, k3, k4, k5, k6⟩ := b9 S B1 hS hC (fun k hk => absurd hk (by omega)) k2
    obtain ⟨B3, x, k7, k8, k9⟩ := gMf (q := q) (c := ¬ (m : Int) = 0) (k := 84) b1 he.2 b3 k4
    rw [← e3] at k7
    refine ⟨S2, B3, z, k3, k7, fun y => k5 (Fw_z t3.2 y), fun x1 x2 r T k => ⟨z, B1, k1, k6 x1 x2 r T (fun x6 => vc_MD_sortedBlock_146 _ _ _ _ _ ⟨x, B2, k8, ?_⟩)⟩⟩
    rw [wm ()]
    rcases k9 with ⟨u1, u2⟩ | ⟨u1, u2, u3⟩ | ⟨u1, u2, u3⟩
    · rw [u2] at k; exact cY u1 (k _)
    · rw [u3] at k; exact cNo u1 (cY u2 (k _))
    · exact cNo u1 (cNo u2 ⟨B3, u3, k _⟩)
end Srt6
