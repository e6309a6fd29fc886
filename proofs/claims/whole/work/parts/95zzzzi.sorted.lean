/-! SORTED: the text, both sides at once -/
section SrtF
variable {q : Nat × (Nat → Int32)} {en : Int}
theorem rdEmit_g {v : Int} {st : Rd} : st.2.2.2.1 ≤ (rdEmit v st).2.2.2.1 ∧ (rdEmit v st).2.2.1 = st.2.2.1 := by
  unfold rdEmit
  by_cases c : st.1 ≠ 0
  · rw [if_pos c]; exact ⟨Int.le_refl _, rfl⟩
  · rw [if_neg c]
    by_cases d : st.2.2.2.1 = 12000
    · rw [if_pos d]; exact ⟨Int.le_refl _, rfl⟩
    · rw [if_neg d]
      exact ⟨by show st.2.2.2.1 ≤ st.2.2.2.1 + 1; omega, rfl⟩
theorem rdTimes_g {v : Int} : ∀ (n : Nat) {st : Rd}, st.2.2.2.1 ≤ (rdTimes v n st).2.2.2.1 ∧ (rdTimes v n st).2.2.1 = st.2.2.1
  | 0, _ => ⟨Int.le_refl _, rfl⟩
  | n + 1, st => by
    rw [rdTimes_s]
    have a := rdTimes_g (v := v) n (st := rdEmit v st)
    have b := rdEmit_g (v := v) (st := st)
    exact ⟨by omega, a.2.trans b.2⟩
theorem sb_times {S : ms} {o : Nat} {t : Int → Int} {v h : Int} (hC : RdC S o en t) {n : Nat} (hn : n < 1000000) : ∀ (m i : Nat) (A : ms) (st : Rd), i + m = n → rdR en st → CB S A o en t st h → ∃ A', EV q 121 2 [some (.ref 9), some (vI v), some (vI n), some (vI i)] [] A none A' ∧ CB S A' o en t (rdTimes v m st) h := by
  intro m
  induction m with
  | zero =>
    intro i A st hi hr h
    have e : i = n := by omega
    subst e
    exact ⟨A, vc_Source_emitTimes_2 _ _ _ (cY (Int.le_refl _) ⟨rfl, rfl⟩), h⟩
  | succ m ih =>
    intro i A st hi hr h
    have wn : Unit → w32 ((n : Nat) : Int) = n := fun _ => w32_of (by omega)
    have wi : Unit → w32 ((i : Nat) : Int) = i := fun _ => w32_of (by omega)
    have z0 : ¬ (n : Int) ≤ i := by omega
    have wr : w32 st.1 = st.1 := w32_of (by have := hr.1; omega)
    by_cases c : st.1 ≠ 0
    · refine ⟨A, vc_Source_emitTimes_2 _ _ _ ?_, by rw [rdTimes_r c]; exact h⟩
      rw [wn (), wi (), h.2.1.2.1, wr]
      exact cNo z0 (cY c ⟨rfl, rfl⟩)
    · obtain ⟨A1, k1, k2⟩ := sb_emit (q := q) (v := v) hC hr h
      obtain ⟨A2, k3, k4⟩ := ih (i + 1) A1 _ (by omega) (rdR_emit hr) k2
      rw [show ((i + 1 : Nat) : Int) = (i : Int) + 1 by omega] at k3
      refine ⟨A2, vc_Source_emitTimes_2 _ _ _ ?_, k4⟩
      rw [wn (), wi (), h.2.1.2.1, wr]
      exact cNo z0 (cNo c ⟨A1, k1, k3⟩)
theorem mb_times {S : ms} {v h : Int} (he : en ≤ 6000) {n : Nat} (hn : n < 1000000) : ∀ (m i : Nat) (B : ms) (st : Rd), i + m = n → rdR en st → hR st h → MB S B en st h → ∃ B', MB S B' en (rdTimes v m st) h ∧ ∀ (x1 x2 x3 x4 x6 : Int) (r : Option Value) (T : ms), EV q 366 176 [some (.ref 367), some (vI x1), some (vI x2), some (vI x3), some (vI 0), some (vI ((-1))), some (vI x6), some (vI n), none] [] B' r T → EV q 366 121 [some (.ref 367), some (vI x1), some (vI x2), some (vI x3), some (vI x4), some (vI v), some (vI x6), some (vI n), some (vI i)] [] B r T := by
  intro m
  induction m with
  | zero =>
    intro i B st hi hr hh h
    have e : i = n := by omega
    subst e
    exact ⟨B, h, fun x1 x2 x3 x4 x6 r T k => vc_MD_unsort_121 _ _ _ _ _ _ _ _ (cY (Int.le_refl _) k)⟩
  | succ m ih =>
    intro i B st hi hr hh h
    have wn : Unit → w32 ((n : Nat) : Int) = n := fun _ => w32_of (by omega)
    have wi : Unit → w32 ((i : Nat) : Int) = i := fun _ => w32_of (by omega)
    obtain ⟨B1, k1, k2⟩ := mb_emit (q := q) (v := v) hr he hh h
    obtain ⟨B2, k3, k4⟩ := ih (i + 1) B1 _ (by omega) (rdR_emit hr) (hR_n hh Fw_emit) k2
    refine ⟨B2, k3, fun x1 x2 x3 x4 x6 r T k => vc_MD_unsort_121 _ _ _ _ _ _ _ _ ?_⟩
    have k5 := k4 x1 x2 x3 x4 x6 r T k
    rw [show ((i + 1 : Nat) : Int) = (i : Int) + 1 by omega] at k5
    rw [wn (), wi ()]
    exact cNo (by omega) ⟨B1, k1, k5⟩
/-- four octets alike, and how many more: same, before, last -/
def smR (sc bf la : Int) : Prop := (0 ≤ sc ∧ sc ≤ 4) ∧ (sc = 0 → la = -1) ∧ (0 < sc → la = bf ∧ 0 ≤ bf ∧ bf < 256)
theorem jtxS {t f ro : Int → Int} {n : Nat} {h : Int} (he : 0 ≤ en ∧ en ≤ 6000) (hn : n ≤ 15000) (hf : ∀ k : Nat, k < n → 0 ≤ f k ∧ f k < 256) (hro : ∀ e : Int, 0 ≤ e → e < n → 0 ≤ ro e ∧ ro e < n) : ∀ (d k : Nat) (sc bf la e : Int) (st : Rd), k + d = n → smR sc bf la → (0 ≤ e ∧ (0 < d → e < n)) → rdR en st → hR st h → ∃ (sc' : Int) (st' : Rd), (rdR en st' ∧ Fw st st' ∧ hR st' h ∧ st.2.2.2.1 ≤ st'.2.2.2.1 ∧ st'.2.2.1 = st.2.2.1) ∧ (0 ≤ sc' ∧ sc' ≤ 4) ∧ (∀ (S A : ms) (o : Nat), RdC S o en t → RowC S n f → (∀ e : Int, 0 ≤ e → e < n → S.1 96 e = ro e) → CB S A o en t st h → ∃ A1, CB S A1 o en t st' h ∧ ∀ (x2 x3 x4 : Int) (r : Option Value) (T : ms), (∀ x5 x6 x8 : Int, EV q 169 122 [some (.ref 94), some (.ref 9), some (vI x2), some (vI x3), some (vI x4), some (vI x5), some (vI x6), some (vI sc'), some (vI x8), none] [] A1 r T) → EV q 169 30 [some (.ref 94), some (.ref 9), some (vI x2), some (vI x3), some (vI x4), some (vI (ro e)), some (vI bf), some (vI sc), some (vI k), none] [] A r T) ∧ ∀ S B : ms, RowM S n f → (∀ e : Int, 0 ≤ e → e < n → S.1 407 e = ro e) → MB S B en st h → ∃ B1, MB S B1 en st' h ∧ ∀ (x1 x2 : Int) (r : Option Value) (T : ms), (∀ x3 x5 x6 : Int, EV q 366 182 [some (.ref 367), some (vI x1), some (vI x2), some (vI x3), some (vI sc'), some (vI x5), some (vI x6), none, none] [] B1 r T) → EV q 366 72 [some (.ref 367), some (vI x1), some (vI x2), some (vI e), some (vI sc), some (vI la), some (vI k), none, none] [] B r T := by
  have wn : Unit → w32 ((n : Nat) : Int) = n := fun _ => w32_of (by omega)
  intro d
  induction d with
  | zero =>
    intro k sc bf la e st hk hs hE hr hh
    have ek : k = n := by omega
    subst ek
    refine ⟨sc, st, ⟨hr, Fw_r st, hh, Int.le_refl _, rfl⟩, hs.1, fun S A o hC hR hO hA => ⟨A, hA, fun x2 x3 x4 r T y => vc_Sorted_openText_30 _ _ _ _ _ _ _ ?_⟩, fun S B hR hO hB => ⟨B, hB, fun x1 x2 r T y => vc_MD_unsort_72 _ _ _ _ _ _ ?_⟩⟩
    · have ho := hC.2.2.1
      rw [show A.1 94 1 = k by rw [hA.2.2.2 94 1 (by omega) (by omega) (by omega)]; exact hR.1]
      exact cY (Int.le_refl _) (y _ _ _)
    · rw [show B.1 367 66 = k by rw [hB.2.2.2 367 66 (by omega) (by omega)]; exact hR.1]
      exact cY (Int.le_refl _) (y _ _ _)
  | succ d ih =>
    intro k sc bf la e st hk hs hE hr hh
    have wk : Unit → w32 ((k : Nat) : Int) = k := fun _ => w32_of (by omega)
    have ek : ((k + 1 : Nat) : Int) = (k : Int) + 1 := by omega
    have wr : w32 st.1 = st.1 := w32_of (by have := hr.1; omega)
    have cN1 : ∀ (S A : ms) (o : Nat), RdC S o en t → RowC S n f → CB S A o en t st h → A.1 94 1 = n ∧ A.1 9 5 = st.1 := fun S A o hC hR hA => ⟨by have ho := hC.2.2.1; rw [hA.2.2.2 94 1 (by omega) (by omega) (by omega)]; exact hR.1, hA.2.1.2.1⟩
    have mN1 : ∀ S B : ms, RowM S n f → MB S B en st h → B.1 367 66 = n := fun S B hR hB => by rw [hB.2.2.2 367 66 (by omega) (by omega)]; exact hR.1
    by_cases c0 : st.1 = 0
    case neg =>
      refine ⟨sc, st, ⟨hr, Fw_r st, hh, Int.le_refl _, rfl⟩, hs.1, fun S A o hC hR hO hA => ⟨A, hA, fun x2 x3 x4 r T y => vc_Sorted_openText_30 _ _ _ _ _ _ _ ?_⟩, fun S B hR hO hB => ⟨B, hB, fun x1 x2 r T y => vc_MD_unsort_72 _ _ _ _ _ _ ?_⟩⟩
      · obtain ⟨e1, e2⟩ := cN1 S A o hC hR hA
        rw [e1, e2, wn (), wk (), wr]
        exact cNo (by omega) (cY c0 (y _ _ _))
      · have kf := md_fine (q := q) hr hB
        rw [if_neg c0] at kf
        rw [mN1 S B hR hB, wn (), wk ()]
        exact cNo (by omega) ⟨0, B, kf, cY (by decide) (y _ _ _)⟩
    obtain ⟨j, ej⟩ : ∃ j : Nat, ro e = j := ⟨(ro e).toNat, by have := hro e hE.1 (hE.2 (by omega)); omega⟩
    have hj : j < n := by have := hro e hE.1 (hE.2 (by omega)); omega
    have hv := hf j hj
    have wj : Unit → w32 ((j : Nat) : Int) = j := fun _ => w32_of (by omega)
    have we : w32 e = e := w32_of (by have := hE.2 (by omega); omega)
    have wfj : w32 (f j) = f j := w32_of (by omega)
    have wsc : w32 sc = sc := w32_of (by have := hs.1; omega)
    -- what is read
    have cN2 : ∀ (S A : ms) (o : Nat), RdC S o en t → RowC S n f → (∀ e : Int, 0 ≤ e → e < n → S.1 96 e = ro e) → CB S A o en t st h → A.1 96 j = ro j ∧ A.1 101 j = f j := fun S A o hC hR hO hA => ⟨by have ho := hC.2.2.1; rw [hA.2.2.2 96 j (by omega) (by omega) (by omega)]; exact hO j (by omega) (by omega), by have ho := hC.2.2.1; rw [hA.2.2.2 101 j (by omega) (by omega) (by omega)]; exact hR.2 j hj⟩
    have mN2 : ∀ S B : ms, RowM S n f → (∀ e : Int, 0 ≤ e → e < n → S.1 407 e = ro e) → MB S B en st h → B.1 407 e = j ∧ B.1 406 j % 256 = f j := fun S B hR hO hB => ⟨by rw [hB.2.2.2 407 e (by omega) (by omega), ← ej]; exact hO e hE.1 (hE.2 (by omega)), by rw [hB.2.2.2 406 j (by omega) (by omega), hR.2 j hj]; unfold b8; omega⟩
    by_cases c4 : sc = 4
    · -- how many more
      obtain ⟨la1, la2⟩ := hs.2.2 (by omega)
      obtain ⟨N, eN⟩ : ∃ N : Nat, f j = N := ⟨(f j).toNat, by omega⟩
      have tg := rdTimes_g (v := bf) N (st := st)
      obtain ⟨sc', st', ⟨j1, j2, j3, j4, j5⟩, j6, j7, j8⟩ := ih (k + 1) 0 bf (-1) j (rdTimes bf N st) (by omega) ⟨by omega, fun _ => rfl, fun y => absurd y (by omega)⟩ ⟨by omega, fun _ => by omega⟩ (rdR_times N hr) (hR_n hh (Fw_times N))
      refine ⟨sc', st', ⟨j1, Fw_t (Fw_times N) j2, j3, by omega, j5.trans tg.2⟩, j6, fun S A o hC hR hO hA => ?_, fun S B hR hO hB => ?_⟩
      · obtain ⟨e1, e2⟩ := cN1 S A o hC hR hA
        obtain ⟨e3, e4⟩ := cN2 S A o hC hR hO hA
        obtain ⟨A1, k1, k2⟩ := sb_times (q := q) (v := bf) hC (n := N) (by omega) N 0 A st (by omega) hr hA
        obtain ⟨A2, k3, k4⟩ := j7 S A1 o hC hR hO k2
        refine ⟨A2, k3, fun x2 x3 x4 r T y => vc_Sorted_openText_30 _ _ _ _ _ _ _ ?_⟩
        have k5 := k4 x2 x3 x4 r T y
        rw [ek] at k5
        rw [e1, e2, wn (), wk (), wr, ej, wj (), e3, e4, wsc, eN]
        exact cNo (by omega) (cNN c0 ⟨by omega, by omega, cNN c4 ⟨A1, vc_Source_emitTimes _ _ k1, vc_Sorted_openText_116 _ _ _ _ _ _ _ _ k5⟩⟩)
      · have kf := md_fine (q := q) hr hB
        rw [if_pos c0] at kf
        obtain ⟨e3, e4⟩ := mN2 S B hR hO hB
        obtain ⟨B1, k1, k2⟩ := mb_times (q := q) (v := bf) he.2 (n := N) (by omega) N 0 B st (by omega) hr hh hB
        obtain ⟨B2, k3, k4⟩ := j8 S B1 hR hO k1
        refine ⟨B2, k3, fun x1 x2 r T y => vc_MD_unsort_72 _ _ _ _ _ _ ?_⟩
        have k5 := k4 x1 x2 r T y
        rw [ek] at k5
        rw [mN1 S B hR hB, wn (), wk ()]
        refine cNo (by omega) ⟨1, B, kf, cNo (by decide) ?_⟩
        rw [we, e3, wj (), e4, wsc, la1, eN]
        exact ⟨by have := hE.2 (by omega); omega, by omega, by have := hE.2 (by omega); omega, cNN c4 (k2 _ _ _ _ _ r T (vc_MD_unsort_176 _ _ _ _ _ _ _ k5))⟩
    -- an octet
    obtain ⟨s1, es1⟩ : ∃ s1 : Int, (0 < sc ∧ f j = bf → s1 = sc + 1) ∧ (¬ (0 < sc ∧ f j = bf) → s1 = 1) := by
      by_cases y : 0 < sc ∧ f j = bf
      · exact ⟨sc + 1, fun _ => rfl, fun z => absurd y z⟩
      · exact ⟨1, fun z => absurd z y, fun _ => rfl⟩
    have hs1 : 1 ≤ s1 ∧ s1 ≤ 4 := by
      have := hs.1
      by_cases y : 0 < sc ∧ f j = bf
      · have := es1.1 y; omega
      · have := es1.2 y; omega
    have tg := rdEmit_g (v := f j) (st := st)
    obtain ⟨sc', st', ⟨j1, j2, j3, j4, j5⟩, j6, j7, j8⟩ := ih (k + 1) s1 (f j) (f j) j (rdEmit (f j) st) (by omega) ⟨by omega, fun y => absurd y (by omega), fun _ => ⟨rfl, hv⟩⟩ ⟨by omega, fun _ => by omega⟩ (rdR_emit hr) (hR_n hh Fw_emit)
    refine ⟨sc', st', ⟨j1, Fw_t Fw_emit j2, j3, by omega, j5.trans tg.2⟩, j6, fun S A o hC hR hO hA => ?_, fun S B hR hO hB => ?_⟩
    · obtain ⟨e1, e2⟩ := cN1 S A o hC hR hA
      obtain ⟨e3, e4⟩ := cN2 S A o hC hR hO hA
      obtain ⟨A1, k1, k2⟩ := sb_emit (q := q) (v := f j) hC hr hA
      obtain ⟨A2, k3, k4⟩ := j7 S A1 o hC hR hO k2
      refine ⟨A2, k3, fun x2 x3 x4 r T y => vc_Sorted_openText_30 _ _ _ _ _ _ _ ?_⟩
      have k5 := k4 x2 x3 x4 r T y
      rw [ek] at k5
      have k104 : EV q 169 104 [some (.ref 94), some (.ref 9), some (vI x2), some (vI x3), some (vI x4), some (vI (ro j)), some (vI bf), some (vI sc), some (vI k), some (vI (f j))] [vI s1] A r T := vc_Sorted_openText_104 _ _ _ _ _ _ _ _ _ ⟨A1, k1, vc_Sorted_openText_116 _ _ _ _ _ _ _ _ k5⟩
      rw [e1, e2, wn (), wk (), wr, ej, wj (), e3, e4, wsc, wfj]
      refine cNo (by omega) (cNN c0 ⟨by omega, by omega, cY c4 ?_⟩)
      by_cases y : 0 < sc ∧ f j = bf
      · rw [es1.1 y] at k104
        have wb : w32 bf = bf := by rw [← y.2]; exact wfj
        rw [wb]
        exact cNo (by omega) (cNN y.2 k104)
      · rw [es1.2 y] at k104
        by_cases z : sc ≤ 0
        · exact cY z (vc_Sorted_openText_103 _ _ _ _ _ _ _ _ k104)
        · have wb : w32 bf = bf := w32_of (by have := (hs.2.2 (by omega)).2; omega)
          rw [wb]
          exact cNo z (cY (fun z' => y ⟨by omega, z'⟩) (vc_Sorted_openText_103 _ _ _ _ _ _ _ _ k104))
    · have kf := md_fine (q := q) hr hB
      rw [if_pos c0] at kf
      obtain ⟨e3, e4⟩ := mN2 S B hR hO hB
      obtain ⟨B1, k1, k2⟩ := mb_emit (q := q) (v := f j) hr he.2 hh hB
      obtain ⟨B2, k3, k4⟩ := j8 S B1 hR hO k2
      refine ⟨B2, k3, fun x1 x2 r T y => vc_MD_unsort_72 _ _ _ _ _ _ ?_⟩
      have k5 := k4 x1 x2 r T y
      rw [ek] at k5
      have k164 : EV q 366 164 [some (.ref 367), some (vI x1), some (vI x2), some (vI j), some (vI sc), some (vI la), some (vI k), some (vI (f j)), none] [vI s1] B r T := vc_MD_unsort_164 _ _ _ _ _ _ _ _ ⟨B1, k1, vc_MD_unsort_176 _ _ _ _ _ _ _ k5⟩
      rw [mN1 S B hR hB, wn (), wk ()]
      refine cNo (by omega) ⟨1, B, kf, cNo (by decide) ?_⟩
      rw [we, e3, wj (), e4, wsc, wfj]
      refine ⟨by have := hE.2 (by omega); omega, by omega, by have := hE.2 (by omega); omega, cY c4 ?_⟩
      by_cases y : 0 < sc ∧ f j = bf
      · obtain ⟨l1, l2⟩ := hs.2.2 y.1
        have wl : w32 la = la := w32_of (by omega)
        rw [es1.1 y] at k164
        rw [wl]
        exact cNN (by rw [l1]; exact y.2) k164
      · have wl : w32 la = la ∧ f j ≠ la := by
          by_cases z : sc = 0
          · rw [hs.2.1 z]; exact ⟨by decide, by omega⟩
          · obtain ⟨l1, l2⟩ := hs.2.2 (by have := hs.1; omega)
            exact ⟨w32_of (by omega), fun w => y ⟨by have := hs.1; omega, by rw [w, l1]⟩⟩
        rw [es1.2 y] at k164
        rw [wl.1]
        exact cY wl.2 k164
end SrtF
