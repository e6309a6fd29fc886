/-! SORTED: the text and its sum, both sides at once -/
section SrtH
variable {q : Nat × (Nat → Int32)} {en : Int}
/-- the sum that is told is that of the octets from the a-th on -/
abbrev tnC (z a : Int) (st : Rd) : Prop := w32 z = w32 (-((crT (fun k => st.2.2.2.2 (a + k)) (st.2.2.2.1 - a).toNat : Nat) : Int) - 1)
theorem jtxE {t f : Int → Int} {n og : Nat} {h z : Int} (he : 0 ≤ en ∧ en ≤ 6000) (hn : n ≤ 15000) (hf : ∀ k : Nat, k < n → 0 ≤ f k ∧ f k < 256) (hog : og < n) {st : Rd} (hr : rdR en st) (hh : hR st h) : ∃ st5 : Rd, (rdR en st5 ∧ Fw st st5 ∧ hR st5 h ∧ st.2.2.2.1 ≤ st5.2.2.2.1 ∧ st5.2.2.1 = st.2.2.1) ∧ (∀ (S A : ms) (o : Nat), RdC S o en t → RowC S n f → CB S A o en t st h → ∃ S1 A1, EX xSC S S1 ∧ EV q 169 0 [some (.ref 94), some (.ref 9), some (vI og), some (vI z), none, none, none, none, none, none] [] A none A1 ∧ CB S1 A1 o en t (if tnC z st.2.2.2.1 st5 then st5 else rdTell 90 st5) h) ∧ ∀ S B : ms, RowM S n f → MB S B en st h → ∃ S1 B1, EX xSM S S1 ∧ EV q 366 0 [some (.ref 367), some (vI og), none, none, none, none, none, none, none] [] B none B1 ∧ MB S1 B1 en st5 h := by
  classical
  have wog : Unit → w32 ((og : Nat) : Int) = og := fun _ => w32_of (by omega)
  -- the order, as a function
  obtain ⟨ro, hro⟩ : ∃ ro : Int → Int, ∀ e : Int, (∃ j : Nat, j < n ∧ psF f n j = e) → ∃ j : Nat, j < n ∧ psF f n j = e ∧ ro e = j := by
    refine ⟨fun e => if hh : ∃ j : Nat, j < n ∧ psF f n j = e then ((Classical.choose hh : Nat) : Int) else 0, fun e he => ?_⟩
    exact ⟨Classical.choose he, (Classical.choose_spec he).1, (Classical.choose_spec he).2, by simp only [dif_pos he]⟩
  have inj : ∀ i j : Nat, i < n → j < n → psF f n i = psF f n j → i = j := by
    intro i j hi hj e
    by_cases c : i < j
    · exact absurd e (psF_ne c hj hf)
    · by_cases d : j < i
      · exact absurd e.symm (psF_ne d hi hf)
      · omega
  have sur : ∀ e : Int, 0 ≤ e → e < n → ∃ j : Nat, j < n ∧ psF f n j = e := by
    -- out of the reference's passes
    obtain ⟨S0, eS⟩ : ∃ S0 : ms, S0 = wI ((fun _ k => b8 (f k), fun _ _ => 0, fun _ _ => 0) : ms) 367 66 n := ⟨_, rfl⟩
    have hm : RowM S0 n f := ⟨by rw [eS, wI_at], fun k _ => by rw [eS, wI_no _ (by omega)]⟩
    obtain ⟨T, _, k2, _⟩ := md_rank (q := q) (x1 := 0) hn hf hm
    intro e e0 e1
    obtain ⟨j, j1, _, j3⟩ := k2 e e0 e1
    exact ⟨j, j1, j3⟩
  have hro' : ∀ e : Int, 0 ≤ e → e < n → 0 ≤ ro e ∧ ro e < n := by
    intro e e0 e1
    obtain ⟨j, j1, _, j3⟩ := hro e (sur e e0 e1)
    omega
  obtain ⟨sc, st4, ⟨g1, g2, g3, g4, g5⟩, g6, g7, g8⟩ := jtxS (q := q) (t := t) (ro := ro) (h := h) he hn hf hro' n 0 0 (-1) (-1) og st (by omega) ⟨by omega, fun _ => rfl, fun y => absurd y (by omega)⟩ ⟨by omega, fun _ => by omega⟩ hr hh
  have wsc : w32 sc = sc := w32_of (by omega)
  have t5 := rd_gt (c := ¬ sc = 4) (k := 92) (by decide) g1
  obtain ⟨st5, e5⟩ : ∃ x : Rd, x = if ¬ sc = 4 then st4 else rdTell 92 st4 := ⟨_, rfl⟩
  rw [← e5] at t5
  have h5 := hR_n g3 t5.2
  have q5 : st5.2.2 = st4.2.2 := by rw [e5]; exact rd_gt2
  refine ⟨st5, ⟨t5.1, Fw_t g2 t5.2, h5, by rw [q5]; exact g4, by rw [q5]; exact g5⟩, fun S A o hC hR hA => ?_, fun S B hR hB => ?_⟩
  · have ho := hC.2.2.1
    obtain ⟨A1, k1, k2, k3⟩ := sp_order (q := q) (S := A) hn hf ⟨by rw [hA.2.2.2 94 1 (by omega) (by omega) (by omega)]; exact hR.1, fun k hk => by rw [hA.2.2.2 101 k (by omega) (by omega) (by omega)]; exact hR.2 k hk⟩
    obtain ⟨S1, s1, s2, s3⟩ := CB_X (X := xOr) (fun a k y => by unfold xOr at y; omega) hA k1
    have hR1 : RowC S1 n f := ⟨by rw [s1.2 94 1 (by unfold xOr; omega)]; exact hR.1, fun k hk => by rw [s1.2 101 k (by unfold xOr; omega)]; exact hR.2 k hk⟩
    have hC1 : RdC S1 o en t := RdC_ey hC s1.ey (fun k => by unfold xOr; omega)
    have hO : ∀ e : Int, 0 ≤ e → e < n → S1.1 96 e = ro e := by
      intro e e0 e1
      obtain ⟨j, j1, j2, j3⟩ := hro e (sur e e0 e1)
      rw [s2 96 e (Or.inr rfl), j3, ← j2]
      exact k2 j j1
    obtain ⟨A2, k4, k5⟩ := g7 S1 A1 o hC1 hR1 hO s3
    obtain ⟨A3, k6, k7⟩ := gC (q := q) (c := ¬ sc = 4) (k := 92) g1 ho k4
    rw [← e5] at k6
    obtain ⟨A4, k8, k9⟩ := gC (q := q) (c := tnC z st.2.2.2.1 st5) (k := 90) t5.1 ho k6
    have e96 : A1.1 96 og = ro og := by rw [← s2 96 og (Or.inr rfl)]; exact hO og (by omega) (by omega)
    have r2 : ∀ A' : ms, A'.2 = S1.2 → A'.2.2 9 1 = o := fun A' e => by rw [e]; exact hC1.1
    have hcnt : A.1 o 1 = st.2.2.2.1 := hA.2.2.1.1
    have n0 := hr.2.2.1
    have n5 := t5.1.2.2.1
    have q5' : st5.2.2.2.1 = st4.2.2.2.1 := by rw [q5]
    obtain ⟨N, eN⟩ : ∃ N : Nat, (st5.2.2.2.1 - st.2.2.2.1).toNat = N := ⟨_, rfl⟩
    have eN' : st5.2.2.2.1 = st.2.2.2.1 + N := by omega
    have kc := sp_ctn (q := q) (S := A3) (c := o + 1) (n := N) (fr := st.2.2.2.1) (g := fun k => st5.2.2.2.2 (st.2.2.2.1 + k)) hC.2.1.2 (by decide) (by omega) (by omega) (fun k hk => ⟨t5.1.2.2.2.1 _ (by omega) (by omega), k6.2.2.1.2 _ (by omega) (by omega)⟩)
    have k134 : ∀ x5 x6 x8 : Int, EV q 169 134 [some (.ref 94), some (.ref 9), some (vI og), some (vI z), some (vI st.2.2.2.1), some (vI x5), some (vI x6), some (vI sc), some (vI x8), none] [] A3 none A4 := by
      intro x5 x6 x8
      refine vc_Sorted_openText_134 _ _ _ _ _ _ _ ⟨o, 12000, r2 A3 k6.1, hC.2.1, o, 12000, r2 A3 k6.1, hC.2.1, _, A3, by rw [k6.2.2.1.1, eN']; exact kc, ?_⟩
      rcases k9 with ⟨u1, u2⟩ | ⟨u1, u2⟩
      · unfold tnC at u1
        rw [eN] at u1
        exact cY u1 ⟨rfl, u2⟩
      · unfold tnC at u1
        rw [eN] at u1
        exact cNo u1 ⟨A4, u2, rfl, rfl⟩
    refine ⟨S1, A4, EX.mono s1 (fun a k y => by unfold xOr at y; unfold xSC; omega), vc_Sorted_openText _ _ ⟨o, 12000, by rw [hA.1]; exact hC.1, hC.2.1, A1, k3, by rw [wog ()]; omega, ?_⟩, k8⟩
    rw [wog (), e96, hcnt]
    refine k5 og z st.2.2.2.1 none A4 (fun x5 x6 x8 => vc_Sorted_openText_122 _ _ _ _ _ _ _ ?_)
    rw [wsc]
    rcases k7 with ⟨u1, u2⟩ | ⟨u1, u2⟩
    · rw [u2] at k134; exact cY u1 (k134 _ _ _)
    · exact cNo u1 ⟨A3, u2, k134 _ _ _⟩
  · obtain ⟨B1, k1, k2, k3⟩ := md_rank (q := q) (x1 := og) (S := B) hn hf ⟨by rw [hB.2.2.2 367 66 (by omega) (by omega)]; exact hR.1, fun k hk => by rw [hB.2.2.2 406 k (by omega) (by omega)]; exact hR.2 k hk⟩
    obtain ⟨S1, s1, s2, s3⟩ := MB_X (X := fun a _ => a = 407) (fun a k y => by omega) hB k1
    have hR1 : RowM S1 n f := ⟨by rw [s1.2 367 66 (show ¬ (367 : Nat) = 407 by decide)]; exact hR.1, fun k hk => by rw [s1.2 406 k (show ¬ (406 : Nat) = 407 by decide)]; exact hR.2 k hk⟩
    have hO : ∀ e : Int, 0 ≤ e → e < n → S1.1 407 e = ro e := by
      intro e e0 e1
      obtain ⟨j, j1, j2, j3⟩ := k2 e e0 e1
      obtain ⟨i, i1, i2, i3⟩ := hro e (sur e e0 e1)
      rw [s2 407 e rfl, j2, i3, inj i j i1 j1 (i2.trans j3.symm)]
    obtain ⟨B2, k4, k5⟩ := g8 S1 B1 hR1 hO s3
    obtain ⟨B3, k6, k7⟩ := gMg (q := q) (c := ¬ sc = 4) (k := 92) g1 he.2 g3 k4
    rw [← e5] at k6
    refine ⟨S1, B3, EX.mono s1 (fun a k y => by unfold xSM; omega), k3 none B3 (k5 _ _ none B3 (fun x3 x5 x6 => vc_MD_unsort_182 _ _ _ _ _ _ ?_)), k6⟩
    rw [wsc]
    rcases k7 with ⟨u0, u1, u2⟩ | ⟨u0, u1, u2, u3⟩ | ⟨u0, u1, u2, u3⟩
    · exact ⟨0, B2, u1, cY (by decide) ⟨rfl, u2⟩⟩
    · exact ⟨1, B2, u1, cNo (by decide) (cY u2 ⟨rfl, u3⟩)⟩
    · exact ⟨1, B2, u1, cNo (by decide) (cNo u2 ⟨B3, u3, rfl, rfl⟩)⟩
end SrtH
