/-! SORTED: a code, both sides at once -/
section Srt4
variable {q : Nat × (Nat → Int32)} {en : Int}
theorem jlnC {t : Int → Int} {n : Nat} (he : 0 ≤ en ∧ en ≤ 6000) (ht : ∀ k : Int, 0 ≤ k → k < en → 0 ≤ t k ∧ t k < 256) (hn : n ≤ 258) {st : Rd} {h : Int} (hr : rdR en st) (hh : hR st h) (c0 : st.1 = 0) : ∃ (stf : Rd) (hf : Int) (l : Int → Int), (rdR en stf ∧ Fw st stf ∧ hR stf hf ∧ stf.2.2.2 = st.2.2.2) ∧ (stf.1 = 0 → rdP st h ≤ rdP stf hf ∧ ∀ k : Nat, k < n → 1 ≤ l k ∧ l k ≤ 20) ∧ (∀ (S A : ms) (o a2 : Nat), isCode a2 → (94 < a2 ∧ a2 + 10 < 300) → S.1 9 7 = 1 → S.1 94 9 + 2 = n → RdC S o en t → CB S A o en t st h → ∃ S1 A1, EX (fun a _ => a2 ≤ a ∧ a ≤ a2 + 7) S S1 ∧ EV q 165 0 [some (.ref 94), some (.ref 9), some (.ref a2), none, none, none] [] A none A1 ∧ CB S1 A1 o en t stf hf ∧ (stf.1 = 0 → CodC S1 a2 n l)) ∧ ∀ (S B : ms) (cc : Nat) (x1 x2 x4 x5 x6 x7 : Int), cc < 6 → (cc : Int) < w32 x6 → S.1 367 18 = 1 → RdM S en t → MB S B en st h → ∃ S1 B1, EX (fun a k => (a = 413 ∨ a = 414) ∧ 260 * (cc : Int) ≤ k ∧ k < 260 * (cc : Int) + 260) S S1 ∧ MB S1 B1 en stf hf ∧ (stf.1 = 0 → CodS S1 cc n l) ∧ ∀ (r : Option Value) (T : ms), EV q 363 344 [some (.ref 367), some (vI x1), some (vL x2), none, some (vI x4), some (vI x5), some (vI x6), some (vI x7), some (vI n), some (vI ((cc : Int) + 1)), none, none] [] B1 r T → EV q 363 344 [some (.ref 367), some (vI x1), some (vL x2), none, some (vI x4), some (vI x5), some (vI x6), some (vI x7), some (vI n), some (vI cc), none, none] [] B r T := by
  classical
  obtain ⟨z, z', st1, h1, ⟨a1, a2, a3, a4⟩, aR, a5, a6, a7⟩ := jbitsR0 (q := q) (hi := 1) he.2 ht (Or.inr rfl) (n := 5) (by omega) hr hh
  rw [show (2 : Int) ^ 5 = 32 by decide] at aR
  -- the reference's beginning
  have hm0 : ∀ (S B : ms) (cc : Nat) (x1 x2 x4 x5 x6 x7 : Int), cc < 6 → (cc : Int) < w32 x6 → S.1 367 18 = 1 → RdM S en t → MB S B en st h → ∃ B1, MB S B1 en st1 h1 ∧ ∀ (r : Option Value) (T : ms), EV q 363 369 [some (.ref 367), some (vI x1), some (vL x2), none, some (vI x4), some (vI x5), some (vI x6), some (vI x7), some (vI n), some (vI cc), some (vI z'), some (vI 0)] [] B1 r T → EV q 363 344 [some (.ref 367), some (vI x1), some (vL x2), none, some (vI x4), some (vI x5), some (vI x6), some (vI x7), some (vI n), some (vI cc), none, none] [] B r T := by
    intro S B cc x1 x2 x4 x5 x6 x7 hcc hx6 hS hC hB
    have kf := md_fine (q := q) hr hB
    rw [if_pos c0] at kf
    have wc : Unit → w32 ((cc : Nat) : Int) = cc := fun _ => w32_of (by omega)
    obtain ⟨B1, k1, k2⟩ := a7 S B hS hC hB
    refine ⟨B1, k2, fun r T y => vc_MD_sortedBlock_344 _ _ _ _ _ _ _ _ ?_⟩
    rw [wc ()]
    exact cNo (by omega) ⟨1, B, kf, cNo (by decide) ⟨z', B1, k1, y⟩⟩
  by_cases c1 : st1.1 = 0
  case neg =>
    refine ⟨st1, h1, fun _ => 0, ⟨a1, a2, a3, a4⟩, fun y => absurd y c1, fun S A o b ha hb hS hG hC hA => ?_, fun S B cc x1 x2 x4 x5 x6 x7 hcc hx6 hS hC hB => ?_⟩
    · obtain ⟨A1, k1, k2⟩ := a6 S A o hS hC hA
      have wr : w32 st1.1 = st1.1 := w32_of (by have := a1.1; omega)
      have k104 : EV q 165 104 [some (.ref 94), some (.ref 9), some (.ref b), some (vI z), some (vI 0), none] [] A1 none A1 := by
        refine vc_Sorted_openLengths_104 _ _ _ ha ?_
        rw [k2.2.1.2.1, wr]
        exact cY c1 ⟨rfl, rfl⟩
      refine ⟨S, A1, EX.refl _ S, vc_Sorted_openLengths _ ha ⟨z, A1, k1, vc_Sorted_openLengths_10 _ _ _ ha ⟨fun _ => k104, fun _ => ?_⟩⟩, k2, fun y => absurd y c1⟩
      rw [k2.2.1.2.1, wr]
      exact cY c1 k104
    · obtain ⟨B1, k1, k2⟩ := hm0 S B cc x1 x2 x4 x5 x6 x7 hcc hx6 hS hC hB
      have kf := md_fine (q := q) a1 k1
      rw [if_neg c1] at kf
      refine ⟨S, B1, EX.refl _ S, k1, fun y => absurd y c1, fun r T y => k2 r T ?_⟩
      have k464 := vc_MD_sortedBlock_464 (q := q) x1 x2 x4 x5 x6 x7 n cc z' 0 ⟨0, B1, kf, cY (by decide) (vc_MD_sortedBlock_502 _ _ _ _ _ _ _ _ _ _ y)⟩
      exact vc_MD_sortedBlock_369 _ _ _ _ _ _ _ _ _ _ ⟨fun _ => k464, fun _ => ⟨0, B1, kf, cY (by decide) k464⟩⟩
  obtain ⟨ez, _, pz⟩ := a5 c1
  subst ez
  obtain ⟨lf, st2, h2, l, ⟨g1, g2, g3, gE⟩, g4, g5, g6⟩ := jlnL (q := q) he ht hn n 0 z (fun _ => 0) st1 h1 (by omega) aR.1 a1 a3 (fun k hk => absurd hk (by omega))
  by_cases c2 : st2.1 = 0
  case neg =>
    refine ⟨st2, h2, l, ⟨g1, Fw_t a2 g2, g3, gE.trans a4⟩, fun y => absurd y c2, fun S A o b ha hb hS hG hC hA => ?_, fun S B cc x1 x2 x4 x5 x6 x7 hcc hx6 hS hC hB => ?_⟩
    · obtain ⟨A1, k1, k2⟩ := a6 S A o hS hC hA
      obtain ⟨S1, A2, m1, m2, m3, m4⟩ := g5 S A1 o b ha hb hS hG hC (fun k hk => absurd hk (by omega)) k2
      exact ⟨S1, A2, EX.mono m1 (fun a k y => by omega), vc_Sorted_openLengths _ ha ⟨z, A1, k1, m4 A2 (fun y => absurd y c2) (fun _ => rfl)⟩, m2, fun y => absurd y c2⟩
    · obtain ⟨B1, k1, k2⟩ := hm0 S B cc x1 x2 x4 x5 x6 x7 hcc hx6 hS hC hB
      obtain ⟨S1, B2, m1, m2, m3, m4⟩ := g6 S B1 cc x1 x2 x4 x5 x6 x7 hcc hS hC (fun k hk => absurd hk (by omega)) k1
      have kf := md_fine (q := q) g1 m2
      rw [if_neg c2] at kf
      exact ⟨S1, B2, EX.mono m1 (fun a k y => ⟨Or.inl y.1, y.2⟩), m2, fun y => absurd y c2, fun r T y => k2 r T (m4 r T (fun x10 x11 => vc_MD_sortedBlock_464 _ _ _ _ _ _ _ _ _ _ ⟨0, B2, kf, cY (by decide) (vc_MD_sortedBlock_502 _ _ _ _ _ _ _ _ _ _ y)⟩))⟩
  obtain ⟨p2, hl⟩ := g4 c2
  have hl' : ∀ s : Nat, s < n → 0 ≤ l s ∧ l s ≤ 20 := fun s hs => by have := hl s hs; omega
  have r1 := (cS_rg n hl').1
  have w1 : w32 (cS l n) = cS l n := w32_of (by omega)
  have t3 := rd_gt (c := cS l n ≤ 1048576) (k := 87) (by decide) g1
  obtain ⟨st3, e3⟩ : ∃ x : Rd, x = if cS l n ≤ 1048576 then st2 else rdTell 87 st2 := ⟨_, rfl⟩
  rw [← e3] at t3
  refine ⟨st3, h2, l, ⟨t3.1, Fw_t a2 (Fw_t g2 t3.2), hR_n g3 t3.2, by rw [e3]; by_cases cc : cS l n ≤ 1048576; (rw [if_pos cc]; exact gE.trans a4); (rw [if_neg cc, rdTell_2]; exact gE.trans a4)⟩, fun y => ⟨?_, hl⟩, fun S A o b ha hb hS hG hC hA => ?_, fun S B cc x1 x2 x4 x5 x6 x7 hcc hx6 hS hC hB => ?_⟩
  · have := t3.2.2
    unfold rdP at *
    omega
  · have ho := hC.2.2.1
    obtain ⟨A1, k1, k2⟩ := a6 S A o hS hC hA
    obtain ⟨S1, A2, m1, m2, m3, m4⟩ := g5 S A1 o b ha hb hS hG hC (fun k hk => absurd hk (by omega)) k2
    obtain ⟨A3, k3, k4⟩ := ev_settle (q := q) (b := b) (n := n) (l := l) (S := A2) (by omega) ha (by omega) hl' (fun s hs => by
      rw [m2.2.2.2 (b + 1) s (by omega) (by omega) (by omega)]
      exact m3 c2 s hs)
    obtain ⟨S2, s1, s2, s3⟩ := CB_X (X := fun a _ => b ≤ a ∧ a ≤ b + 7) (fun a k y => by omega) m2 (SetP_EX k4)
    obtain ⟨A4, k5, k6⟩ := gC (q := q) (c := cS l n ≤ 1048576) (k := 87) g1 ho s3
    rw [← e3] at k5
    have h5 : A2.1 9 5 = 0 := by rw [m2.2.1.2.1]; exact c2
    have eg : A2.1 94 9 + 2 = n := by
      rw [m2.2.2.2 94 9 (by omega) (by omega) (by omega), m1.2 94 9 (show ¬ (94 : Nat) = b + 1 by omega)]
      exact hG
    have k104 : EV q 165 104 [some (.ref 94), some (.ref 9), some (.ref b), some (vI lf), some (vI n), none] [] A2 none A4 := by
      refine vc_Sorted_openLengths_104 _ _ _ ha ?_
      rw [h5, eg]
      rcases k6 with ⟨w2, w3⟩ | ⟨w2, w3⟩
      · refine cNN (by decide) ⟨A3, k3, 0, A3, vc_Code_isOver _ ha ?_, cY (by decide) ⟨rfl, w3⟩⟩
        rw [k4.2.2.1.2.2, w1]
        exact cY w2 ⟨rfl, rfl⟩
      · refine cNN (by decide) ⟨A3, k3, 1, A3, vc_Code_isOver _ ha ?_, cNo (by decide) ⟨A4, w3, rfl, rfl⟩⟩
        rw [k4.2.2.1.2.2, w1]
        exact cNo w2 ⟨rfl, rfl⟩
    refine ⟨S2, A4, EX.trans (EX.mono m1 (fun a k y => by omega)) s1, vc_Sorted_openLengths _ ha ⟨z, A1, k1, m4 A4 (fun _ => k104) (fun y => absurd c2 y)⟩, k5, fun _ => ⟨ha, by omega, by omega, ?_, fun k j1 j2 => ?_, fun s hs hl0 => ?_⟩⟩
    · rw [s2 b 5 (by omega)]
      exact k4.2.2.1.1
    · rw [s2 (b + 5) k (by omega)]
      exact k4.2.2.2.1 k j1 j2
    · rw [s2 (b + 4) _ (by omega)]
      exact (k4.2.2.2.2 s hs hl0).2.2
  · obtain ⟨B1, k1, k2⟩ := hm0 S B cc x1 x2 x4 x5 x6 x7 hcc hx6 hS hC hB
    obtain ⟨S1, B2, m1, m2, m3, m4⟩ := g6 S B1 cc x1 x2 x4 x5 x6 x7 hcc hS hC (fun k hk => absurd hk (by omega)) k1
    have kf := md_fine (q := q) g1 m2
    rw [if_pos c2] at kf
    obtain ⟨B3, j1, j2, j3, j4, j5⟩ := md_codes (q := q) (B := B2) (l := l) (n := n) (fr := 260 * (cc : Int)) sh_413 sh_414 (by decide) (by omega) (by omega) (by omega) (by omega) (fun s hs => ⟨hl' s hs, by
      rw [m2.2.2.2 413 _ (by omega) (by omega)]
      exact m3 c2 s hs⟩)
    rw [cdF_cS n hl'] at j1
    obtain ⟨S2, s1, s2, s3⟩ := MB_X (X := fun a k => a = 414 ∧ 260 * (cc : Int) ≤ k ∧ k < 260 * (cc : Int) + 260) (fun a k y => by omega) m2 ⟨j2, fun a k y => by
      by_cases c4 : a = 414
      · subst c4
        exact j4 k (fun z => y ⟨rfl, z.1, by omega⟩)
      · exact j3 a k c4⟩
    obtain ⟨B4, k5, k6⟩ := gM (q := q) (c := cS l n ≤ 1048576) (k := 87) g1 he.2 g3 s3
    rw [← e3] at k5
    refine ⟨S2, B4, EX.trans (EX.mono m1 (fun a k y => ⟨Or.inl y.1, y.2⟩)) (EX.mono s1 (fun a k y => ⟨Or.inr y.1, y.2⟩)), k5, fun _ => ⟨hcc, hn, fun s hs => ?_, fun s hs hl0 => ?_⟩, fun r T y => k2 r T (m4 r T (fun x10 x11 => vc_MD_sortedBlock_464 _ _ _ _ _ _ _ _ _ _ ⟨1, B2, kf, cNo (by decide) ⟨cS l n, B3, j1, ?_⟩⟩))⟩
    · rw [s1.2 413 _ (fun z => absurd z.1 (by decide))]
      exact m3 c2 s hs
    · rw [s2 414 _ ⟨rfl, by omega, by omega⟩]
      exact j5 s hs (by omega)
    · have k502 := vc_MD_sortedBlock_502 (q := q) x1 x2 x4 x5 x6 x7 n cc x10 x11 y
      rw [w1]
      rcases k6 with ⟨w2, w3⟩ | ⟨w2, w3⟩
      · rw [w3] at k502; exact cY w2 k502
      · exact cNo w2 ⟨B4, w3, k502⟩
end Srt4
