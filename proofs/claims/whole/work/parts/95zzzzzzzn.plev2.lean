/-! pack: BLOCKS; levels 2 and 4 -/
section PLev2
variable {q : Nat × (Nat → Int32)} {x : Int} {t : Int → Int}
def XOtt (a : Nat) (k : Int) : Prop := XPt a k ∨ XOz a k
/-- a level with own codes, out of its blocks -/
theorem jb_own {lv : Int} {T : Int → Int × Int × Int} {K : Nat} {s0 s' : Wb} (hlv : lv = 2 ∨ lv = 4) (hK : K ≤ 6000) (h0 : s0.2 = 0) (hr : wbR 0 s0) (hs0 : s0.1.1 ≤ 15000) (hr' : wbR 0 s') (hs' : s0.1.1 ≤ s'.1.1 ∧ s'.1.1 < 900000) (cl : ∀ (A : ms) (o a1 : Nat), isRow o 12000 → (342 < o ∨ o = 7) → BlC A → TXr A a1 x t → CBt A o 12000 s0 → ∃ A2 : ms, EX (XPa o) (wR A 10 2 (a1 + 1)) A2 ∧ CBt A2 o 12000 s' ∧ CTk A2 T K ∧ ∀ (R : Option Value) (S' : ms), EV q 55 132 [some (.ref 30), some (.ref a1), some (vI lv), some (.ref o), some (vI (A.1 o 1)), none] [] A2 R S' → EV q 55 0 [some (.ref 30), some (.ref a1), some (vI lv), some (.ref o), none, none] [] A R S') (md : ∀ B : ms, TbM B → TXm B x t → MBt B 0 s0 → B.1 367 29 = 0 → ∃ B' : ms, EY XOtt B B' ∧ MBt B' 0 s' ∧ MTk B' T K ∧ B'.1 367 12 = B.1 367 12 + (wbB s' - wbB s0) ∧ ∀ (R : Option Value) (S' : ms), EV q 289 357 [some (.ref 367), some (vI lv), none, none, none, none, none] [] B' R S' → EV q 289 165 [some (.ref 367), some (vI lv), none, none, none, none, none] [] B R S') : JBx q lv x t s0 s' T K := by
  have w0 := hr.1.1
  refine ⟨⟨hr', hs', by omega, fun y => by omega⟩, fun A o a1 ho o3 hI hA h hs1 => ?_, fun B hKb hB h => ?_⟩
  · obtain ⟨A2, k1, k2, k3, k4⟩ := cl A o a1 ho o3 hI hA h
    have hc := (h.1.1 (by omega)).1
    obtain ⟨A3, z, m1, m2, m3, m4⟩ := cl_pend (q := q) (A := A2) (lv := lv) (b0 := A.1 o 1) (s0 := s0) hA.1.1 ho hr' ⟨h0, hc⟩ k2
    refine ⟨A3, a1 + 1, z, m1, ⟨by rw [m2.1, k1.1], fun a k y => ?_⟩, m3, fun _ => CTk_b o3 k3 m2, k4 _ _ m4⟩
    rw [m2.2 a k (fun w => y (by unfold XRb at w; unfold XPa XRb; omega)), k1.2 a k y]
  · obtain ⟨B1, B5, b1, b2, b3, b4, b5, b6, b7, b8, b9⟩ := md_pre (q := q) hKb hB h
    obtain ⟨B8, i1, i2, i3, i4, i5⟩ := md B5 b2 b4 b5 b6
    obtain ⟨B9, e9⟩ : ∃ B9, B9 = wI (wI B8 367 56 (B8.1 367 12)) 367 10 0 := ⟨_, rfl⟩
    have at9 : ∀ (a : Nat) (k : Int), ¬ (a = 367 ∧ (k = 10 ∨ k = 56)) → B9.1 a k = B8.1 a k := fun a k y => by rw [e9, wI_no _ (by omega), wI_no _ (by omega)]
    have k357 : EV q 289 357 [some (.ref 367), some (vI lv), none, none, none, none, none] [] B8 none B9 := vc_MD_packBlocks_357 _ (fun S1 q1 S2 q2 => ⟨rfl, by rw [q2, q1]; exact e9⟩)
    have y9 : EY XPb B B9 := by
      refine ⟨by rw [e9]; show B8.2.2 = B.2.2; rw [i1.1, b1.1], fun a k y => ?_⟩
      unfold XPb at y
      rw [at9 a k (by omega), i1.2 a k (by unfold XOtt XPt XTm XLo XOz XWb XOx; omega), b1.2 a k (by unfold XPr XTb; omega)]
    have y5 : EY (fun a k => XOtt a k ∨ (a = 367 ∧ (k = 10 ∨ k = 56))) B5 B9 := ⟨by rw [e9]; show B8.2.2 = B5.2.2; rw [i1.1], fun a k y => by rw [at9 a k (fun w => y (Or.inr w)), i1.2 a k (fun w => y (Or.inl w))]⟩
    refine ⟨B9, y9, TbK_ey b3 y5 (fun a k y => by unfold XOtt XPt XTm XLo XOz XWb XOx at y; omega), ⟨MWt_cg i2.1 (fun a k y => at9 a k (by unfold XW at y; omega)), by rw [e9, wI_at]; rfl, by rw [at9 367 11 (by omega)]; exact i2.2.2⟩, fun _ => MTk_e i3 (fun a k y => at9 a k (by unfold XTm at y; omega)), ?_, vc_MD_packBlocks _ ⟨B1, b8, fun S3 q3 S4 q4 S5 q5 => ?_⟩⟩
    · rw [e9, wI_no _ (by omega), wI_at, i4, b7]
      omega
    · rw [q4, q3, ← b9] at q5
      subst q5
      have k165 := i5 none B9 k357
      rcases hlv with e | e
      · subst e
        exact cY (by decide) (cY (by decide) k165)
      · subst e
        exact cY (by decide) (cNo (by decide) (cNN (by decide) k165))
/-- tokens up to a place -/
def scF (T : Int → Int × Int × Int) (e : Int) : Nat → Nat → Nat
  | 0, k => k
  | v + 1, k => if (T k).2.2 < e then scF T e v (k + 1) else k
theorem scF_s (T : Int → Int × Int × Int) (e : Int) (v k : Nat) : scF T e (v + 1) k = if (T k).2.2 < e then scF T e v (k + 1) else k := rfl
theorem scF_r (T : Int → Int × Int × Int) (e : Int) : ∀ v k : Nat, k ≤ scF T e v k ∧ scF T e v k ≤ k + v
  | 0, k => ⟨Nat.le_refl _, Nat.le_refl _⟩
  | v + 1, k => by
    rw [scF_s]
    split
    · have := scF_r T e v (k + 1)
      omega
    · omega
theorem scF_x {T : Int → Int × Int × Int} {e : Int} : ∀ v k : Nat, (∀ j : Nat, k ≤ j → j < k + v → (T j).2.2 < e) → scF T e v k = k + v
  | 0, k, _ => rfl
  | v + 1, k, h => by
    rw [scF_s, if_pos (h k (Nat.le_refl _) (by omega)), scF_x v (k + 1) (fun j h1 h2 => h j (by omega) (by omega))]
    omega
theorem md_scan {T : Int → Int × Int × Int} {K : Nat} (hK : K ≤ 6000) (hx : 0 ≤ x ∧ x ≤ 6000) (hp : ∀ k : Nat, k < K → 0 ≤ (T k).2.2 ∧ (T k).2.2 < x) {B : ms} {x1 x2 x3 x4 y e : Int} (hy : 0 ≤ y ∧ y ≤ 100000) (he : ∀ p : Int, 0 ≤ p → p < x → (p < e ↔ p < y)) (hT : MTk B T K) {R : Option Value} {S' : ms} : ∀ v k : Nat, k + v = K → EV q 289 258 [some (.ref 367), some (vI x1), some (vI x2), some (vI x3), some (vI x4), some (vI y), some (vI (scF T e v k))] [] B R S' → EV q 289 231 [some (.ref 367), some (vI x1), some (vI x2), some (vI x3), some (vI x4), some (vI y), some (vI k)] [] B R S' := by
  intro v
  induction v with
  | zero =>
    intro k hk kk
    have ek : k = K := by omega
    subst ek
    refine vc_MD_packBlocks_231 _ _ _ _ _ _ ?_
    rw [hT.1]
    exact cY (Int.le_refl _) kk
  | succ v ih =>
    intro k hk kk
    have p := hp k (by omega)
    have t3 := (hT.2 k (by omega) (by omega)).2.2
    have ee := he (T k).2.2 p.1 p.2
    rw [scF_s] at kk
    refine vc_MD_packBlocks_231 _ _ _ _ _ _ ?_
    rw [hT.1, show w32 (K : Int) = K from w32_of (by omega), show w32 (k : Int) = k from w32_of (by omega), t3, w32_of (x := y) (by omega), w32_of (x := (T k).2.2) (by omega)]
    refine cNo (by omega) ⟨by omega, ?_⟩
    by_cases c : (T k).2.2 < e
    · rw [if_pos c] at kk
      have k2 := ih (k + 1) (by omega) kk
      rw [show ((k + 1 : Nat) : Int) = (k : Int) + 1 by omega] at k2
      exact cNo (by have := ee.1 c; omega) k2
    · rw [if_neg c] at kk
      exact cY (by
        by_cases c2 : (T k).2.2 < y
        · exact absurd (ee.2 c2) c
        · omega) kk
theorem cl_scan {T : Int → Int × Int × Int} {K a1 na1 a2 na2 : Nat} (ha1 : isRow a1 na1) (ha2 : isRow a2 na2) (hK : K ≤ 6000) (hx : 0 ≤ x ∧ x ≤ 6000) (hp : ∀ k : Nat, k < K → 0 ≤ (T k).2.2 ∧ (T k).2.2 < x) {A : ms} {x3 x4 : Int} {i : Nat} (hi : i ≤ 10) (hT : CTk A T K) {R : Option Value} {S' : ms} : ∀ v k : Nat, k + v = K → EV q 82 74 [some (.ref 30), some (.ref a1), some (.ref a2), some (vI x3), some (vI x4), some (vI i), some (vI (scF T (((i : Int) + 1) * 2000) v k))] [] A R S' → EV q 82 35 [some (.ref 30), some (.ref a1), some (.ref a2), some (vI x3), some (vI x4), some (vI i), some (vI k)] [] A R S' := by
  intro v
  induction v with
  | zero =>
    intro k hk kk
    have ek : k = K := by omega
    subst ek
    refine vc_Blocks_ownBlocks_35 _ _ _ _ _ _ ha1 _ _ ha2 ?_
    rw [hT.1]
    exact cY (Int.le_refl _) kk
  | succ v ih =>
    intro k hk kk
    have p := hp k (by omega)
    have t3 := (hT.2 k (by omega) (by omega)).2.2
    rw [scF_s] at kk
    refine vc_Blocks_ownBlocks_35 _ _ _ _ _ _ ha1 _ _ ha2 ?_
    rw [hT.1, show w32 (K : Int) = K from w32_of (by omega), show w32 (k : Int) = k from w32_of (by omega), t3, w32_of (x := ((i : Int) + 1) * 2000) (by omega), w32_of (x := (T k).2.2) (by omega)]
    refine cNo (by omega) ⟨by omega, ?_⟩
    by_cases c : (T k).2.2 < ((i : Int) + 1) * 2000
    · rw [if_pos c] at kk
      have k2 := ih (k + 1) (by omega) kk
      rw [show ((k + 1 : Nat) : Int) = (k : Int) + 1 by omega] at k2
      exact cNo (by omega) k2
    · rw [if_neg c] at kk
      exact cY (by omega) kk
/-- how many blocks -/
def nbF (x : Int) : Int := max 1 ((x + 1999) / 2000)
theorem jblks {T : Int → Int × Int × Int} {K N : Nat} (hK : K ≤ 6000) (hx : 0 ≤ x ∧ x ≤ 6000) (ht : ∀ k : Int, 0 ≤ k → k < x → 0 ≤ t k ∧ t k < 256) (hV : ∀ k : Nat, k < K → tkV x (T k)) (hp : ∀ k : Nat, k < K → 0 ≤ (T k).2.2 ∧ (T k).2.2 < x) (hN : (N : Int) = nbF x) : ∀ (v i fr : Nat), i + v + 1 = N → fr ≤ K → ∃ F : Wb → Wb, ShE F ∧ ∀ s : Wb, wbR 0 s → s.1.1 + 9000 * (v + 1) + 60 * ((K - fr : Nat) : Int) < 500000 → (wbR 0 (F s) ∧ s.1.1 ≤ (F s).1.1 ∧ (F s).1.1 < 900000) ∧ (∀ (A : ms) (o a1 : Nat), isRow o 12000 → (342 < o ∨ o = 7) → (∀ k : Int, 3 ≤ k → k ≤ 258 → A.1 92 k = 257 + lsF k) → TXr A a1 x t → CTk A T K → CBt A o 12000 s → ∃ A', EX (XOw o) A A' ∧ CBt A' o 12000 (F s) ∧ EV q 82 25 [some (.ref 30), some (.ref a1), some (.ref o), some (vI N), some (vI fr), some (vI i), none] [] A none A') ∧ ∀ B : ms, TbM B → TXm B x t → MTk B T K → MBt B 0 s → ∃ B', EY XOz B B' ∧ MBt B' 0 (F s) ∧ B'.1 367 12 = B.1 367 12 + (wbB (F s) - wbB s) ∧ ∀ (R : Option Value) (S' : ms), EV q 289 357 [some (.ref 367), some (vI 4), none, none, none, none, none] [] B' R S' → EV q 289 204 [some (.ref 367), some (vI 4), some (vI fr), some (vI 2000), some (vI ((i : Int) * 2000)), none, none] [] B R S' := by
  have hN' : (1 : Int) ≤ N ∧ (N : Int) ≤ 3 ∧ x ≤ 2000 * N ∧ ((N : Int) = 1 ∨ 2000 * ((N : Int) - 1) < x) := by
    rw [hN]
    unfold nbF
    omega
  have wN : Unit → w32 (N : Int) = N := fun _ => w32_of (by omega)
  intro v
  induction v with
  | zero =>
    intro i fr hi hfr
    obtain ⟨to, eto⟩ : ∃ to, to = scF T (((i : Int) + 1) * 2000) (K - fr) fr := ⟨_, rfl⟩
    have tr := scF_r T (((i : Int) + 1) * 2000) (K - fr) fr
    rw [← eto] at tr
    obtain ⟨F, hF, hG⟩ := jownB (q := q) (T := T) (K := K) (fr := fr) (to := to) (last := 1) ⟨hK, by omega, tr.1⟩ hx ht hV (Or.inr rfl)
    refine ⟨F, hF, fun s hr hs => ?_⟩
    obtain ⟨⟨u1, u2, u3⟩, uc, um⟩ := hG s hr (by omega)
    have os := owS_r (last := 1) hr
    refine ⟨⟨u1, u2, by omega⟩, fun A o a1 ho o3 h92 hA hT hb => ?_, fun B hM hB hT hb => ?_⟩
    · obtain ⟨A', a1', a2', a3'⟩ := uc A o a1 ho o3 h92 hA hT hb
      refine ⟨A', a1', a2', vc_Blocks_ownBlocks_25 _ _ _ _ _ hA.1.1 _ _ ho ?_⟩
      rw [wN (), show w32 (i : Int) = i from w32_of (by omega)]
      refine cNo (by omega) (cl_scan (q := q) hA.1.1 ho hK hx hp (by omega) hT (K - fr) fr (by omega) ?_)
      rw [← eto]
      refine vc_Blocks_ownBlocks_74 _ _ _ _ _ _ hA.1.1 _ _ ho ?_
      rw [show w32 (i : Int) = i from w32_of (by omega), w32_of (x := (N : Int) - 1) (by omega)]
      refine cNN (by omega) (vc_Blocks_ownBlocks_93 _ _ _ _ _ _ _ _ _ hA.1.1 _ _ ho _ _ hA.1.1 ⟨A', a3', vc_Blocks_ownBlocks_25 _ _ _ _ _ hA.1.1 _ _ ho ?_⟩)
      rw [wN (), w32_of (x := (i : Int) + 1) (by omega)]
      exact cY (by omega) ⟨rfl, rfl⟩
    · obtain ⟨B1, b1, b2, b3, b4⟩ := mw_low_bits (q := q) (v := 1) (n := 1) (by decide) (by decide) hr (by omega) hb
      obtain ⟨B2, c1, c2, c3, c4⟩ := mw_low_bits (q := q) (v := 2) (n := 2) (by decide) (by decide) (wbLow_r _ _ _ hr) (by have := wbLow_n 1 1 s; omega) b3
      have x2 : EX XWb B B2 := b2.trans c2
      obtain ⟨B3, d1, d2, d3, d4⟩ := um B2 ⟨fun s h0 h1 => by rw [x2.2 391 s (by unfold XWb; omega), x2.2 392 s (by unfold XWb; omega)]; exact hM.1 s h0 h1, fun s h0 h1 => by rw [x2.2 393 s (by unfold XWb; omega), x2.2 394 s (by unfold XWb; omega)]; exact hM.2 s h0 h1⟩ (TXm_b hB x2) (MTk_b hT x2) c3
      have e2 : B3.1 367 2 = x := by rw [d1.2 367 2 (by unfold XOz XWb XOx; omega), x2.2 367 2 (by unfold XWb; omega)]; exact hB.1
      refine ⟨B3, (x2.mono (Y := XOz) (fun a k y => Or.inl y)).ey.trans d1, d2, by omega, fun R S' k => vc_MD_packBlocks_204 _ _ _ _ ?_⟩
      have key : ∀ y : Int, y = x → EV q 289 226 [some (.ref 367), some (vI 4), some (vI fr), some (vI 2000), some (vI ((i : Int) * 2000)), none, none] [vI y] B R S' := fun y ey => by
        refine vc_MD_packBlocks_226 _ _ _ _ _ (md_scan (q := q) (T := T) (K := K) (e := ((i : Int) + 1) * 2000) hK hx hp (by omega) (fun p p0 p1 => by omega) hT (K - fr) fr (by omega) ?_)
        rw [← eto]
        refine vc_MD_packBlocks_258 _ _ _ _ _ _ ?_
        rw [hB.1, ey]
        refine cNN rfl (vc_MD_packBlocks_273 _ _ _ _ _ _ _ ⟨B1, b1, B2, c1, B3, d4, ?_⟩)
        rw [e2]
        exact cNo (by omega) k
      rw [hB.1, show w32 2000 = 2000 by decide, w32_of (x := x - (i : Int) * 2000) (by omega)]
      by_cases c : 2000 ≤ x - (i : Int) * 2000
      · exact cY c (key _ (by omega))
      · exact cNo c (key _ rfl)
  | succ v ih =>
    intro i fr hi hfr
    obtain ⟨to, eto⟩ : ∃ to, to = scF T (((i : Int) + 1) * 2000) (K - fr) fr := ⟨_, rfl⟩
    have tr := scF_r T (((i : Int) + 1) * 2000) (K - fr) fr
    rw [← eto] at tr
    obtain ⟨F0, hF0, hG0⟩ := jownB (q := q) (T := T) (K := K) (fr := fr) (to := to) (last := 0) ⟨hK, by omega, tr.1⟩ hx ht hV (Or.inl rfl)
    obtain ⟨F, hF, hG⟩ := ih (i + 1) to (by omega) (by omega)
    obtain ⟨F2, eF2⟩ : ∃ F2 : Wb → Wb, ∀ s, F2 s = F (F0 s) := ⟨_, fun _ => rfl⟩
    refine ⟨F2, fun _ _ _ h => by rw [eF2, eF2]; exact hF _ _ _ (hF0 _ _ _ h), fun s hr hs => ?_⟩
    rw [eF2]
    obtain ⟨⟨u1, u2, u3⟩, uc, um⟩ := hG0 s hr (by omega)
    have os := owS_r (last := 0) hr
    obtain ⟨⟨v1, v2, v3⟩, vc', vm⟩ := hG (F0 s) u1 (by omega)
    refine ⟨⟨v1, by omega, v3⟩, fun A o a1 ho o3 h92 hA hT hb => ?_, fun B hM hB hT hb => ?_⟩
    · obtain ⟨A1, a1', a2', a3'⟩ := uc A o a1 ho o3 h92 hA hT hb
      have at1 : ∀ (a : Nat) (k : Int), (a < 30 ∧ a ≠ 7 ∧ a ≠ 8) ∨ (92 ≤ a ∧ a < 343) → A1.1 a k = A.1 a k := fun a k y => a1'.2 a k (by unfold XOw XRb XOv; omega)
      obtain ⟨A', w1, w2, w3⟩ := vc' A1 o a1 ho o3 (fun k k0 k1 => by rw [at1 92 k (by omega)]; exact h92 k k0 k1) ⟨hA.1, by rw [at1 a1 1 (by have := hA.1.2; omega)]; exact hA.2.1, fun k k0 k1 => by rw [at1 (a1 + 1) k (by have := hA.1.2; omega)]; exact hA.2.2 k k0 k1⟩ (CTk_e hT (fun a k y => at1 a k (by unfold XTc at y; omega))) a2'
      refine ⟨A', a1'.trans w1, w2, vc_Blocks_ownBlocks_25 _ _ _ _ _ hA.1.1 _ _ ho ?_⟩
      rw [wN (), show w32 (i : Int) = i from w32_of (by omega)]
      refine cNo (by omega) (cl_scan (q := q) hA.1.1 ho hK hx hp (by omega) hT (K - fr) fr (by omega) ?_)
      rw [← eto]
      refine vc_Blocks_ownBlocks_74 _ _ _ _ _ _ hA.1.1 _ _ ho ?_
      rw [show w32 (i : Int) = i from w32_of (by omega), w32_of (x := (N : Int) - 1) (by omega)]
      rw [show ((i + 1 : Nat) : Int) = (i : Int) + 1 by omega] at w3
      exact cY (by omega) (vc_Blocks_ownBlocks_93 _ _ _ _ _ _ _ _ _ hA.1.1 _ _ ho _ _ hA.1.1 ⟨A1, a3', w3⟩)
    · obtain ⟨B1, b1, b2, b3, b4⟩ := mw_low_bits (q := q) (v := 0) (n := 1) (by decide) (by decide) hr (by omega) hb
      obtain ⟨B2, c1, c2, c3, c4⟩ := mw_low_bits (q := q) (v := 2) (n := 2) (by decide) (by decide) (wbLow_r _ _ _ hr) (by have := wbLow_n 1 0 s; omega) b3
      have x2 : EX XWb B B2 := b2.trans c2
      have hM2 : TbM B2 := ⟨fun s h0 h1 => by rw [x2.2 391 s (by unfold XWb; omega), x2.2 392 s (by unfold XWb; omega)]; exact hM.1 s h0 h1, fun s h0 h1 => by rw [x2.2 393 s (by unfold XWb; omega), x2.2 394 s (by unfold XWb; omega)]; exact hM.2 s h0 h1⟩
      obtain ⟨B3, d1, d2, d3, d4⟩ := um B2 hM2 (TXm_b hB x2) (MTk_b hT x2) c3
      have at3 : ∀ (a : Nat) (k : Int), ¬ XOz a k → B3.1 a k = B.1 a k := fun a k y => by rw [d1.2 a k y, x2.2 a k (fun w => y (Or.inl w))]
      have e2 : B3.1 367 2 = x := by rw [at3 367 2 (by unfold XOz XWb XOx; omega)]; exact hB.1
      obtain ⟨B4, w1, w2, w3, w4⟩ := vm B3 ⟨fun s h0 h1 => by rw [at3 391 s (by unfold XOz XWb XOx; omega), at3 392 s (by unfold XOz XWb XOx; omega)]; exact hM.1 s h0 h1, fun s h0 h1 => by rw [at3 393 s (by unfold XOz XWb XOx; omega), at3 394 s (by unfold XOz XWb XOx; omega)]; exact hM.2 s h0 h1⟩ (TXm_e hB (fun a k y => at3 a k (by unfold XOz XWb XOx; omega))) (MTk_e hT (fun a k y => at3 a k (by unfold XTm at y; unfold XOz XWb XOx; omega))) d2
      refine ⟨B4, ((x2.mono (Y := XOz) (fun a k y => Or.inl y)).ey.trans d1).trans w1, w2, by omega, fun R S' k => vc_MD_packBlocks_204 _ _ _ _ ?_⟩
      have k204 := w4 R S' k
      have big : (((i : Int) + 1) * 2000) < x := by omega
      rw [hB.1, show w32 2000 = 2000 by decide, w32_of (x := x - (i : Int) * 2000) (by omega)]
      refine cY (by omega) (vc_MD_packBlocks_226 _ _ _ _ _ (md_scan (q := q) (T := T) (K := K) (e := ((i : Int) + 1) * 2000) hK hx hp (by omega) (fun p p0 p1 => by omega) hT (K - fr) fr (by omega) ?_))
      rw [← eto]
      refine vc_MD_packBlocks_258 _ _ _ _ _ _ ?_
      rw [hB.1, w32_of (x := (i : Int) * 2000 + 2000) (by omega), w32_of (x := x) (by omega)]
      refine cY (by omega) (vc_MD_packBlocks_273 _ _ _ _ _ _ _ ⟨B1, b1, B2, c1, B3, d4, ?_⟩)
      rw [e2, w32_of (x := (i : Int) * 2000 + 2000) (by omega), w32_of (x := x) (by omega)]
      rw [show ((i + 1 : Nat) : Int) * 2000 = (i : Int) * 2000 + 2000 by omega] at k204
      exact cY (by omega) k204
end PLev2
