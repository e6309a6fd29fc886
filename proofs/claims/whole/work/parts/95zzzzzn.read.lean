/-! read: a BOX's rows and texts, both sides at once -/
section ReaN
variable {q : Nat × (Nat → Int32)} {x : Int} {t : Int → Int}
theorem sp_bxNo {sh : Nat} {r L : Int} {st : Rd} {S A : ms} (hs : isSh sh) (hx : 0 ≤ x ∧ x ≤ 6000) (hL : L + 22 = x) (r0 : 0 ≤ r ∧ r < 100000) (hA1 : ¬ bxA t r L) (hr : rdR x st) (hT : TC S x t) (hA : CW S A x st) : ∃ A1, CW S A1 x (rdTellAt 122 r st) ∧ EV q 205 0 [some (.ref sh), some (.ref 9), some (vI r), some (vI L), none, none, none, none, none] [] A none A1 := by
  have hsl := isSh_is hs
  have hTA : TC A x t := fun k k0 k1 => ⟨(hT k k0 k1).1, by rw [hA.2.2.2 2 k (by omega) (by omega) (by omega)]; exact (hT k k0 k1).2⟩
  have ht : ∀ k : Int, 0 ≤ k → k < x → 0 ≤ t k ∧ t k < 256 := fun k k0 k1 => (hT k k0 k1).1
  obtain ⟨A1, m1, m2⟩ := cw_tellAt (q := q) (k := 122) (p := r) hr hA
  have k49 : EV q 205 49 [some (.ref sh), some (.ref 9), some (vI r), some (vI L), some (.ref 2), none, none, none, none] [] A none A1 := vc_Shelf_boxRow_49 _ _ sh hsl ⟨A1, m1, rfl, rfl⟩
  refine ⟨A1, m2, vc_Shelf_boxRow _ _ sh hsl ?_⟩
  rw [w32_of (x := L - 46) (by omega), w32_of (x := r) (by omega)]
  by_cases c1 : L - 46 < r
  case pos => exact cY c1 k49
  have l2 := low2_r (t := t) (x := x) (p := r + 28) (by omega) ht
  have l4 := low4_r (t := t) (x := x) (p := r) (by omega) ht
  refine cNo c1 ⟨_, A, cn_low (p := r) (n := 4) r0.1 (by omega) hx.2 hTA, ?_⟩
  rw [w64_of (x := lowV t r 4) (by omega), show w64 33639248 = 33639248 by decide]
  by_cases c2 : lowV t r 4 = 33639248
  case neg => exact cY c2 k49
  refine cNN c2 ⟨_, A, cn_low (p := r + 28) (n := 2) (by omega) (by omega) hx.2 hTA, ?_⟩
  rw [w64_of (x := lowV t (r + 28) 2) (by omega), w32_of (x := L - 46 - r) (by omega), w64_of (x := L - 46 - r) (by omega)]
  exact cNo (fun y => hA1 ⟨by omega, c2, by omega⟩) k49
def BxL (q : Nat × (Nat → Int32)) (x : Int) (t : Int → Int) (sh j C : Nat) (E0 : Nat → En) (r L b0 : Int) (st : Rd) (n' : Nat) (E' : Nat → En) (st' : Rd) : Prop := (∀ S A : ms, S.1 9 7 = 0 → S.2.2 9 1 = 7 → TC S x t → CodC S 31 288 flF → CodC S 42 32 (fun _ => 5) → ShC S sh j E0 → CW S A x st → ∃ S1 A1, EX (fun a k => xSh sh a k ∨ XCc a k) S S1 ∧ CW S1 A1 x st' ∧ ShC S1 sh n' E' ∧ EV q 203 61 [some (.ref sh), some (.ref 9), some (.ref 2), some (vI L), some (vI C), some (vI b0), some (vI r), some (vI j)] [] A none A1) ∧ ∀ S B : ms, TbK S → RQ S → S.2.2 367 13 = 368 → TM S x t → ShM S j E0 → MWl S B st → ∃ S1 B1, EY (fun a k => xSi a k ∨ XBm a k ∨ (a = 367 ∧ k = 14)) S S1 ∧ TbK S1 ∧ MWl S1 B1 st' ∧ ShM S1 n' E' ∧ EV q 400 161 [some (.ref 367), some (vI L), some (vL C), none, some (vL b0), none, some (vI r), some (vL j), none, none, none, none, none, none] [] B none B1
theorem jbxL {sh C : Nat} {L b0 : Int} (hs : isSh sh) (hx : 0 ≤ x ∧ x ≤ 6000) (ht : ∀ k : Int, 0 ≤ k → k < x → 0 ≤ t k ∧ t k < 256) (hL : L + 22 = x) (hC : C ≤ 16) (hb : 0 ≤ b0 ∧ b0 ≤ x) : ∀ (d j : Nat) (E0 : Nat → En) (r : Int) (st : Rd), j + d = C → 0 ≤ r → r ≤ L → (∀ e : Nat, e < j → EnOk (E0 e)) → rdR x st → st.1 = 0 → ∃ (n' : Nat) (E' : Nat → En) (st' : Rd), rdR x st' ∧ n' ≤ 16 ∧ (∀ e : Nat, e < n' → EnOk (E' e)) ∧ BxL q x t sh j C E0 r L b0 st n' E' st' := by
  have hsl := isSh_is hs
  have hsr : sh = 193 ∨ sh = 268 := hs
  have wL : w32 L = L := w32_of (by omega)
  have wC : Unit → w32 ((C : Nat) : Int) = C := fun _ => w32_of (by omega)
  have vC : Unit → w64 ((C : Nat) : Int) = C := fun _ => w64_of (by omega)
  intro d
  induction d with
  | zero =>
    intro j E0 r st hj r0 r1 hE hr c0
    have e : j = C := by omega
    subst e
    have wr : w32 r = r := w32_of (by omega)
    by_cases c : L ≤ r
    · have e : r = L := by omega
      subst e
      refine ⟨j, E0, st, hr, hC, hE, fun S A _ _ hT _ _ hSh hA => ⟨S, A, EX.refl _ S, hA, hSh, vc_Shelf_readBox_61 _ _ _ _ _ sh hsl (cY (Int.le_refl _) (vc_Shelf_readBox_132 _ _ _ _ _ sh hsl (cY (Int.le_refl _) ⟨rfl, rfl⟩)))⟩, fun S B hK _ _ hT hSh hB => ?_⟩
      have kf := mt_fine (q := q) hr hB
      rw [if_pos c0] at kf
      exact ⟨S, B, EY.refl _ S, hK, hB, hSh, vc_MD_readBox_161 _ _ _ _ _ (cY (Int.le_refl _) (vc_MD_readBox_472 _ _ _ _ _ ⟨1, B, kf, cNo (by decide) (cY rfl ⟨rfl, rfl⟩)⟩))⟩
    · have ct : (rdTellAt 122 r st).1 ≠ 0 := rdTellAt_1 (by decide)
      refine ⟨j, E0, rdTellAt 122 r st, rdR_tellAt hr (by decide), hC, hE, fun S A _ _ hT _ _ hSh hA => ?_, fun S B hK _ _ hT hSh hB => ?_⟩
      · obtain ⟨A1, k1, k2⟩ := cw_tellAt (q := q) (k := 122) (p := r) hr hA
        refine ⟨S, A1, EX.refl _ S, k2, hSh, vc_Shelf_readBox_61 _ _ _ _ _ sh hsl (cY (Int.le_refl _) (vc_Shelf_readBox_132 _ _ _ _ _ sh hsl ?_))⟩
        rw [wL, wr]
        exact cNo c ⟨A1, k1, rfl, rfl⟩
      · obtain ⟨B1, k1, k2⟩ := mt_tellAt (q := q) (k := 122) (p := r) hr hB
        have kf := mt_fine (q := q) hr hB
        rw [if_pos c0] at kf
        refine ⟨S, B1, EY.refl _ S, hK, k2, hSh, vc_MD_readBox_161 _ _ _ _ _ (cY (Int.le_refl _) (vc_MD_readBox_472 _ _ _ _ _ ⟨1, B, kf, cNo (by decide) ?_⟩))⟩
        rw [wL, wr]
        exact cNo (by omega) ⟨B1, k1, rfl, rfl⟩
  | succ d ih =>
    intro j E0 r st hj r0 r1 hE hr c0
    have wj : Unit → w32 ((j : Nat) : Int) = j := fun _ => w32_of (by omega)
    have vj : Unit → w64 ((j : Nat) : Int) = j := fun _ => w64_of (by omega)
    have ej : ((j + 1 : Nat) : Int) = (j : Int) + 1 := by omega
    have njC : ¬ w64 ((C : Nat) : Int) ≤ w64 ((j : Nat) : Int) := by rw [vC (), vj ()]; omega
    by_cases hA1 : bxA t r L
    case neg =>
      have ct : (rdTellAt 122 r st).1 ≠ 0 := rdTellAt_1 (by decide)
      have hrt : rdR x (rdTellAt 122 r st) := rdR_tellAt hr (by decide)
      refine ⟨j, E0, rdTellAt 122 r st, hrt, by omega, hE, fun S A _ _ hT _ _ hSh hA => ?_, fun S B hK _ _ hT hSh hB => ?_⟩
      · obtain ⟨A1, k1, k2⟩ := sp_bxNo (q := q) hs hx hL (by omega) hA1 hr hT hA
        have w5 : w32 (A1.1 9 5) ≠ 0 := by rw [k1.2.1.2.1, w32_of (by have := hrt.1; omega)]; exact ct
        refine ⟨S, A1, EX.refl _ S, k1, hSh, vc_Shelf_readBox_61 _ _ _ _ _ sh hsl ?_⟩
        rw [wC (), wj ()]
        exact cNo (by omega) (cNo (by omega) ⟨A1, k2, cY w5 (vc_Shelf_readBox_99 _ _ _ _ _ sh hsl (cNo w5 ⟨rfl, rfl⟩))⟩)
      · obtain ⟨B1, k1, k2⟩ := md_bxNo (q := q) (x2 := C) (x4 := b0) (x7 := j) hx hL (by omega) hA1 njC hr c0 hT hB
        exact ⟨S, B1, EY.refl _ S, hK, k1, hSh, k2⟩
    obtain ⟨n, hn⟩ : ∃ n : Nat, lowV t (r + 28) 2 = n := ⟨(lowV t (r + 28) 2).toNat, by have := low2_r (t := t) (x := x) (p := r + 28) (by have := hA1.1; omega) ht; omega⟩
    have a1 := hA1.1
    have a3 := hA1.2.2
    rw [hn] at a3
    obtain ⟨u, hu, ku⟩ := md_up (q := q) (t := t) (x := x) (p := r + 46) (n := n) (by omega) (by omega) hx.2
    have hrF : rdR x (bxF t r n u st) := tl_r (tl_r (tl_r hr (by decide)) (by decide)) (by decide)
    by_cases cF : (bxF t r n u st).1 = 0
    case neg =>
      refine ⟨j, E0, bxF t r n u st, hrF, by omega, hE, fun S A _ _ hT _ _ hSh hA => ?_, fun S B hK _ _ hT hSh hB => ?_⟩
      · obtain ⟨S1, A1, k1, k2, k3, k4⟩ := sp_bxRow (q := q) hs hx hL r0 hA1 hn hu hr hT hA
        have w5 : w32 (A1.1 9 5) ≠ 0 := by rw [k2.2.1.2.1, w32_of (by have := hrF.1; omega)]; exact cF
        refine ⟨S1, A1, EX.mono k1 (fun a k y => Or.inl (by unfold xSh; omega)), k2, ShC_x hSh k1 (fun a k y => Or.inr y) (by omega), vc_Shelf_readBox_61 _ _ _ _ _ sh hsl ?_⟩
        rw [wC (), wj ()]
        exact cNo (by omega) (cNo (by omega) ⟨A1, k4, cY w5 (vc_Shelf_readBox_99 _ _ _ _ _ sh hsl (cNo w5 ⟨rfl, rfl⟩))⟩)
      · obtain ⟨B1, k1, k2⟩ := (md_bxRow (q := q) (x2 := C) (x4 := b0) (x7 := j) hx hL r0 hA1 hn hu ku njC hr c0 hT hB).1 cF
        exact ⟨S, B1, EY.refl _ S, hK, k1, hSh, k2⟩
    have t1 := tl_0 (by decide) cF
    have t2 := tl_0 (by decide) t1.2
    have t3 := tl_0 (by decide) t2.2
    obtain ⟨n0, n1, eu⟩ := t2.1
    subst eu
    obtain ⟨st1, E, g1, g2, g3, g4⟩ := jbxT (q := q) (sh := sh) (n := u) (k := j) (E0 := E0) (r := r) (b0 := b0) (st := st) hs hx ht r0 (by omega) (by omega) hn (fun i hi => hu.2.1 i hi) hb t3.1.1 t1.1 (fun _ => ⟨t3.1.2.2.2.2.1, t3.1.2.2.2.2.2⟩) (by omega) hE hr c0
    have eF : bxF t r u u st = st := by unfold bxF; rw [tl_y t3.1, tl_y t2.1, tl_y t1.1]
    have ern : r + (46 + ((u : Nat) : Int)) = r + 46 + u := by omega
    by_cases cT : st1.1 = 0
    case neg =>
      refine ⟨j, E0, st1, g1, by omega, hE, fun S A hS ho hT h31 h42 hSh hA => ?_, fun S B hK hQ h13 hT hSh hB => ?_⟩
      · obtain ⟨S1, A1, k1, k2, k3, k4⟩ := sp_bxRow (q := q) hs hx hL r0 hA1 hn hu hr hT hA
        rw [eF] at k2
        have hT1 : TC S1 x t := fun k k0 k1' => ⟨(hT k k0 k1').1, by rw [k1.2 2 k (by omega)]; exact (hT k k0 k1').2⟩
        have k1' : EX (fun a k => xSh sh a k ∨ XCc a k) S S1 := EX.mono k1 (fun a k y => Or.inl (by unfold xSh; omega))
        obtain ⟨S2, A2, m1, m2, m3, m4, m5⟩ := g3 S1 A1 (by rw [k1.2 9 7 (by omega)]; exact hS) (by rw [k1.1]; exact ho) hT1 (CodC_ex h31 k1 (fun a k y => by omega)) (CodC_ex h42 k1 (fun a k y => by omega)) k3 (ShC_x hSh k1 (fun a k y => Or.inr y) (by omega)) k2
        have w5 : w32 (A1.1 9 5) = 0 := by rw [k2.2.1.2.1, c0]; decide
        have w6 : w32 (A2.1 9 5) ≠ 0 := by rw [m2.2.1.2.1, w32_of (by have := g1.1; omega)]; exact cT
        refine ⟨S2, A2, EX.trans k1' m1, m2, m4 cT, vc_Shelf_readBox_61 _ _ _ _ _ sh hsl ?_⟩
        rw [wC (), wj ()]
        exact cNo (by omega) (cNo (by omega) ⟨A1, k4, cNN w5 ⟨A2, m5, vc_Shelf_readBox_99 _ _ _ _ _ sh hsl (cNo w6 ⟨rfl, rfl⟩)⟩⟩)
      · obtain ⟨S1, B1, m1, m2, m3, m4, m5, m6⟩ := g4 S B hK hQ h13 hT hSh hB
        have kf := mt_fine (q := q) g1 m3
        rw [if_neg cT] at kf
        refine ⟨S1, B1, m1, m2, m3, m5 cT, ((md_bxRow (q := q) (x2 := C) (x4 := b0) (x7 := j) hx hL r0 hA1 hn hu ku njC hr c0 hT hB).2 cF).2 _ _ ⟨B1, m6, ?_⟩⟩
        have k472 : EV q 400 472 [some (.ref 367), some (vI L), some (vL C), none, some (vL b0), none, some (vI (r + (46 + ((u : Nat) : Int)))), some (vL ((j : Int) + 1)), none, none, none, none, none, none] [] B1 none B1 := vc_MD_readBox_472 _ _ _ _ _ ⟨0, B1, kf, cY (by decide) ⟨rfl, rfl⟩⟩
        refine vc_MD_readBox_161 _ _ _ _ _ ?_
        by_cases y : w64 ((C : Nat) : Int) ≤ w64 ((j : Int) + 1)
        · exact cY y k472
        · exact cNo y ⟨0, B1, kf, cY (by decide) k472⟩
    obtain ⟨n', E', st', i1, i2, i3, i4, i5⟩ := ih (j + 1) (upE E0 j E) (r + 46 + u) st1 (by omega) (by omega) (by omega) (upE_ok hE (g2 cT)) g1 cT
    refine ⟨n', E', st', i1, i2, i3, fun S A hS ho hT h31 h42 hSh hA => ?_, fun S B hK hQ h13 hT hSh hB => ?_⟩
    · obtain ⟨S1, A1, k1, k2, k3, k4⟩ := sp_bxRow (q := q) hs hx hL r0 hA1 hn hu hr hT hA
      rw [eF] at k2
      have hT1 : TC S1 x t := fun k k0 k1' => ⟨(hT k k0 k1').1, by rw [k1.2 2 k (by omega)]; exact (hT k k0 k1').2⟩
      have k1' : EX (fun a k => xSh sh a k ∨ XCc a k) S S1 := EX.mono k1 (fun a k y => Or.inl (by unfold xSh; omega))
      have hS1 : S1.1 9 7 = 0 := by rw [k1.2 9 7 (by omega)]; exact hS
      have ho1 : S1.2.2 9 1 = 7 := by rw [k1.1]; exact ho
      have hc1 : CodC S1 31 288 flF := CodC_ex h31 k1 (fun a k y => by omega)
      have hc2 : CodC S1 42 32 (fun _ => 5) := CodC_ex h42 k1 (fun a k y => by omega)
      obtain ⟨S2, A2, m1, m2, m3, m4, m5⟩ := g3 S1 A1 hS1 ho1 hT1 hc1 hc2 k3 (ShC_x hSh k1 (fun a k y => Or.inr y) (by omega)) k2
      have nx : ∀ a : Nat, (a = 2 ∨ a = 9 ∨ (31 ≤ a ∧ a ≤ 52)) → ∀ k : Int, ¬ (xSh sh a k ∨ XCc a k) := fun a ha k => by unfold xSh XCc; omega
      have hT2 : TC S2 x t := fun k k0 k1' => ⟨(hT k k0 k1').1, by rw [m1.2 2 k (nx 2 (by omega) k)]; exact (hT1 k k0 k1').2⟩
      have cx : ∀ b, (b = 31 ∨ b = 42) → ∀ a k, (xSh sh a k ∨ XCc a k) → ¬ (b ≤ a ∧ a ≤ b + 10) := fun b hb a k y => by unfold xSh XCc at y; omega
      obtain ⟨S3, A3, o1, o2, o3, o4⟩ := i4 S2 A2 (by rw [m1.2 9 7 (nx 9 (by omega) 7)]; exact hS1) (by rw [m1.1]; exact ho1) hT2 (CodC_ex hc1 m1 (cx 31 (by omega))) (CodC_ex hc2 m1 (cx 42 (by omega))) (m3 cT) m2
      have w5 : w32 (A1.1 9 5) = 0 := by rw [k2.2.1.2.1, c0]; decide
      have w6 : w32 (A2.1 9 5) = 0 := by rw [m2.2.1.2.1, cT]; decide
      have hTA : TC A2 x t := fun k k0 k1' => ⟨(hT k k0 k1').1, by rw [m2.2.2.2 2 k (by omega) (by omega) (by omega)]; exact (hT2 k k0 k1').2⟩
      have kl := cn_low (q := q) (p := r + 28) (n := 2) (by omega) (by omega) hx.2 hTA
      rw [hn] at kl
      rw [ej, ← ern] at o4
      refine ⟨S3, A3, EX.trans (EX.trans k1' m1) o1, o2, o3, vc_Shelf_readBox_61 _ _ _ _ _ sh hsl ?_⟩
      rw [wC (), wj ()]
      exact cNo (by omega) (cNo (by omega) ⟨A1, k4, cNN w5 ⟨A2, m5, vc_Shelf_readBox_99 _ _ _ _ _ sh hsl (cY w6 ⟨_, A2, kl, o4⟩)⟩⟩)
    · obtain ⟨S1, B1, m1, m2, m3, m4, m5, m6⟩ := g4 S B hK hQ h13 hT hSh hB
      have nx : ∀ a : Nat, (a = 368 ∨ a = 372 ∨ a = 373) → ∀ k : Int, ¬ (xSi a k ∨ XBm a k ∨ (a = 367 ∧ k = 14)) := fun a ha k => by unfold xSi XBm XCm XTb; omega
      have hT1 : TM S1 x t := fun k k0 k1' => ⟨(hT k k0 k1').1, by rw [m1.2 368 k (nx 368 (by omega) k)]; exact (hT k k0 k1').2⟩
      have hQ1 : RQ S1 := ⟨fun k hk => by rw [m1.2 372 k (nx 372 (by omega) k)]; exact hQ.1 k hk, fun k hk => by rw [m1.2 373 k (nx 373 (by omega) k)]; exact hQ.2 k hk⟩
      obtain ⟨S2, B2, o1, o2, o3, o4, o5⟩ := i5 S1 B1 m2 hQ1 (by rw [m1.1]; exact h13) hT1 (m4 cT) m3
      rw [ej, ← ern] at o5
      exact ⟨S2, B2, EY.trans m1 o1, o2, o3, o4, ((md_bxRow (q := q) (x2 := C) (x4 := b0) (x7 := j) hx hL r0 hA1 hn hu ku njC hr c0 hT hB).2 cF).2 _ _ ⟨B1, m6, o5⟩⟩
end ReaN
