/-! read: TAPE, all rows, both sides at once -/
section Rea8
variable {q : Nat × (Nat → Int32)} {x p : Int} {t : Int → Int}
theorem lbF_ok {u w : Nat} (hx : x ≤ 6000) (h0 : 0 ≤ p) (h1 : p + 512 ≤ x) (ht : ∀ k : Int, 0 ≤ k → k < x → 0 ≤ t k ∧ t k < 256) (hu : upR t (p + 345) 155 u) (hw : upR t p 100 w) (k : Int) (k0 : 0 ≤ k) (k1 : k < (lbN u w : Nat)) : 1 ≤ lbF t p u k ∧ lbF t p u k < 256 := by
  have hu1 := hu.1
  have hw1 := hw.1
  have hw2 : ∀ j : Int, 0 ≤ j → j < w → 1 ≤ t (p + j) ∧ t (p + j) < 256 := fun j j0 j1 => by
    have a := hw.2.1 j.toNat (by omega)
    rw [show ((j.toNat : Nat) : Int) = j by omega] at a
    have b := ht (p + j) (by omega) (by omega)
    omega
  have hu2 : ∀ j : Int, 0 ≤ j → j < u → 1 ≤ t (p + 345 + j) ∧ t (p + 345 + j) < 256 := fun j j0 j1 => by
    have a := hu.2.1 j.toNat (by omega)
    rw [show ((j.toNat : Nat) : Int) = j by omega] at a
    have b := ht (p + 345 + j) (by omega) (by omega)
    omega
  unfold lbN at k1
  unfold lbF
  by_cases z : u = 0
  · rw [if_pos z] at k1 ⊢
    exact hw2 k k0 k1
  · rw [if_neg z] at k1 ⊢
    by_cases a : k < u
    · rw [if_pos a]; exact hu2 k k0 a
    · rw [if_neg a]
      by_cases b : k = u
      · rw [if_pos b]; decide
      · rw [if_neg b]; exact hw2 _ (by omega) (by omega)
def TpR (q : Nat × (Nat → Int32)) (x : Int) (t : Int → Int) (sh n : Nat) (E : Nat → En) (P : Int) (st : Rd) : Prop := ∃ (n' : Nat) (E' : Nat → En) (st' : Rd), rdR x st' ∧ n' ≤ 16 ∧ (∀ e : Nat, e < n' → EnOk (E' e)) ∧ (∀ S A : ms, TC S x t → ShC S sh n E → CR S A 7 x st → ∃ S1 A1, EX (xSh sh) S S1 ∧ CR S1 A1 7 x st' ∧ ShC S1 sh n' E' ∧ EV q 193 4 [some (.ref sh), some (.ref 9), some (vI P), some (vI n)] [] A none A1) ∧ ∀ S B : ms, TM S x t → S.1 367 2 = x → ShM S n E → MR S B x st → ∃ S1 B1, EX xSi S S1 ∧ MR S1 B1 x st' ∧ ShM S1 n' E' ∧ EV q 393 2 [some (.ref 367), some (vI (min P x)), none, none, none, none, none, none, none, none, none, none, none, none, none, none, none, none] [] B none B1
theorem tape1 {sh n : Nat} {E : Nat → En} {P : Int} {st : Rd} (hs : isSh sh) (hx : 0 ≤ x ∧ x ≤ 6000) (ht : ∀ k : Int, 0 ≤ k → k < x → 0 ≤ t k ∧ t k < 256) (hn : n ≤ 16) (hP : 0 ≤ P ∧ P < 200000) (hE : ∀ e : Nat, e < n → EnOk (E e)) (hr : rdR x st) (c0 : st.1 = 0) (nx : n < 16 → ∀ (E1 : Nat → En) (P1 : Int), (0 ≤ P1 ∧ P1 < 200000) → (∀ e : Nat, e < n + 1 → EnOk (E1 e)) → TpR q x t sh (n + 1) E1 P1 st) : TpR q x t sh n E P st := by
  have hsl := isSh_is hs
  have hsr : sh = 193 ∨ sh = 268 := hs
  have ho : (300 < 7 ∨ 7 = 7) := Or.inr rfl
  have wx5 : w32 (x - 512) = x - 512 := w32_of (by omega)
  have wP : w32 P = P := w32_of (by omega)
  have wn : Unit → w32 ((n : Nat) : Int) = n := fun _ => w32_of (by omega)
  have en1 : ((n + 1 : Nat) : Int) = (n : Int) + 1 := by omega
  -- a rule told
  have tc : ∀ (S A : ms) (st : Rd) (P n : Int), st.1 ≠ 0 → rdR x st → CR S A 7 x st → EV q 193 60 [some (.ref sh), some (.ref 9), some (vI P), some (vI n)] [] A none A := by
    intro S A st P n c hr hA
    refine vc_Shelf_readTape_60 _ _ sh hsl (vc_Shelf_readTape_4 _ _ sh hsl ⟨fun _ => ⟨rfl, rfl⟩, fun _ => ?_⟩)
    rw [hA.2.1.2.1, w32_of (x := st.1) (by have := hr.1; omega)]
    exact cY c ⟨rfl, rfl⟩
  have e95 : ∀ S A : ms, CR S A 7 x st → A.1 9 5 = 0 ∧ A.1 9 2 = x := fun S A hA => ⟨by rw [hA.2.1.2.1]; exact c0, hA.2.1.1 c0⟩
  have tcA : ∀ S A : ms, TC S x t → CR S A 7 x st → TC A x t := fun S A hT hA k k0 k1 => ⟨(hT k k0 k1).1, by rw [hA.2.2.2 2 k (by omega) (by omega) (by omega)]; exact (hT k k0 k1).2⟩
  have tmB : ∀ S B : ms, TM S x t → MR S B x st → TM B x t := fun S B hT hB k k0 k1 => ⟨(hT k k0 k1).1, by rw [hB.2.2.2 368 k (by omega) (by omega)]; exact (hT k k0 k1).2⟩
  have mf : ∀ S B : ms, MR S B x st → EV q 333 0 [some (.ref 367)] [] B (some (vI 1)) B := fun S B hB => by
    have kf := md_fine (q := q) hr hB
    rw [if_pos c0] at kf
    exact kf
  by_cases cP : P ≤ x - 512
  case neg =>
    have ct : (rdTellAt 1 x st).1 ≠ 0 := rdTellAt_1 (by decide)
    have hrt : rdR x (rdTellAt 1 x st) := rdR_tellAt hr (by decide)
    refine ⟨n, E, rdTellAt 1 x st, hrt, hn, hE, fun S A hT hSh hA => ?_, fun S B hT h2 hSh hB => ?_⟩
    · obtain ⟨f1, f2⟩ := e95 S A hA
      obtain ⟨A1, k1, k2⟩ := sb_tellAt (q := q) (k := 1) (p := x) hr ho hA
      refine ⟨S, A1, EX.refl _ S, k2, hSh, vc_Shelf_readTape_4 _ _ sh hsl ?_⟩
      rw [wn (), f1, f2, wP, wx5]
      exact cNo (by omega) (cNN (by decide) (cNo cP ⟨A1, k1, tc S A1 _ _ _ ct hrt k2⟩))
    · obtain ⟨B1, k1, k2⟩ := mb_tellAt (q := q) (k := 1) (p := x) hr hB
      have e2 : B.1 367 2 = x := by rw [hB.2.2.2 367 2 (by omega) (by omega)]; exact h2
      refine ⟨S, B1, EX.refl _ S, k2, hSh, vc_MD_readTape_2 _ ⟨1, B, mf S B hB, cNo (by decide) ?_⟩⟩
      rw [e2, w32_of (x := x - min P x) (by omega)]
      exact cNo (by omega) ⟨B1, k1, rfl, rfl⟩
  have h1 : P + 512 ≤ x := by omega
  have emin : min P x = P := by omega
  -- the reference as far as 512
  have m38 : ∀ (S B : ms) (r : Option Value) (T : ms), TM S x t → S.1 367 2 = x → MR S B x st → EV q 393 38 [some (.ref 367), some (vI P), some (vI (bkF t P 512)), some (vI (smF t P 512)), some (vI 512), none, none, none, none, none, none, none, none, none, none, none, none, none] [] B r T → EV q 393 2 [some (.ref 367), some (vI (min P x)), none, none, none, none, none, none, none, none, none, none, none, none, none, none, none, none] [] B r T := by
    intro S B r T hT h2 hB y
    have e2 : B.1 367 2 = x := by rw [hB.2.2.2 367 2 (by omega) (by omega)]; exact h2
    rw [emin]
    refine vc_MD_readTape_2 _ ⟨1, B, mf S B hB, cNo (by decide) ?_⟩
    rw [e2, w32_of (x := x - P) (by omega)]
    exact cY (by omega) (md_blank hP.1 h1 hx.2 (tmB S B hT hB) y 512 0 (by omega))
  have kbl : ∀ S A : ms, TC S x t → CR S A 7 x st → EV q 194 0 [some (.ref 2), some (vI P), none] [] A (some (vI (bkF t P 512))) A := fun S A hT hA => vc_Shelf_isBlank _ 2 6000 sh_2 (sp_blank hP.1 h1 hx.2 (tcA S A hT hA) 512 0 (by omega) rfl)
  rcases bkF_01 t P 512 with hb | hb
  case inr =>
    refine ⟨n, E, st, hr, hn, hE, fun S A hT hSh hA => ?_, fun S B hT h2 hSh hB => ?_⟩
    · obtain ⟨f1, f2⟩ := e95 S A hA
      have kb := kbl S A hT hA
      rw [hb] at kb
      refine ⟨S, A, EX.refl _ S, hA, hSh, vc_Shelf_readTape_4 _ _ sh hsl ?_⟩
      rw [wn (), f1, f2, wP, wx5]
      exact cNo (by omega) (cNN (by decide) (cY cP ⟨1, A, kb, cNo (by decide) ⟨rfl, rfl⟩⟩))
    · refine ⟨S, B, EX.refl _ S, hB, hSh, m38 S B _ _ hT h2 hB (vc_MD_readTape_38 _ _ _ _ (cY (by decide) ?_))⟩
      rw [hb]
      exact cNo (by decide) ⟨rfl, rfl⟩
  obtain ⟨v1, b1, g1, l1⟩ := jeig (q := q) (x := x) (t := t) (p := P + 148) (n := 8) (by omega) (by omega) hx.2 (by omega)
  obtain ⟨v2, b2, g2, l2⟩ := jeig (q := q) (x := x) (t := t) (p := P + 100) (n := 8) (by omega) (by omega) hx.2 (by omega)
  obtain ⟨v3, b3, g3, l3⟩ := jeig (q := q) (x := x) (t := t) (p := P + 124) (n := 12) (by omega) (by omega) hx.2 (by omega)
  obtain ⟨v4, b4, g4, l4⟩ := jeig (q := q) (x := x) (t := t) (p := P + 136) (n := 12) (by omega) (by omega) hx.2 (by omega)
  obtain ⟨u, hu, ku⟩ := md_up (q := q) (x := x) (t := t) (p := P + 345) (n := 155) (by omega) (by omega) hx.2
  obtain ⟨w, hw, kw⟩ := md_up (q := q) (x := x) (t := t) (p := P) (n := 100) (by omega) (by omega) hx.2
  obtain ⟨s7, e7⟩ : ∃ s : Rd, s = tpF x P t n (lbN u w) v1 v2 v3 v4 st := ⟨_, rfl⟩
  have r7 : rdR x s7 := by rw [e7]; exact tpF_r hr
  have hC : ∀ S A : ms, TC S x t → ShC S sh n E → CR S A 7 x st → ∃ (S1 A1 : ms) (zr : Int), EX (xSh sh) S S1 ∧ CR S1 A1 7 x s7 ∧ (s7.1 = 0 → ShC S1 sh (n + 1) (upE E n ((lbN u w : Nat), lbF t P u, v2 % 512, v4, v3, fun k => t (P + 512 + k))) ∧ zr = tpP P v3) ∧ (s7.1 ≠ 0 → ShC S1 sh n E) ∧ ∀ T : ms, EV q 193 60 [some (.ref sh), some (.ref 9), some (vI zr), some (vI n)] [] A1 none T → EV q 193 4 [some (.ref sh), some (.ref 9), some (vI P), some (vI n)] [] A none T := by
    intro S A hT hSh hA
    obtain ⟨f1, f2⟩ := e95 S A hA
    obtain ⟨S1, A1, zr, k1, k2, k3, k4, k5⟩ := sp_tpRow (q := q) (u := u) (w := w) hs hx hP.1 h1 hn hE b1 b2 b3 b4 g1 g2 g3 g4 hu hw hr c0 hT hSh hA
    rw [← e7] at k2 k3 k4
    have kb := kbl S A hT hA
    rw [hb] at kb
    refine ⟨S1, A1, zr, k1, k2, k3, k4, fun T y => vc_Shelf_readTape_4 _ _ sh hsl ?_⟩
    rw [wn (), f1, f2, wP, wx5]
    exact cNo (by omega) (cNN (by decide) (cY cP ⟨0, A, kb, cY (by decide) ⟨zr, A1, k5, y⟩⟩))
  have hM : ∀ S B : ms, TM S x t → S.1 367 2 = x → ShM S n E → MR S B x st → ∃ S1 B1, EX xSi S S1 ∧ MR S1 B1 x s7 ∧ (s7.1 = 0 → ShM S1 (n + 1) (upE E n ((lbN u w : Nat), lbF t P u, v2 % 512, v4, v3, fun k => t (P + 512 + k)))) ∧ (s7.1 ≠ 0 → ShM S1 n E) ∧ ∀ (r : Option Value) (T : ms), (s7.1 = 0 → EV q 393 2 [some (.ref 367), some (vI (min (tpP P v3) x)), none, none, none, none, none, none, none, none, none, none, none, none, none, none, none, none] [] B1 r T) → (s7.1 ≠ 0 → r = none ∧ T = B1) → EV q 393 2 [some (.ref 367), some (vI (min P x)), none, none, none, none, none, none, none, none, none, none, none, none, none, none, none, none] [] B r T := by
    intro S B hT h2 hSh hB
    obtain ⟨S1, B1, k1, k2, k3, k4, k5⟩ := md_tpRow (q := q) (u := u) (w := w) hx hP.1 h1 hn hE b1 b2 b3 b4 l1 l2 l3 l4 hu hw ku kw hr c0 hT h2 hSh hb hB
    rw [← e7] at k2 k3 k4 k5
    exact ⟨S1, B1, k1, k2, k3, k4, fun r T y1 y2 => m38 S B r T hT h2 hB (k5 r T y1 y2)⟩
  by_cases z : s7.1 = 0
  case neg =>
    refine ⟨n, E, s7, r7, hn, hE, fun S A hT hSh hA => ?_, fun S B hT h2 hSh hB => ?_⟩
    · obtain ⟨S1, A1, zr, k1, k2, k3, k4, k5⟩ := hC S A hT hSh hA
      exact ⟨S1, A1, k1, k2, k4 z, k5 A1 (tc S1 A1 s7 _ _ z r7 k2)⟩
    · obtain ⟨S1, B1, k1, k2, k3, k4, k5⟩ := hM S B hT h2 hSh hB
      exact ⟨S1, B1, k1, k2, k4 z, k5 none B1 (fun y => absurd y z) (fun _ => ⟨rfl, rfl⟩)⟩
  have z' := z
  rw [e7] at z'
  obtain ⟨f1, f2, f3, f4, f5, f6⟩ := tpF_0 z'
  have es : s7 = st := by
    rw [e7]
    unfold tpF
    rw [tl_y f1.1, tl_y f1.2, tl_y f2, tl_y f3, tl_y f4, tl_y f5, tl_y f6]
  have hok : EnOk ((lbN u w : Nat), lbF t P u, v2 % 512, v4, v3, fun k => t (P + 512 + k)) := by
    refine ⟨⟨⟨?_, ?_⟩, fun k k0 k1 => lbF_ok hx.2 hP.1 h1 ht hu hw k k0 k1⟩, ⟨f2.2.1, f5.2⟩, fun k k0 k1 => ht (P + 512 + k) (by omega) (by have : k < v3 := k1; omega), ⟨by show 0 ≤ v2 % 512; omega, by show v2 % 512 ≤ 511; omega⟩, by show 0 ≤ v4; omega, by show v4 ≤ 2147483647; omega⟩
    · show 1 ≤ ((lbN u w : Nat) : Int)
      have hw0 : w ≠ 0 := fun y => by
        have := hw.2.2 (by omega)
        rw [y, show P + ((0 : Nat) : Int) = P from Int.add_zero _] at this
        exact f4.1 this
      unfold lbN
      split <;> omega
    · show ((lbN u w : Nat) : Int) ≤ 100
      have := f4.2
      omega
  obtain ⟨n', E', st', i1, i2, i3, i4, i5⟩ := nx f5.1 _ (tpP P v3) (by unfold tpP; omega) (upE_ok hE hok)
  refine ⟨n', E', st', i1, i2, i3, fun S A hT hSh hA => ?_, fun S B hT h2 hSh hB => ?_⟩
  · obtain ⟨S1, A1, zr, k1, k2, k3, k4, k5⟩ := hC S A hT hSh hA
    obtain ⟨k6, k7⟩ := k3 z
    rw [es] at k2
    have hT1 : TC S1 x t := fun k k0 k1' => ⟨(hT k k0 k1').1, by rw [k1.2 2 k (by unfold xSh; omega)]; exact (hT k k0 k1').2⟩
    obtain ⟨S2, A2, j1, j2, j3, j4⟩ := i4 S1 A1 hT1 k6 k2
    rw [en1] at j4
    subst k7
    exact ⟨S2, A2, EX.trans k1 j1, j2, j3, k5 A2 (vc_Shelf_readTape_60 _ _ sh hsl j4)⟩
  · obtain ⟨S1, B1, k1, k2, k3, k4, k5⟩ := hM S B hT h2 hSh hB
    rw [es] at k2
    have hT1 : TM S1 x t := fun k k0 k1' => ⟨(hT k k0 k1').1, by rw [k1.2 368 k (by unfold xSi; omega)]; exact (hT k k0 k1').2⟩
    obtain ⟨S2, B2, j1, j2, j3, j4⟩ := i5 S1 B1 hT1 (by rw [k1.2 367 2 (by unfold xSi; omega)]; exact h2) (k3 z) k2
    exact ⟨S2, B2, EX.trans k1 j1, j2, j3, k5 none B2 (fun _ => j4) (fun y => absurd z y)⟩
theorem jtape {sh : Nat} (hs : isSh sh) (hx : 0 ≤ x ∧ x ≤ 6000) (ht : ∀ k : Int, 0 ≤ k → k < x → 0 ≤ t k ∧ t k < 256) : ∀ (d n : Nat) (E : Nat → En) (P : Int) (st : Rd), n + d = 16 → (0 ≤ P ∧ P < 200000) → (∀ e : Nat, e < n → EnOk (E e)) → rdR x st → st.1 = 0 → TpR q x t sh n E P st := by
  intro d
  induction d with
  | zero =>
    intro n E P st hn hP hE hr c0
    exact tape1 hs hx ht (by omega) hP hE hr c0 (fun y => absurd y (by omega))
  | succ d ih =>
    intro n E P st hn hP hE hr c0
    exact tape1 hs hx ht (by omega) hP hE hr c0 (fun _ E1 P1 h1 h2 => ih (n + 1) E1 P1 st (by omega) h1 h2 hr c0)
end Rea8
