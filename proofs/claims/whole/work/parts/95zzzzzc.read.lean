/-! read: BENCH from its mark on; a BOX's numbers -/
section ReaC
variable {q : Nat × (Nat → Int32)} {x p : Int} {t : Int → Int}
/-- a kind is read: out of an empty shelf, on both sides -/
def RdK (q : Nat × (Nat → Int32)) (x : Int) (t : Int → Int) (sh jc jm : Nat) (lc lm : List (Option Value)) : Prop := ∃ (n' : Nat) (E' : Nat → En) (st' : Rd), rdR x st' ∧ n' ≤ 16 ∧ (∀ e : Nat, e < n' → EnOk (E' e)) ∧ (∀ S A : ms, S.1 9 7 = 0 → S.2.2 9 1 = 7 → TC S x t → CodC S 31 288 flF → CodC S 42 32 (fun _ => 5) → S.1 sh 4 = 0 → CR S A 7 x st0 → ∃ S1 A1, EX (fun a k => xSh sh a k ∨ XCc a k) S S1 ∧ CW S1 A1 x st' ∧ ShC S1 sh n' E' ∧ EV q jc 0 (some (.ref sh) :: some (.ref 9) :: lc) [] A none A1) ∧ ∀ S B : ms, S.1 367 18 = 0 → TbK S → RQ S → S.2.2 367 13 = 368 → TM S x t → S.1 367 2 = x → S.1 367 95 = 0 → MR S B x st0 → ∃ S1 B1, EY (fun a k => xSi a k ∨ XBm a k ∨ (a = 367 ∧ k = 14)) S S1 ∧ MWl S1 B1 st' ∧ TbK S1 ∧ ShM S1 n' E' ∧ EV q jm 0 (some (.ref 367) :: lm) [] B none B1
theorem TbK_i {S S1 : ms} (h : TbK S) (e : EX xSi S S1) : TbK S1 := TbK_ey h e.ey (fun a k y => by unfold xSi at y; omega)
theorem rd_tape {sh : Nat} (hs : isSh sh) (hx : 0 ≤ x ∧ x ≤ 6000) (ht : ∀ k : Int, 0 ≤ k → k < x → 0 ≤ t k ∧ t k < 256) : RdK q x t sh 193 393 [none, none] [none, none, none, none, none, none, none, none, none, none, none, none, none, none, none, none, none] := by
  obtain ⟨n', E', st', i1, i2, i3, i4, i5⟩ := jtape (q := q) (t := t) hs hx ht 16 0 (fun _ => (0, fun _ => 0, 0, 0, 0, fun _ => 0)) 0 st0 (by omega) (by omega) (fun e he => absurd he (by omega)) (rdR_0 hx.1) rfl
  refine ⟨n', E', st', i1, i2, i3, fun S A _ _ hT _ _ h4 hA => ?_, fun S B _ hK _ _ hT h2 h95 hB => ?_⟩
  · obtain ⟨S1, A1, k1, k2, k3, k4⟩ := i4 S A hT ⟨h4, fun e he => absurd he (by omega)⟩ hA
    exact ⟨S1, A1, EX.mono k1 (fun a k y => Or.inl y), CR_CW k2, k3, vc_Shelf_readTape sh (isSh_is hs) k4⟩
  · obtain ⟨S1, B1, k1, k2, k3, k4⟩ := i5 S B hT h2 ⟨h95, fun e he => absurd he (by omega)⟩ hB
    rw [show min (0 : Int) x = 0 by omega] at k4
    exact ⟨S1, B1, EY.mono k1.ey (fun a k y => Or.inl y), MR_MWl k2, TbK_i hK k1, k3, vc_MD_readTape k4⟩
theorem bn_mark : ∀ k : Nat, k < 8 → sS 8 k = sS 10 k ∧ 0 ≤ sS 8 k ∧ sS 8 k < 128 := by
  have : ∀ k : Fin 8, sS 8 (k.1 : Int) = sS 10 (k.1 : Int) ∧ 0 ≤ sS 8 (k.1 : Int) ∧ sS 8 (k.1 : Int) < 128 := by decide
  exact fun k hk => this ⟨k, hk⟩
theorem rd_bench {sh : Nat} (hs : isSh sh) (hx : 0 ≤ x ∧ x ≤ 6000) (ht : ∀ k : Int, 0 ≤ k → k < x → 0 ≤ t k ∧ t k < 256) : RdK q x t sh 199 398 [none, none] [none, none, none, none, none, none, none, none, none, none, none] := by
  have hsl := isSh_is hs
  have ho : (300 < 7 ∨ 7 = 7) := Or.inr rfl
  have hr0 : rdR x st0 := rdR_0 hx.1
  have wx : w32 x = x := w32_of (by omega)
  have E0 : ∀ S : ms, S.1 sh 4 = 0 → ShC S sh 0 (fun _ => (0, fun _ => 0, 0, 0, 0, fun _ => 0)) := fun S h => ⟨h, fun e he => absurd he (by omega)⟩
  have M0 : ∀ S : ms, S.1 367 95 = 0 → ShM S 0 (fun _ => (0, fun _ => 0, 0, 0, 0, fun _ => 0)) := fun S h => ⟨h, fun e he => absurd he (by omega)⟩
  have e2m : ∀ S B : ms, S.1 367 2 = x → MR S B x st0 → B.1 367 2 = x := fun S B h2 hB => by rw [hB.2.2.2 367 2 (by omega) (by omega)]; exact h2
  by_cases c8 : 8 ≤ x
  case neg =>
    refine ⟨0, fun _ => (0, fun _ => 0, 0, 0, 0, fun _ => 0), rdTellAt 1 x st0, rdR_tellAt hr0 (by decide), by omega, fun e he => absurd he (by omega), fun S A _ _ hT _ _ h4 hA => ?_, fun S B _ hK _ _ hT h2 h95 hB => ?_⟩
    · obtain ⟨A1, k1, k2⟩ := sb_tellAt (q := q) (k := 1) (p := x) hr0 ho hA
      refine ⟨S, A1, EX.refl _ S, CR_CW k2, E0 S h4, vc_Shelf_readBench sh hsl ?_⟩
      rw [hA.2.1.1 rfl, wx]
      exact cNo c8 ⟨A1, k1, rfl, rfl⟩
    · obtain ⟨B1, k1, k2⟩ := mb_tellAt (q := q) (k := 1) (p := x) hr0 hB
      refine ⟨S, B1, EY.refl _ S, MR_MWl k2, hK, M0 S h95, vc_MD_readBench ?_⟩
      rw [e2m S B h2 hB, wx]
      exact cNo c8 ⟨B1, k1, rfl, rfl⟩
  -- the mark, class
  have cm : ∀ (S : ms), TC S x t → ∀ (d i : Nat) (A : ms) (s : Rd), i + d = 8 → rdR x s → s = tl (∀ k : Fin 8, k.1 < i → t (k.1 : Int) = sS 8 (k.1 : Int)) 110 0 st0 → CR S A 7 x s → ∃ A1, CR S A1 7 x (tl (∀ k : Fin 8, k.1 < 8 → t (k.1 : Int) = sS 8 (k.1 : Int)) 110 0 st0) ∧ ∀ (r : Option Value) (T : ms), EV q 199 65 [some (.ref sh), some (.ref 9), some (vI 8), some (vI 0)] [] A1 r T → EV q 199 23 [some (.ref sh), some (.ref 9), some (vI i), none] [] A r T := by
    intro S hT d
    induction d with
    | zero =>
      intro i A s hi hr es hA
      have e : i = 8 := by omega
      subst e
      rw [es] at hA
      exact ⟨A, hA, fun r T k => vc_Shelf_readBench_23 _ sh hsl (cY (by decide) k)⟩
    | succ d ih =>
      intro i A s hi hr es hA
      have wi : Unit → w32 ((i : Nat) : Int) = i := fun _ => w32_of (by omega)
      have ei : ((i + 1 : Nat) : Int) = (i : Int) + 1 := by omega
      have hti := hT i (by omega) (by omega)
      have hm := bn_mark i (by omega)
      have e2 : A.1 2 i = t i := by rw [hA.2.2.2 2 i (by omega) (by omega) (by omega)]; exact hti.2
      have wt : w32 (t i) = t i := w32_of (by omega)
      have ws : w32 (sS 8 i) = sS 8 i := w32_of (by omega)
      by_cases c : t i = sS 8 i
      · obtain ⟨A1, k1, k2⟩ := ih (i + 1) A s (by omega) hr (by
          rw [es]
          unfold tl
          by_cases y : ∀ k : Fin 8, k.1 < i → t (k.1 : Int) = sS 8 (k.1 : Int)
          · rw [if_pos y, if_pos (fun k hk => by
              by_cases d' : k.1 = i
              · rw [d']; exact c
              · exact y k (by omega))]
          · rw [if_neg y, if_neg (fun z => y (fun k hk => z k (by omega)))]) hA
        refine ⟨A1, k1, fun r T k => vc_Shelf_readBench_23 _ sh hsl ?_⟩
        have k3 := k2 r T k
        rw [ei] at k3
        rw [wi (), e2, wt, ws]
        exact cNo (by omega) ⟨by omega, by omega, cY c (vc_Shelf_readBench_52 _ sh hsl k3)⟩
      · obtain ⟨A0, g1, g2⟩ := sb_tellAt (q := q) (k := 110) (p := 0) hr ho hA
        have e110 : rdTellAt 110 0 s = tl (∀ k : Fin 8, k.1 < i + 1 → t (k.1 : Int) = sS 8 (k.1 : Int)) 110 0 st0 := by
          rw [tl_n (fun z => c (z ⟨i, by omega⟩ (by show i < i + 1; omega))), es]
          by_cases y : ∀ k : Fin 8, k.1 < i → t (k.1 : Int) = sS 8 (k.1 : Int)
          · rw [tl_y y]
          · rw [tl_n y]
            unfold rdTellAt
            rw [if_neg (show ¬ st0.1 ≠ 0 from fun z => z rfl), if_pos (show ((110 : Int), (0 : Int), st0.2.2).1 ≠ 0 from by decide)]
        obtain ⟨A1, k1, k2⟩ := ih (i + 1) A0 (rdTellAt 110 0 s) (by omega) (rdR_tellAt hr (by decide)) e110 g2
        refine ⟨A1, k1, fun r T k => vc_Shelf_readBench_23 _ sh hsl ?_⟩
        have k3 := k2 r T k
        rw [ei] at k3
        rw [wi (), e2, wt, ws]
        exact cNo (by omega) ⟨by omega, by omega, cNo c ⟨A0, g1, vc_Shelf_readBench_52 _ sh hsl k3⟩⟩
  have hs0 : st0 = tl (∀ k : Fin 8, k.1 < 0 → t (k.1 : Int) = sS 8 (k.1 : Int)) 110 0 st0 := (tl_y (fun k hk => absurd hk (by omega))).symm
  by_cases mk : ∀ k : Fin 8, k.1 < 8 → t (k.1 : Int) = sS 8 (k.1 : Int)
  · obtain ⟨n', E', st', i1, i2, i3, i4, i5⟩ := jbench (q := q) (t := t) hs hx ht 16 0 (fun _ => (0, fun _ => 0, 0, 0, 0, fun _ => 0)) 8 st0 (by omega) (by omega) (fun e he => absurd he (by omega)) hr0 rfl
    refine ⟨n', E', st', i1, i2, i3, fun S A _ _ hT _ _ h4 hA => ?_, fun S B _ hK _ _ hT h2 h95 hB => ?_⟩
    · obtain ⟨A1, k1, k2⟩ := cm S hT 8 0 A st0 (by omega) hr0 hs0 hA
      rw [tl_y mk] at k1
      obtain ⟨S2, A2, k3, k4, k5, k6⟩ := i4 S A1 hT (E0 S h4) k1
      refine ⟨S2, A2, EX.mono k3 (fun a k y => Or.inl y), CR_CW k4, k5, vc_Shelf_readBench sh hsl ?_⟩
      rw [hA.2.1.1 rfl, wx]
      exact cY c8 (k2 _ _ k6)
    · obtain ⟨S1, B1, k1, k2, k3, k4⟩ := i5 S B hT h2 (M0 S h95) hB
      have lp : ∀ (d i : Nat), i + d = 8 → EV q 398 21 [some (.ref 367), some (vI i), none, none, none, none, none, none, none, none, none, none] [] B none B1 := by
        intro d
        induction d with
        | zero =>
          intro i hi
          have e : i = 8 := by omega
          subst e
          exact vc_MD_readBench_21 _ (cY (by decide) k4)
        | succ d ih =>
          intro i hi
          have wi : Unit → w32 ((i : Nat) : Int) = i := fun _ => w32_of (by omega)
          have ei : ((i + 1 : Nat) : Int) = (i : Int) + 1 := by omega
          have hti := hT i (by omega) (by omega)
          have hm := bn_mark i (by omega)
          have e2 : B.1 368 i = b8 (t i) := by rw [hB.2.2.2 368 i (by omega) (by omega)]; exact hti.2
          have c : t i = sS 8 i := mk ⟨i, by omega⟩ (by show i < 8; omega)
          have k5 := ih (i + 1) (by omega)
          rw [ei] at k5
          refine vc_MD_readBench_21 _ ?_
          rw [wi (), e2]
          refine cNo (by omega) ⟨by omega, by omega, cY ?_ k5⟩
          rw [← hm.1, w32_of (x := sS 8 i) (by omega)]
          exact (b8_is hti.1 hm.2).2 c
      refine ⟨S1, B1, EY.mono k1.ey (fun a k y => Or.inl y), MR_MWl k2, TbK_i hK k1, k3, vc_MD_readBench ?_⟩
      rw [e2m S B h2 hB, wx]
      exact cY c8 (lp 8 0 (by omega))
  · have ct : (rdTellAt 110 0 st0).1 ≠ 0 := rdTellAt_1 (by decide)
    have hrt : rdR x (rdTellAt 110 0 st0) := rdR_tellAt hr0 (by decide)
    refine ⟨0, fun _ => (0, fun _ => 0, 0, 0, 0, fun _ => 0), rdTellAt 110 0 st0, hrt, by omega, fun e he => absurd he (by omega), fun S A _ _ hT _ _ h4 hA => ?_, fun S B _ hK _ _ hT h2 h95 hB => ?_⟩
    · obtain ⟨A1, k1, k2⟩ := cm S hT 8 0 A st0 (by omega) hr0 hs0 hA
      rw [tl_n mk] at k1
      refine ⟨S, A1, EX.refl _ S, CR_CW k1, E0 S h4, vc_Shelf_readBench sh hsl ?_⟩
      rw [hA.2.1.1 rfl, wx]
      refine cY c8 (k2 _ _ (vc_Shelf_readBench_65 _ _ sh hsl (cNo (by decide) ?_)))
      rw [k1.2.1.2.1, w32_of (x := (rdTellAt 110 0 st0).1) (by have := hrt.1; omega)]
      exact cY ct ⟨rfl, rfl⟩
    · obtain ⟨B1, k1, k2⟩ := mb_tellAt (q := q) (k := 110) (p := 0) hr0 hB
      have lp : ∀ (d i : Nat), i + d = 8 → (∀ k : Fin 8, k.1 < i → t (k.1 : Int) = sS 8 (k.1 : Int)) → EV q 398 21 [some (.ref 367), some (vI i), none, none, none, none, none, none, none, none, none, none] [] B none B1 := by
        intro d
        induction d with
        | zero =>
          intro i hi hk
          have e : i = 8 := by omega
          subst e
          exact absurd hk mk
        | succ d ih =>
          intro i hi hk
          have wi : Unit → w32 ((i : Nat) : Int) = i := fun _ => w32_of (by omega)
          have ei : ((i + 1 : Nat) : Int) = (i : Int) + 1 := by omega
          have hti := hT i (by omega) (by omega)
          have hm := bn_mark i (by omega)
          have e2 : B.1 368 i = b8 (t i) := by rw [hB.2.2.2 368 i (by omega) (by omega)]; exact hti.2
          refine vc_MD_readBench_21 _ ?_
          rw [wi (), e2, ← hm.1, w32_of (x := sS 8 i) (by omega)]
          by_cases c : t i = sS 8 i
          · have k5 := ih (i + 1) (by omega) (fun k hk' => by
              by_cases d' : k.1 = i
              · rw [d']; exact c
              · exact hk k (by omega))
            rw [ei] at k5
            exact cNo (by omega) ⟨by omega, by omega, cY ((b8_is hti.1 hm.2).2 c) k5⟩
          · exact cNo (by omega) ⟨by omega, by omega, cNo (fun y => c ((b8_is hti.1 hm.2).1 y)) ⟨B1, k1, rfl, rfl⟩⟩
      refine ⟨S, B1, EY.refl _ S, MR_MWl k2, hK, M0 S h95, vc_MD_readBench ?_⟩
      rw [e2m S B h2 hB, wx]
      exact cY c8 (lp 8 0 (by omega) (fun k hk => absurd hk (by omega)))
end ReaC
