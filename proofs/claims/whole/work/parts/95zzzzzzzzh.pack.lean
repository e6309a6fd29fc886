/-! pack, the call whole -/
section PackOk
variable {q : Nat × (Nat → Int32)} {S : ms} {a b d : Int}
/-- what pack leaves for the kept tokens -/
def RKB (S : ms) : Prop := RK S ∧ S.1 367 83 = S.1 0 15
theorem op11_ok (ha : -2147483648 ≤ a ∧ a < 2147483648) (hb : -2147483648 ≤ b ∧ b < 2147483648) (hT : RT S) (hS : RS S) (hq : RQ S) (hK : TbK S) (hI : BlC S) (hR : RKB S) : op_11 q a b d S (fun T => T = wI S 367 0 0 ∨ (PY X11 S T ∧ TbK T ∧ RKB T)) := by
  have ea : w32 a = a := w32_of ha
  have eb : w32 b = b := w32_of hb
  have w1 : w32 1 = 1 := by decide
  have w3 : w32 3 = 3 := by decide
  have w5 : w32 5 = 5 := by decide
  have w10 : w32 10 = 10 := by decide
  have w0 : w32 0 = 0 := by decide
  have w4 : w32 4 = 4 := by decide
  have kin : ∀ (v lo hi : Int) (B : ms), w32 v = v → w32 lo = lo → w32 hi = hi → EV q 257 0 [some (vI v), some (vI lo), some (vI hi)] [] B (some (vI (if lo ≤ v ∧ v ≤ hi then 1 else 0))) B := fun v lo hi B e1 e2 e3 => vc_MD_in _ _ _ (by
    rw [e1, e2, e3]
    by_cases c : lo ≤ v ∧ v ≤ hi
    · rw [if_pos c]
      exact cNo (by omega) (cNo (by omega) ⟨rfl, rfl⟩)
    · rw [if_neg c]
      by_cases c1 : v < lo
      · exact cY c1 ⟨rfl, rfl⟩
      · exact cNo c1 (cY (by omega) ⟨rfl, rfl⟩))
  obtain ⟨lv, elv⟩ : ∃ lv : Int, lv = if 3 ≤ a ∧ a ≤ 5 then 1 else 0 := ⟨_, rfl⟩
  have lv01 : lv = 0 ∨ lv = 1 := by rw [elv]; split <;> omega
  have wlv : w32 lv = lv := w32_of (by omega)
  -- from the heads
  have chead : ∀ (r : Option Value) (S' : ms), EV q 42 15 [some (.ref 0), some (vI a), some (vI b), none, none, none, none, none] [vI lv] S r S' → EV q 42 0 [some (.ref 0), some (vI a), some (vI b), none, none, none, none, none] [] S r S' := fun r S' k => by
    refine vc_PH_pack _ _ ?_
    rw [ea]
    by_cases c : 3 ≤ a ∧ a ≤ 5
    · rw [elv, if_pos c] at k
      exact cNo (by omega) (cNo (by omega) k)
    · rw [elv, if_neg c] at k
      by_cases c1 : a < 3
      · exact cY c1 (vc_PH_pack_14 _ _ k)
      · exact cNo c1 (cY (by omega) (vc_PH_pack_14 _ _ k))
  have mlv : ∀ B : ms, EV q 257 0 [some (vI a), some (vI 3), some (vI 5)] [] B (some (vI lv)) B := fun B => by
    have := kin a 3 5 B ea w3 w5
    rw [← elv] at this
    exact this
  by_cases ca : 1 ≤ a ∧ a ≤ 10
  case neg =>
    refine ⟨-2, S, -2, wI S 367 0 0, chead _ _ (vc_PH_pack_15 _ _ _ ?_), vc_MD_pack _ _ (fun S1 e => ?_), rfl, Or.inl rfl⟩
    · rw [ea]
      by_cases c : a < 1
      · exact cY c ⟨rfl, rfl⟩
      · exact cNo c (cY (by omega) ⟨rfl, rfl⟩)
    · subst e
      have k2 := kin a 1 10 (wI S 367 0 0) ea w1 w10
      rw [if_neg ca] at k2
      exact ⟨lv, _, mlv _, 0, _, k2, cY (by decide) ⟨rfl, rfl⟩⟩
  have kin10 : ∀ B : ms, EV q 257 0 [some (vI a), some (vI 1), some (vI 10)] [] B (some (vI 1)) B := fun B => by
    have k2 := kin a 1 10 B ea w1 w10
    rw [if_pos ca] at k2
    exact k2
  obtain ⟨tp, etp⟩ : ∃ tp : Int, tp = if 3 ≤ a ∧ a ≤ 5 then 4 else 0 := ⟨_, rfl⟩
  have tpr : (lv = 0 ∧ tp = 0 ∧ ¬ (3 ≤ a ∧ a ≤ 5)) ∨ (lv = 1 ∧ tp = 4 ∧ (3 ≤ a ∧ a ≤ 5)) := by
    rw [elv, etp]
    by_cases c : 3 ≤ a ∧ a ≤ 5
    · rw [if_pos c, if_pos c]; exact Or.inr ⟨rfl, rfl, c⟩
    · rw [if_neg c, if_neg c]; exact Or.inl ⟨rfl, rfl, c⟩
  have wtp : w32 tp = tp := w32_of (by omega)
  have mhead : ∀ (r : Option Value) (S' B : ms), EV q 276 33 [some (.ref 367), some (vI a), some (vI b), some (vI lv), none] [vI tp, vI 0, vI b] (wI B 367 0 0) r S' → EV q 276 0 [some (.ref 367), some (vI a), some (vI b), none, none] [] B r S' := fun r S' B k => by
    refine vc_MD_pack _ _ (fun S1 e => ?_)
    subst e
    refine ⟨lv, _, mlv _, 1, _, kin10 _, cNo (by decide) ?_⟩
    rw [wlv]
    rcases tpr with ⟨y1, y2, -⟩ | ⟨y1, y2, -⟩
    · rw [y2] at k
      exact cY y1 k
    · rw [y2] at k
      exact cNo (by omega) k
  have k41 : ∀ (r : Option Value) (S' : ms), 0 ≤ b → EV q 42 41 [some (.ref 0), some (vI a), some (vI b), some (vI lv), none, none, none, none] [vI tp, vI b] S r S' → EV q 42 15 [some (.ref 0), some (vI a), some (vI b), none, none, none, none, none] [vI lv] S r S' := fun r S' b0 k => by
    refine vc_PH_pack_15 _ _ _ ?_
    rw [ea, eb, wlv]
    refine cNo (by omega) (cNo (by omega) (cNo (by omega) ?_))
    rcases tpr with ⟨y1, y2, -⟩ | ⟨y1, y2, -⟩
    · rw [y2] at k
      exact cY y1 k
    · rw [y2] at k
      exact cNo (by omega) k
  have kbt : ∀ B : ms, EV q 257 0 [some (vI b), some (vI 0), some (vI tp)] [] B (some (vI (if 0 ≤ b ∧ b ≤ tp then 1 else 0))) B := fun B => kin b 0 tp B eb w0 wtp
  by_cases cb : 0 ≤ b ∧ b ≤ tp
  case neg =>
    refine ⟨-2, S, -2, wI S 367 0 0, chead _ _ ?_, mhead _ _ _ (vc_MD_pack_33 _ _ _ _ _ _ ?_), rfl, Or.inl rfl⟩
    · by_cases c : b < 0
      · refine vc_PH_pack_15 _ _ _ ?_
        rw [ea, eb]
        exact cNo (by omega) (cNo (by omega) (cY c ⟨rfl, rfl⟩))
      · refine k41 _ _ (by omega) (vc_PH_pack_41 _ _ _ _ _ ?_)
        rw [eb, wtp]
        exact cNo (by omega) ⟨rfl, rfl⟩
    · have k2 := kbt (wI S 367 0 0)
      rw [if_neg cb] at k2
      exact ⟨0, _, k2, cNN (by decide) ⟨rfl, rfl⟩⟩
  have kb1 : ∀ B : ms, EV q 257 0 [some (vI b), some (vI 0), some (vI tp)] [] B (some (vI 1)) B := fun B => by
    have k2 := kbt B
    rw [if_pos cb] at k2
    exact k2
  obtain ⟨f, hF⟩ := fr_ex hS
  have kfree := ph_free (q := q) hF
  by_cases cf : f ≤ 12
  case neg =>
    rw [if_neg cf] at kfree
    have kf2 := md_free (q := q) (T := wI S 367 0 0) hF (fun k k1 k2 => by rw [r0a _ _ (by decide)]; exact (hS k k1 k2).2.1)
    rw [if_neg cf] at kf2
    refine ⟨-4, S, -4, wI S 367 0 0, chead _ _ (k41 _ _ cb.1 (vc_PH_pack_41 _ _ _ _ _ ?_)), mhead _ _ _ (vc_MD_pack_33 _ _ _ _ _ _ ⟨1, _, kb1 _, cY (by decide) ⟨-4, _, kf2, cNo (by decide) ⟨rfl, rfl⟩⟩⟩), rfl, Or.inl rfl⟩
    rw [eb, wtp]
    exact cY cb.2 ⟨0, S, kfree, cNN (by decide) ⟨rfl, rfl⟩⟩
  rw [if_pos cf] at kfree
  obtain ⟨f1, f2, f3⟩ := id hF
  have rg := sR_rg f1.1 cf
  obtain ⟨s1, s2⟩ := st_is f1.1 cf
  have wf : w32 f = f := w32_of (by omega)
  obtain ⟨t1, t2, t3⟩ := id hT
  obtain ⟨x, ex⟩ : ∃ x, x = S.1 1 1 := ⟨_, rfl⟩
  obtain ⟨t, et⟩ : ∃ t : Int → Int, ∀ k, t k = S.1 2 k := ⟨_, fun _ => rfl⟩
  rw [← ex] at t1 t2 t3
  have ht : ∀ k : Int, 0 ≤ k → k < x → 0 ≤ t k ∧ t k < 256 := fun k k0 k1 => by rw [et]; exact (t3 k k0 k1).1
  obtain ⟨w, T, K, bits, ⟨⟨hw1, hw2⟩, hK1, hK2, hbt⟩, jc, jm⟩ := jp_all (q := q) t1 ht (kd := a) (lv := b) ca ⟨cb.1, fun y => by omega, fun y => by omega⟩
  have ww : w32 w.1 = w.1 := w32_of (by omega)
  -- the class
  obtain ⟨A0, eA0⟩ : ∃ A0, A0 = CL S (sR f) := ⟨_, rfl⟩
  have kcl := sp_clear (q := q) (S := S) s2
  rw [← eA0] at kcl
  obtain ⟨A1, eA1⟩ : ∃ A1, A1 = wI A0 10 8 0 := ⟨_, rfl⟩
  have at1 : ∀ (c : Nat) (k : Int), c ≠ sR f → ¬ (c = 10 ∧ k = 8) → A1.1 c k = S.1 c k := fun c k y1 y2 => by rw [eA1, wI_no _ y2, eA0, CL_n _ y1]
  have kfg : EV q 44 0 [some (.ref 10)] [] A0 none A1 := vc_Finder_forgetTokens (fun S1 q1 => ⟨rfl, by rw [q1, eA1]⟩)
  have cl1 : ∀ k : Int, A1.1 (sR f) k = if k = 3 then 0 else if k = 2 then 0 else if k = 1 then 0 else S.1 (sR f) k := fun k => by
    rw [eA1, wI_no _ (by omega), eA0, CL_at]
    by_cases c3 : k = 3
    · rw [if_pos ⟨rfl, c3⟩, if_pos c3]
    · rw [if_neg (fun y => c3 y.2), if_neg c3]
      by_cases c2 : k = 2
      · rw [if_pos ⟨rfl, c2⟩, if_pos c2]
      · rw [if_neg (fun y => c2 y.2), if_neg c2]
        by_cases c1 : k = 1
        · rw [if_pos ⟨rfl, c1⟩, if_pos c1]
        · rw [if_neg (fun y => c1 y.2), if_neg c1]
  have hc1 : CBt A1 (sR f) 12000 (w00, 0) := by
    refine ⟨⟨fun _ => ⟨?_, ?_, fun k k0 k1 => absurd k1 (by show ¬ k < 0; omega)⟩, fun y => absurd y (by show ¬ ((12000 : Nat) : Int) < 0; decide)⟩, ?_⟩
    · rw [cl1, if_neg (by decide), if_neg (by decide), if_pos rfl]; rfl
    · rw [cl1, if_neg (by decide), if_pos rfl]
    · rw [cl1, if_pos rfl]; rfl
  obtain ⟨A2, o, z, kz, k2, k3, k4, k5⟩ := jc A1 (sR f) s2 (by omega) (BlC_e hI (fun c k y => at1 c k (by omega) (by omega))) ⟨by rw [at1 _ _ (by omega) (by omega), ex], fun k k0 k1 => ⟨ht k k0 k1, by rw [at1 _ _ (by omega) (by omega), et]⟩⟩ hc1 (by rw [eA1, wI_at])
  have at2 : ∀ (c : Nat) (k : Int), ¬ XPa (sR f) c k → c ≠ sR f → ¬ (c = 10 ∧ k = 8) → A2.1 c k = S.1 c k := fun c k y1 y2 y3 => by rw [k2.2 c k y1]; exact at1 c k y2 y3
  have e22 : A2.2.2 = (wR S 10 2 o).2.2 := by
    rw [k2.1, eA1, eA0]
    rfl
  have kst := cw_settle (q := q) (f := f) f1.1 cf k3
  -- the class's end
  obtain ⟨C, cEV, cX, cH, c22, cN, cO⟩ : ∃ C : ms, EV q 42 0 [some (.ref 0), some (vI a), some (vI b), none, none, none, none, none] [] S (some (vI (if w.1 ≤ 12000 then f else -4))) C ∧ (∀ (c : Nat) (k : Int), ¬ X11 c k → c ≠ sR f → c ≠ sR f + 1 → ¬ (c = 4 ∧ k = f) → C.1 c k = S.1 c k) ∧ (∀ (c : Nat) (k : Int), 366 < c → C.1 c k = S.1 c k) ∧ C.2.2 = (wR S 10 2 o).2.2 ∧ (w.1 ≤ 12000 → (C.1 4 f = 1 ∧ C.1 (sR f) 1 = w.1 ∧ ∀ k : Int, 0 ≤ k → k < w.1 → C.1 (sR f + 1) k = w.2 k) ∧ C.1 0 15 = bits ∧ C.1 10 12 = K ∧ ∀ k : Int, 0 ≤ k → k < K → C.1 16 k = (T k).1 ∧ C.1 17 k = (T k).2.1 ∧ C.1 18 k = (T k).2.2) ∧ (¬ w.1 ≤ 12000 → ∀ (c : Nat) (k : Int), (c = 4 ∧ k = f) ∨ (c = 0 ∧ k = 15) ∨ (c = 10 ∧ k = 12) ∨ c = 16 ∨ c = 17 ∨ c = 18 → C.1 c k = S.1 c k) := by
    have head : ∀ C : ms, ((w32 (if w.1 ≤ 12000 then f else -4) ≤ 0 → (some (vI (if w.1 ≤ 12000 then f else -4)) : Option Value) = some (vI (if w.1 ≤ 12000 then f else -4)) ∧ C = CE2 A2 w f) ∧ (¬ w32 (if w.1 ≤ 12000 then f else -4) ≤ 0 → ∀ S18 : ms, S18 = wI (CE2 A2 w f) 0 15 z → ∃ (S19 : ms), EV q 113 0 [some (.ref 10)] [] S18 none S19 ∧ (some (vI (if w.1 ≤ 12000 then f else -4)) : Option Value) = some (vI (if w.1 ≤ 12000 then f else -4)) ∧ C = S19)) → EV q 42 0 [some (.ref 0), some (vI a), some (vI b), none, none, none, none, none] [] S (some (vI (if w.1 ≤ 12000 then f else -4))) C := fun C hh => by
      refine chead _ _ (k41 _ _ cb.1 (vc_PH_pack_41 _ _ _ _ _ ?_))
      rw [eb, wtp]
      refine cY cb.2 ⟨f, S, kfree, ?_⟩
      rw [wf]
      exact cY (by omega) ⟨by omega, sR f, 12000, s1, s2, A0, kcl, A1, kfg, z, A2, k5, _, CE2 A2 w f, kst, hh⟩
    by_cases c : w.1 ≤ 12000
    · have eC : CE2 A2 w f = wI A2 4 f 1 := by unfold CE2; rw [if_pos c]
      rw [eC] at head
      rw [if_pos c] at head ⊢
      obtain ⟨D, eD⟩ : ∃ D, D = wI (wI A2 4 f 1) 0 15 z := ⟨_, rfl⟩
      have atD : ∀ (c : Nat) (k : Int), ¬ (c = 4 ∧ k = f) → ¬ (c = 0 ∧ k = 15) → D.1 c k = A2.1 c k := fun c k y1 y2 => by rw [eD, wI_no _ y2, wI_no _ y1]
      obtain ⟨F, g1, g2, g3⟩ := cl_keep (q := q) (A := D) (T := T) (K := K) hK1 (CTk_e k4 (fun c k y => by unfold XTc at y; exact atD c k (by omega) (by omega)))
      obtain ⟨h1, h2, h3⟩ := k3.1 c
      refine ⟨F, head F ⟨fun y => absurd y (by rw [wf]; omega), fun _ S18 q18 => ⟨F, by rw [q18, ← eD]; exact g3, rfl, rfl⟩⟩, fun c k y1 y2 y3 y4 => ?_, fun c k y => by rw [g1.2 c k (by omega), atD c k (by omega) (by omega), at2 c k (by unfold XPa XRb; omega) (by omega) (by omega)], ?_, fun _ => ⟨⟨?_, ?_, fun k k0 k1 => ?_⟩, ?_, g2.1, g2.2⟩, fun y => absurd c y⟩
      · unfold X11 at y1
        rw [g1.2 c k (by omega), atD c k y4 (by omega), at2 c k (by unfold XPa XRb; omega) y2 (by omega)]
      · rw [g1.1, eD]
        exact e22
      · rw [g1.2 4 f (by omega), eD, wI_no _ (by omega), wI_at]
      · rw [g1.2 _ _ (by omega), atD _ _ (by omega) (by omega)]; exact h1
      · rw [g1.2 _ _ (by omega), atD _ _ (by omega) (by omega)]; exact h3 k k0 k1
      · rw [g1.2 0 15 (by omega), eD, wI_at]; exact kz c
    · have eC : CE2 A2 w f = A2 := by unfold CE2; rw [if_neg c]
      rw [eC] at head
      rw [if_neg c] at head ⊢
      refine ⟨A2, head A2 ⟨fun _ => ⟨rfl, rfl⟩, fun y => absurd (by decide) y⟩, fun c k y1 y2 y3 y4 => ?_, fun c k y => at2 c k (by unfold XPa XRb; omega) (by omega) (by omega), e22, fun y => absurd y c, fun _ c k y => at2 c k (by unfold XPa XRb; omega) (by omega) (by omega)⟩
      unfold X11 at y1
      exact at2 c k (by unfold XPa XRb; omega) y2 (by omega)
  -- the reference
  obtain ⟨B0, eB0⟩ : ∃ B0, B0 = wI C 367 0 0 := ⟨_, rfl⟩
  have atB0 : ∀ (c : Nat) (k : Int), ¬ (c = 367 ∧ k = 0) → B0.1 c k = C.1 c k := fun c k y => by rw [eB0, wI_no _ y]
  have hB371 : ∀ k : Int, 1 ≤ k → k ≤ 12 → B0.1 371 k = S.1 4 k := fun k k1 k2 => by
    rw [atB0 _ _ (by omega), cH _ _ (by omega)]
    exact (hS k k1 k2).2.1
  have kf2 := md_free (q := q) (T := B0) hF hB371
  rw [if_pos cf] at kf2
  obtain ⟨B1, eB1⟩ : ∃ B1, B1 = wI (wI (wI B0 367 9 0) 367 10 0) 367 11 0 := ⟨_, rfl⟩
  have kbg : EV q 278 0 [some (.ref 367), some (vI 0)] [] B0 none B1 := vc_MD_begin _ (fun S1 g1 S2 g2 => ⟨Or.inl rfl, fun S4 g4 => ⟨rfl, by subst g1 g2 g4; exact eB1⟩⟩)
  have atB1 : ∀ (c : Nat) (k : Int), ¬ (c = 367 ∧ (k = 0 ∨ (9 ≤ k ∧ k ≤ 11))) → B1.1 c k = C.1 c k := fun c k n => by
    rw [eB1, rI_I, if_neg (by omega), rI_I, if_neg (by omega), rI_I, if_neg (by omega), atB0 c k (by omega)]
  have e1h : ∀ (c : Nat) (k : Int), 366 < c → ¬ (c = 367 ∧ (k = 0 ∨ (9 ≤ k ∧ k ≤ 11))) → B1.1 c k = S.1 c k := fun c k y n => by rw [atB1 c k n, cH c k y]
  have hQ1 : RQ B1 := ⟨fun s hs => by rw [e1h _ _ (by omega) (by omega)]; exact hq.1 s hs, fun s hs => by rw [e1h _ _ (by omega) (by omega)]; exact hq.2 s hs⟩
  have hK1' : TbK B1 := by
    unfold TbK TbM at hK ⊢
    rw [e1h 392 28 (by omega) (by omega), e1h 367 45 (by omega) (by omega)]
    refine ⟨hK.1, hK.2.imp id (fun y => ⟨y.1, fun s h1 h2 => ?_, fun s h1 h2 => ?_⟩)⟩
    · rw [e1h 391 s (by omega) (by omega), e1h 392 s (by omega) (by omega)]; exact y.2.1 s h1 h2
    · rw [e1h 393 s (by omega) (by omega), e1h 394 s (by omega) (by omega)]; exact y.2.2 s h1 h2
  have hX1 : TXm B1 x t := ⟨by rw [e1h 367 2 (by omega) (by omega), t2], fun k k0 k1 => ⟨ht k k0 k1, by rw [e1h 368 k (by omega) (by omega), et]; exact (t3 k k0 k1).2⟩⟩
  have hM1 : MBt B1 0 (w00, 0) := ⟨⟨by rw [eB1, rI_I, if_neg (by decide), rI_I, if_neg (by decide), rI_I, if_pos ⟨rfl, rfl⟩]; rfl, fun k k0 k1 _ => absurd k1 (by show ¬ k < 0; omega)⟩, by rw [eB1, rI_I, if_neg (by decide), rI_I, if_pos ⟨rfl, rfl⟩]; rfl, by rw [eB1, rI_I, if_pos ⟨rfl, rfl⟩]⟩
  obtain ⟨B2, j1, j2, j3, j4, j5, j6⟩ := jm B1 hQ1 hK1' hX1 hM1
  have e22B : B2.2.2 = (wR S 10 2 o).2.2 := by rw [j1.1, eB1, eB0]; exact c22
  have lo2 : ∀ (c : Nat) (k : Int), c < 367 → B2.1 c k = C.1 c k := fun c k y => by rw [j1.2 c k (by unfold XPb; omega), atB1 c k (by omega)]
  have hi2 : ∀ (c : Nat) (k : Int), 366 < c → ¬ XPb c k → ¬ (c = 367 ∧ k = 0) → B2.1 c k = S.1 c k := fun c k y n n0 => by
    rw [j1.2 c k n, e1h c k y (by unfold XPb at n; omega)]
  by_cases c : w.1 ≤ 12000
  case neg =>
    rw [if_neg c] at cEV
    have cO' := cO c
    have all2 : ∀ (c : Nat) (k : Int), ¬ X11 c k → c ≠ sR f → c ≠ sR f + 1 → B2.1 c k = S.1 c k := fun c' k y1 y2 y3 => by
      by_cases l : c' < 367
      · rw [lo2 c' k l]
        by_cases e : c' = 4 ∧ k = f
        · exact cO' c' k (Or.inl e)
        · exact cX c' k y1 y2 y3 e
      · exact hi2 c' k (by omega) (fun z => y1 (by unfold XPb at z; unfold X11 XPb; omega)) (fun z => y1 (by unfold X11; omega))
    refine ⟨-4, C, -4, B2, cEV, mhead _ _ _ (vc_MD_pack_33 _ _ _ _ _ _ ⟨1, B0, by rw [← eB0]; exact kb1 _, cY (by decide) ⟨f, B0, kf2, ?_⟩⟩), rfl, Or.inr ⟨⟨f, o, ⟨hF, cf⟩, Or.inl ⟨e22B, fun c k y => ?_⟩⟩, j2, ?_⟩⟩
    · rw [wf]
      refine cY (by omega) ⟨B1, kbg, B2, j6, ?_⟩
      rw [j3.1, ww]
      exact cNo c ⟨rfl, rfl⟩
    · exact all2 c k (fun z => y (Or.inl z)) (fun z => y (Or.inr (Or.inl z))) (fun z => y (Or.inr (Or.inr z)))
    · have k0 : ∀ (c : Nat) (k : Int), (c = 0 ∧ k = 15) ∨ (c = 10 ∧ k = 12) ∨ c = 16 ∨ c = 17 ∨ c = 18 → B2.1 c k = S.1 c k := fun c' k y => by rw [lo2 c' k (by omega)]; exact cO' c' k (Or.inr y)
      have k1 : ∀ (c : Nat) (k : Int), (c = 367 ∧ (k = 83 ∨ k = 84)) ∨ (416 ≤ c ∧ c ≤ 418) → B2.1 c k = S.1 c k := fun c' k y => hi2 c' k (by omega) (by unfold XPb; omega) (by omega)
      obtain ⟨⟨r1, r2, r3⟩, r4⟩ := hR
      refine ⟨⟨by rw [k0 10 12 (by omega)]; exact r1, by rw [k1 367 84 (by omega), k0 10 12 (by omega)]; exact r2, fun k h0 h1 => ?_⟩, by rw [k1 367 83 (by omega), k0 0 15 (by omega)]; exact r4⟩
      rw [k0 10 12 (by omega)] at h1
      rw [k1 416 k (by omega), k1 417 k (by omega), k1 418 k (by omega), k0 16 k (by omega), k0 17 k (by omega), k0 18 k (by omega)]
      exact r3 k h0 h1
  rw [if_pos c] at cEV
  obtain ⟨n4, n15, n12, nT⟩ := cN c
  obtain ⟨y0, ey1, ey0⟩ : ∃ y0 : Int, (tkK a b → y0 = a) ∧ (¬ tkK a b → y0 = 0) := by
    by_cases e : tkK a b
    · exact ⟨a, fun _ => rfl, fun y => absurd e y⟩
    · exact ⟨0, fun y => absurd y e, fun _ => rfl⟩
  have y0r : (tkK a b ∧ y0 = a) ∨ (¬ tkK a b ∧ y0 = 0 ∧ K = 0) := by
    by_cases e : tkK a b
    · exact Or.inl ⟨e, ey1 e⟩
    · exact Or.inr ⟨e, ey0 e, hK2 e⟩
  obtain ⟨B3, e3⟩ : ∃ B3, B3 = wI B2 367 82 y0 := ⟨_, rfl⟩
  obtain ⟨B4, e4⟩ : ∃ B4, B4 = wI B3 367 83 bits := ⟨_, rfl⟩
  obtain ⟨B5, e5⟩ : ∃ B5, B5 = wI B4 367 84 K := ⟨_, rfl⟩
  have at5 : ∀ (c : Nat) (k : Int), ¬ (c = 367 ∧ 82 ≤ k ∧ k ≤ 84) → B5.1 c k = B2.1 c k := fun c k y => by rw [e5, wI_no _ (by omega), e4, wI_no _ (by omega), e3, wI_no _ (by omega)]
  have eK : ((K.toNat : Nat) : Int) = K := by omega
  obtain ⟨B6, p1, p2, p3⟩ := md_keep (q := q) (x1 := a) (x2 := b) (x3 := lv) (K := K.toNat) (by omega) K.toNat 0 B5 (by omega) (by rw [e5, wI_at, eK]) (fun k k0 k1 => absurd k1 (by omega))
  have at6 : ∀ (c : Nat) (k : Int), ¬ (c = 367 ∧ 82 ≤ k ∧ k ≤ 84) → ¬ (416 ≤ c ∧ c ≤ 418) → B6.1 c k = B2.1 c k := fun c k y z => by rw [p1.2 c k z, at5 c k y]
  have mw6 : MWt B6 w := MWt_cg j3 (fun c k y => by unfold XW at y; exact at6 c k (by omega) (by omega))
  have lo6 : ∀ (c : Nat) (k : Int), c < 367 → B6.1 c k = C.1 c k := fun c k y => by rw [at6 c k (by omega) (by omega), lo2 c k y]
  have e22' : B6.2.2 = (wR S 10 2 o).2.2 := by rw [p1.1, e5, e4, e3]; exact e22B
  obtain ⟨T', k328, hPY, far⟩ := md_newY (q := q) (X := X11) (S := S) (B := B6) (f := f) (o := o) (w := w) (fun c k y => by unfold X11 XPb at y; omega) hS hF cf ⟨hw1.1, hw2⟩ c mw6 ⟨by rw [lo6 _ _ (by omega)]; exact n4.1, by rw [lo6 _ _ (by omega)]; exact n4.2.1, fun k k0 k1 => by rw [lo6 _ _ (by omega)]; exact n4.2.2 k k0 k1⟩ e22' (fun c' k y1 y2 y3 y4 => by
    by_cases l : c' < 367
    · rw [lo6 c' k l]; exact cX c' k y1 y2 y3 y4
    · have y1' := y1
      unfold X11 at y1'
      rw [at6 c' k (by omega) (by omega)]
      exact hi2 c' k (by omega) (fun z => y1 (by unfold XPb at z; unfold X11 XPb; omega)) (by omega))
  have k142 : EV q 276 142 [some (.ref 367), some (vI a), some (vI b), some (vI lv), some (vI 0)] [] B5 (some (vI f)) T' := by
    refine p3 _ _ (vc_MD_pack_142 _ _ _ _ ?_)
    rw [p1.2 367 84 (by omega), e5, wI_at, eK, mw6.1]
    exact cY (Int.le_refl _) ⟨f, T', k328, rfl, rfl⟩
  have wy : w32 y0 = y0 := w32_of (by omega)
  have k117 : EV q 276 117 [some (.ref 367), some (vI a), some (vI b), some (vI lv), none] [vI bits, .ref 367] B3 (some (vI f)) T' := by
    refine vc_MD_pack_117 _ _ _ _ (fun S1 q1 => ?_)
    rw [← e4] at q1
    have g82 : S1.1 367 82 = y0 := by rw [q1, e4, wI_no _ (by omega), e3, wI_at]
    rw [g82, wy, q1]
    rcases y0r with ⟨h1, h2⟩ | ⟨h1, h2, h3⟩
    · have g29 : B4.1 367 29 = K := by rw [e4, wI_no _ (by omega), e3, wI_no _ (by omega)]; exact (j4 h1).1
      rw [g29]
      exact cNo (by omega) (vc_MD_pack_136 _ _ _ _ (fun S1 q1 => by rw [q1, ← e5]; exact k142))
    · rw [h3] at e5
      exact cY (by omega) (vc_MD_pack_136 _ _ _ _ (fun S1 q1 => by rw [q1, ← e5]; exact k142))
  have k101 : EV q 276 101 [some (.ref 367), some (vI a), some (vI b), some (vI lv), none] [vI y0, .ref 367] B2 (some (vI f)) T' := by
    refine vc_MD_pack_101 _ _ _ _ (fun S1 q1 => ?_)
    rw [← e3] at q1
    rw [q1, wlv]
    rcases tpr with ⟨h1, h2, h3⟩ | ⟨h1, h2, h3⟩
    · rw [hbt h3] at k117
      exact cY h1 k117
    · have g56 : B3.1 367 56 = bits := by rw [e3, wI_no _ (by omega)]; exact j5 h3
      rw [g56]
      exact cNo (by omega) k117
  have k85 : (¬ (6 ≤ a ∧ a ≤ 8) → y0 = 0) → (6 ≤ a ∧ a ≤ 8 → y0 = a) → EV q 276 85 [some (.ref 367), some (vI a), some (vI b), some (vI lv), none] [.ref 367] B2 (some (vI f)) T' := fun h1 h2 => by
    refine vc_MD_pack_85 _ _ _ ⟨_, B2, kin a 6 8 B2 ea (by decide) (by decide), ?_⟩
    by_cases c8 : 6 ≤ a ∧ a ≤ 8
    · rw [if_pos c8]
      rw [h2 c8] at k101
      exact cNo (by decide) (vc_MD_pack_96 _ _ _ k101)
    · rw [if_neg c8]
      rw [h1 c8] at k101
      exact cY (by decide) k101
  refine ⟨f, C, f, T', cEV, mhead _ _ _ (vc_MD_pack_33 _ _ _ _ _ _ ⟨1, B0, by rw [← eB0]; exact kb1 _, cY (by decide) ⟨f, B0, kf2, ?_⟩⟩), rfl, Or.inr ⟨hPY, ?_, ⟨⟨?_, ?_, fun k h0 h1 => ?_⟩, ?_⟩⟩⟩
  · rw [wf]
    refine cY (by omega) ⟨B1, kbg, B2, j6, ?_⟩
    rw [j3.1, ww, wlv, eb]
    refine cY c ?_
    rcases tpr with ⟨h1, h2, h3⟩ | ⟨h1, h2, h3⟩
    · exact cY h1 (k85 (fun y => ey0 (by unfold tkK; omega)) (fun y => ey1 (by unfold tkK; omega)))
    · refine cNo (by omega) ?_
      by_cases c0 : 0 < b
      · rw [ey1 (by unfold tkK; omega)] at k101
        exact cY c0 (vc_MD_pack_96 _ _ _ k101)
      · exact cNo c0 (k85 (fun y => ey0 (by unfold tkK; omega)) (fun y => absurd y (by omega)))
  · have fT : ∀ (c : Nat) (k : Int), (391 ≤ c ∧ c ≤ 394) ∨ (c = 367 ∧ k = 45) → T'.1 c k = B2.1 c k := fun c k y => by rw [far c k (by omega) (by omega) (by omega), at6 c k (by omega) (by omega)]
    unfold TbK TbM at j2 ⊢
    rw [fT 392 28 (by omega), fT 367 45 (by omega)]
    refine ⟨j2.1, j2.2.imp id (fun y => ⟨y.1, fun s h1 h2 => ?_, fun s h1 h2 => ?_⟩)⟩
    · rw [fT 391 s (by omega), fT 392 s (by omega)]; exact y.2.1 s h1 h2
    · rw [fT 393 s (by omega), fT 394 s (by omega)]; exact y.2.2 s h1 h2
  · rw [far _ _ (by decide) (by decide) (by decide), lo6 _ _ (by decide), n12]; exact hK1
  · rw [far _ _ (by decide) (by decide) (by decide), far _ _ (by decide) (by decide) (by decide), p1.2 367 84 (by omega), e5, wI_at, lo6 _ _ (by decide), n12]
  · rw [far _ _ (by decide) (by decide) (by decide), lo6 _ _ (by decide), n12] at h1
    have nk := nT k h0 h1
    rcases y0r with ⟨h3, h4⟩ | ⟨-, -, h5⟩
    · have mt := (j4 h3).2 k h0 h1
      have pk := p2 k h0 (by omega)
      rw [at5 380 k (by omega), at5 381 k (by omega), at5 382 k (by omega)] at pk
      rw [far _ _ (by decide) (by decide) (by decide), far _ _ (by decide) (by decide) (by decide), far _ _ (by decide) (by decide) (by decide), far _ _ (by decide) (by decide) (by decide), far _ _ (by decide) (by decide) (by decide), far _ _ (by decide) (by decide) (by decide), lo6 16 k (by decide), lo6 17 k (by decide), lo6 18 k (by decide), pk.1, pk.2.1, pk.2.2, nk.1, nk.2.1, nk.2.2]
      exact mt
    · omega
  · rw [far _ _ (by decide) (by decide) (by decide), far _ _ (by decide) (by decide) (by decide), p1.2 367 83 (by omega), e5, wI_no _ (by omega), e4, wI_at, lo6 _ _ (by decide), n15]
end PackOk
