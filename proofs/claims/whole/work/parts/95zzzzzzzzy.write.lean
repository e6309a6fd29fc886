/-! write, the call whole -/
section WrQ
variable {q : Nat × (Nat → Int32)} {S : ms} {a b d : Int}
def X18 (sh a : Nat) (k : Int) : Prop := (a = 10 ∧ (k = 3 ∨ k = 4 ∨ k = 8)) ∨ a = 7 ∨ a = 8 ∨ (11 ≤ a ∧ a ≤ 15) ∨ (19 ≤ a ∧ a ≤ 28) ∨ a = 30 ∨ (53 ≤ a ∧ a ≤ 91) ∨ (94 ≤ a ∧ a ≤ 172) ∨ (sh + 7 ≤ a ∧ a ≤ sh + 10) ∨ (a = 367 ∧ k = 0) ∨ Xwm8 a k
def P18 (S : ms) (sh : Nat) (T : ms) : Prop := PY (X18 sh) S T ∧ TbK T ∧ T.1 367 2 = S.1 367 2 ∧ ∀ k : Int, 0 ≤ k → k < S.1 367 2 → T.1 368 k = S.1 368 k
theorem op18_ok {sh : Nat} (ha : -2147483648 ≤ a ∧ a < 2147483648) (hb : -2147483648 ≤ b ∧ b < 2147483648) (hT : RT S) (hS : RS S) (hq : RQ S) (hK : TbK S) (hI : BlC S) (hE : RE S sh) (hM : RM S sh) (hB : BOk (hp S)) : op_18 q a b d S (fun T => T = wI S 367 0 0 ∨ P18 S sh T) := by
  have ea : w32 a = a := w32_of ha
  have eb : w32 b = b := w32_of hb
  have kin : ∀ (v lo hi : Int) (B : ms), w32 v = v → w32 lo = lo → w32 hi = hi → EV q 257 0 [some (vI v), some (vI lo), some (vI hi)] [] B (some (vI (if lo ≤ v ∧ v ≤ hi then 1 else 0))) B := fun v lo hi B e1 e2 e3 => vc_MD_in _ _ _ (by
    rw [e1, e2, e3]
    by_cases c : lo ≤ v ∧ v ≤ hi
    · rw [if_pos c]
      exact cNo (by omega) (cNo (by omega) ⟨rfl, rfl⟩)
    · rw [if_neg c]
      by_cases c1 : v < lo
      · exact cY c1 ⟨rfl, rfl⟩
      · exact cNo c1 (cY (by omega) ⟨rfl, rfl⟩))
  by_cases ca : 11 ≤ a ∧ a ≤ 13
  case neg =>
    refine ⟨-2, S, -2, wI S 367 0 0, vc_PH_write _ _ ?_, vc_MD_write _ _ (fun S1 e => ?_), rfl, Or.inl rfl⟩
    · rw [ea]
      by_cases c : a < 11
      · exact cY c ⟨rfl, rfl⟩
      · exact cNo c (cY (by omega) ⟨rfl, rfl⟩)
    · subst e
      have k2 := kin a 11 13 (wI S 367 0 0) ea (by decide) (by decide)
      rw [if_neg ca] at k2
      exact ⟨0, _, k2, cY (by decide) ⟨rfl, rfl⟩⟩
  obtain ⟨tp, etp⟩ : ∃ tp : Int, (a = 13 ∧ tp = 4) ∨ (a ≠ 13 ∧ tp = 0) := by
    by_cases c : a = 13
    · exact ⟨4, Or.inl ⟨c, rfl⟩⟩
    · exact ⟨0, Or.inr ⟨c, rfl⟩⟩
  have wtp : w32 tp = tp := w32_of (by omega)
  have c28 : ∀ (r : Option Value) (S' : ms), 0 ≤ b → EV q 181 28 [some (.ref 0), some (vI a), some (vI b), none, none] [vI tp, vI b] S r S' → EV q 181 0 [some (.ref 0), some (vI a), some (vI b), none, none] [] S r S' := fun r S' b0 k => by
    refine vc_PH_write _ _ ?_
    rw [ea, eb]
    refine cNo (by omega) (cNo (by omega) (cNo (by omega) ?_))
    rcases etp with ⟨y1, y2⟩ | ⟨y1, y2⟩
    · rw [y2] at k
      exact cNN y1 k
    · rw [y2] at k
      exact cY y1 k
  have m29 : ∀ (r : Option Value) (B S' : ms), EV q 380 29 [some (.ref 367), some (vI a), some (vI b), none] [vI tp, vI 0, vI b] (wI B 367 0 0) r S' → EV q 380 0 [some (.ref 367), some (vI a), some (vI b), none] [] B r S' := fun r B S' k => by
    refine vc_MD_write _ _ (fun S1 e => ?_)
    subst e
    have k2 := kin a 11 13 (wI B 367 0 0) ea (by decide) (by decide)
    rw [if_pos ca] at k2
    refine ⟨1, _, k2, cNo (by decide) ?_⟩
    rw [ea]
    rcases etp with ⟨y1, y2⟩ | ⟨y1, y2⟩
    · rw [y2] at k
      exact cNN y1 k
    · rw [y2] at k
      exact cY y1 k
  have kbt : ∀ B : ms, EV q 257 0 [some (vI b), some (vI 0), some (vI tp)] [] B (some (vI (if 0 ≤ b ∧ b ≤ tp then 1 else 0))) B := fun B => kin b 0 tp B eb (by decide) wtp
  by_cases cb : 0 ≤ b ∧ b ≤ tp
  case neg =>
    refine ⟨-2, S, -2, wI S 367 0 0, ?_, m29 _ _ _ (vc_MD_write_29 _ _ _ _ _ ?_), rfl, Or.inl rfl⟩
    · by_cases c : b < 0
      · refine vc_PH_write _ _ ?_
        rw [ea, eb]
        exact cNo (by omega) (cNo (by omega) (cY c ⟨rfl, rfl⟩))
      · refine c28 _ _ (by omega) (vc_PH_write_28 _ _ _ _ ?_)
        rw [eb, wtp]
        exact cNo (by omega) ⟨rfl, rfl⟩
    · have k2 := kbt (wI S 367 0 0)
      rw [if_neg cb] at k2
      exact ⟨0, _, k2, cNN (by decide) ⟨rfl, rfl⟩⟩
  have kb1 : ∀ B : ms, EV q 257 0 [some (vI b), some (vI 0), some (vI tp)] [] B (some (vI 1)) B := fun B => by
    have k2 := kbt B
    rw [if_pos cb] at k2
    exact k2
  -- the shelf
  have hs : isSh sh := hE.2.1
  have hsr : sh = 193 ∨ sh = 268 := hs
  have h13 : S.2.2 0 13 = sh := hE.1
  obtain ⟨n, E, hn, hE', hSC, hSN⟩ := RE_E hE hM
  have kfit := vc_Shelf_fitsBench (q := q) (S := S) (S' := S) (r := some (vI (bnO E n 0))) sh (isSh_is hs) (cl_fits (q := q) hs hn hE' hSC n 0 (by omega))
  have hSN0 : ∀ B : ms, (∀ (c : Nat) (k : Int), 419 ≤ c → B.1 c k = S.1 c k) → B.1 367 88 = S.1 367 88 → ShN B n E := fun B y1 y2 => ShN_k hSN (fun c k y => by
    rcases y with ⟨z1, z2⟩ | z
    · rw [z1, z2]; exact y2
    · exact y1 c k z.1)
  have kcan : ∀ B : ms, ShN B n E → EV q 381 0 [some (.ref 367), none, none, none] [] B (some (vI (bnO E n 0))) B := fun B y => by
    have := md_can (q := q) hn hE' y n 0 1 (by omega) (Or.inr rfl)
    rw [if_neg (by decide)] at this
    exact vc_MD_canBench this
  have br := bnO_r E n 0
  by_cases cf12 : a = 12 ∧ bnO E n 0 = 0
  · obtain ⟨y1, y2⟩ := cf12
    rw [y2] at kfit kcan
    refine ⟨-3, S, -3, wI S 367 0 0, c28 _ _ cb.1 (vc_PH_write_28 _ _ _ _ ?_), m29 _ _ _ (vc_MD_write_29 _ _ _ _ _ ?_), rfl, Or.inl rfl⟩
    · rw [eb, wtp, ea]
      exact cY cb.2 (cNN y1 ⟨sh, h13, isSh_is hs, 0, S, kfit, cNN (by decide) ⟨rfl, rfl⟩⟩)
    · refine ⟨1, _, kb1 _, cY (by decide) ?_⟩
      rw [ea]
      exact cNN y1 ⟨0, _, kcan _ (hSN0 _ (fun c k y => by rw [wI_no _ (by omega)]) (by rw [wI_no _ (by omega)])), cNN (by decide) ⟨rfl, rfl⟩⟩
  have c53 : ∀ (r : Option Value) (S' : ms), EV q 181 53 [some (.ref 0), some (vI a), some (vI b), none, none] [] S r S' → EV q 181 0 [some (.ref 0), some (vI a), some (vI b), none, none] [] S r S' := fun r S' k => by
    refine c28 _ _ cb.1 (vc_PH_write_28 _ _ _ _ ?_)
    rw [eb, wtp, ea]
    refine cY cb.2 ?_
    by_cases y1 : a = 12
    · have y2 : bnO E n 0 = 1 := br.1.resolve_left (fun z => cf12 ⟨y1, z⟩)
      rw [y2] at kfit
      exact cNN y1 ⟨sh, h13, isSh_is hs, 1, S, kfit, cY (by decide) k⟩
    · exact cY y1 k
  have m54 : ∀ (r : Option Value) (B S' : ms), ShN (wI B 367 0 0) n E → EV q 380 54 [some (.ref 367), some (vI a), some (vI b), none] [] (wI B 367 0 0) r S' → EV q 380 0 [some (.ref 367), some (vI a), some (vI b), none] [] B r S' := fun r B S' hN k => by
    refine m29 _ _ _ (vc_MD_write_29 _ _ _ _ _ ⟨1, _, kb1 _, cY (by decide) ?_⟩)
    rw [ea]
    by_cases y1 : a = 12
    · have y2 : bnO E n 0 = 1 := br.1.resolve_left (fun z => cf12 ⟨y1, z⟩)
      have kc := kcan _ hN
      rw [y2] at kc
      exact cNN y1 ⟨1, _, kc, cY (by decide) k⟩
    · exact cY y1 k
  obtain ⟨f, hF⟩ := fr_ex hS
  have kfree := ph_free (q := q) hF
  by_cases cf : f ≤ 12
  case neg =>
    rw [if_neg cf] at kfree
    have kf2 := md_free (q := q) (T := wI S 367 0 0) hF (fun k k1 k2 => by rw [r0a _ _ (by decide)]; exact (hS k k1 k2).2.1)
    rw [if_neg cf] at kf2
    exact ⟨-4, S, -4, wI S 367 0 0, c53 _ _ (vc_PH_write_53 _ _ ⟨0, S, kfree, cNN (by decide) ⟨rfl, rfl⟩⟩), m54 _ _ _ (hSN0 _ (fun c k y => by rw [wI_no _ (by omega)]) (by rw [wI_no _ (by omega)])) (vc_MD_write_54 _ _ ⟨-4, _, kf2, cNo (by decide) ⟨rfl, rfl⟩⟩), rfl, Or.inl rfl⟩
  rw [if_pos cf] at kfree
  obtain ⟨f1, f2, f3⟩ := id hF
  have rg := sR_rg f1.1 cf
  obtain ⟨s1, s2⟩ := st_is f1.1 cf
  have wf : w32 f = f := w32_of (by omega)
  have wj : WJ q a b n E := by
    rcases (by omega : a = 11 ∨ a = 12 ∨ a = 13) with e | e | e
    · have b0 : b = 0 := by omega
      rw [e, b0]
      exact wj_11 hn hE'
    · have b0 : b = 0 := by omega
      have y2 : bnO E n 0 = 1 := br.1.resolve_left (fun z => cf12 ⟨e, z⟩)
      rw [e, b0]
      exact wj_12 hn hE' (fun i hi => br.2 y2 i (by omega) (by omega))
    · rw [e]
      exact wj_13 (by omega) hn hE'
  obtain ⟨wc, wm, ⟨⟨hc1, hc2⟩, hm1, hcm⟩, jc, jm⟩ := wj
  -- the class
  obtain ⟨A0, eA0⟩ : ∃ A0, A0 = CL S (sR f) := ⟨_, rfl⟩
  have kcl := sp_clear (q := q) (S := S) s2
  rw [← eA0] at kcl
  have at0 : ∀ (c : Nat) (k : Int), c ≠ sR f → A0.1 c k = S.1 c k := fun c k y1 => by rw [eA0, CL_n _ y1]
  have cl1 : ∀ k : Int, A0.1 (sR f) k = if k = 3 then 0 else if k = 2 then 0 else if k = 1 then 0 else S.1 (sR f) k := fun k => by
    rw [eA0, CL_at]
    by_cases c3 : k = 3
    · rw [if_pos ⟨rfl, c3⟩, if_pos c3]
    · rw [if_neg (fun y => c3 y.2), if_neg c3]
      by_cases c2 : k = 2
      · rw [if_pos ⟨rfl, c2⟩, if_pos c2]
      · rw [if_neg (fun y => c2 y.2), if_neg c2]
        by_cases c1 : k = 1
        · rw [if_pos ⟨rfl, c1⟩, if_pos c1]
        · rw [if_neg (fun y => c1 y.2), if_neg c1]
  have hc0 : CBt A0 (sR f) 12000 (w00, 0) := by
    refine ⟨⟨fun _ => ⟨?_, ?_, fun k k0 k1 => absurd k1 (by show ¬ k < 0; omega)⟩, fun y => absurd y (by show ¬ ((12000 : Nat) : Int) < 0; decide)⟩, ?_⟩
    · rw [cl1, if_neg (by decide), if_neg (by decide), if_pos rfl]; rfl
    · rw [cl1, if_neg (by decide), if_pos rfl]
    · rw [cl1, if_pos rfl]; rfl
  obtain ⟨A1, o, k2, k3, k11, k12, k13⟩ := jc A0 sh (sR f) hs s2 (by omega) (BlC_e hI (fun c k y => at0 c k (by omega))) (ShC_k hn hSC (fun c k y => at0 c k (by omega))) hc0
  have at1 : ∀ (c : Nat) (k : Int), ¬ Xwc8 sh (sR f) c k → c ≠ sR f → A1.1 c k = S.1 c k := fun c k y1 y2 => by
    rw [k2.2 c k y1]
    show A0.1 c k = S.1 c k
    exact at0 c k y2
  have e22 : A1.2.2 = (wR S 10 2 o).2.2 := by
    rw [k2.1, eA0]
    rfl
  have h013 : A0.2.2 0 13 = sh := by
    rw [eA0]
    exact h13
  have kst := cw_settle (q := q) (f := f) f1.1 cf k3
  obtain ⟨C, eC⟩ : ∃ C, C = CE2 A1 wc f := ⟨_, rfl⟩
  rw [← eC] at kst
  have cEV : EV q 181 0 [some (.ref 0), some (vI a), some (vI b), none, none] [] S (some (vI (if wc.1 ≤ 12000 then f else -4))) C := by
    refine c53 _ _ (vc_PH_write_53 _ _ ⟨f, S, kfree, ?_⟩)
    have k138 : EV q 181 138 [some (.ref 0), some (vI a), some (vI b), some (vI f), some (.ref (sR f))] [] A1 (some (vI (if wc.1 ≤ 12000 then f else -4))) C := vc_PH_write_138 _ _ _ _ _ s2 ⟨_, C, kst, rfl, rfl⟩
    rw [wf, ea]
    refine cY (by omega) ⟨by omega, sR f, 12000, s1, s2, A0, kcl, fun y => ⟨sh, h013, isSh_is hs, A1, k11 y, k138⟩, fun y => ⟨sh, h013, isSh_is hs, A1, k12 y, k138⟩, fun y1 y2 => ⟨sh, h013, isSh_is hs, A1, k13 (by omega), k138⟩⟩
  have atC : ∀ (c : Nat) (k : Int), ¬ (c = 4 ∧ k = f) → C.1 c k = A1.1 c k := fun c k y => by
    rw [eC]
    unfold CE2
    split
    · rw [wI_no _ y]
    · rfl
  have cX : ∀ (c : Nat) (k : Int), ¬ Xwc8 sh (sR f) c k → c ≠ sR f → ¬ (c = 4 ∧ k = f) → C.1 c k = S.1 c k := fun c k y1 y2 y3 => by rw [atC c k y3]; exact at1 c k y1 y2
  have cH : ∀ (c : Nat) (k : Int), 366 < c → C.1 c k = S.1 c k := fun c k y => cX c k (by unfold Xwc8 XPa XRb; omega) (by omega) (by omega)
  have c22 : C.2.2 = (wR S 10 2 o).2.2 := by
    rw [eC]
    unfold CE2
    split
    · exact e22
    · exact e22
  have hBC : BOk (hp C) := EV_B cEV hB
  -- the reference
  obtain ⟨B0, eB0⟩ : ∃ B0, B0 = wI C 367 0 0 := ⟨_, rfl⟩
  have atB0 : ∀ (c : Nat) (k : Int), ¬ (c = 367 ∧ k = 0) → B0.1 c k = C.1 c k := fun c k y => by rw [eB0, wI_no _ y]
  have kf2 := md_free (q := q) (T := B0) hF (fun k k1 k2 => by
    rw [atB0 _ _ (by omega), cH _ _ (by omega)]
    exact (hS k k1 k2).2.1)
  rw [if_pos cf] at kf2
  obtain ⟨B1, eB1⟩ : ∃ B1, B1 = wI (wI (wI B0 367 9 0) 367 10 0) 367 11 0 := ⟨_, rfl⟩
  have kbg : EV q 278 0 [some (.ref 367), some (vI 0)] [] B0 none B1 := vc_MD_begin _ (fun S1 g1 S2 g2 => ⟨Or.inl rfl, fun S4 g4 => ⟨rfl, by subst g1 g2 g4; exact eB1⟩⟩)
  have atB1 : ∀ (c : Nat) (k : Int), ¬ (c = 367 ∧ (k = 0 ∨ (9 ≤ k ∧ k ≤ 11))) → B1.1 c k = C.1 c k := fun c k y => by
    rw [eB1, rI_I, if_neg (by omega), rI_I, if_neg (by omega), rI_I, if_neg (by omega), atB0 c k (by omega)]
  have e1h : ∀ (c : Nat) (k : Int), 366 < c → ¬ (c = 367 ∧ (k = 0 ∨ (9 ≤ k ∧ k ≤ 11))) → B1.1 c k = S.1 c k := fun c k y z => by rw [atB1 c k z, cH c k y]
  obtain ⟨t1, t2, t3⟩ := id hT
  have hTr : TrB B1 := by
    refine ⟨by rw [e1h _ _ (by omega) (by omega), t2]; exact t1, fun k k0 k1 => ?_⟩
    rw [e1h _ _ (by omega) (by omega), t2] at k1
    rw [e1h _ _ (by omega) (by omega), (t3 k k0 k1).2]
    exact b8_of (b8_rg _)
  have hM1 : MBt B1 0 (w00, 0) := ⟨⟨by rw [eB1, rI_I, if_neg (by decide), rI_I, if_neg (by decide), rI_I, if_pos ⟨rfl, rfl⟩]; rfl, fun k k0 k1 _ => absurd k1 (by show ¬ k < 0; omega)⟩, by rw [eB1, rI_I, if_neg (by decide), rI_I, if_pos ⟨rfl, rfl⟩]; rfl, by rw [eB1, rI_I, if_pos ⟨rfl, rfl⟩]⟩
  obtain ⟨B2, j1, j2, ⟨j3, j3'⟩, j4, m11, m12, m13⟩ := jm B1 (BOk_e hBC (fun k => atB1 374 k (by omega))) ⟨fun s hs => by rw [e1h _ _ (by omega) (by omega)]; exact hq.1 s hs, fun s hs => by rw [e1h _ _ (by omega) (by omega)]; exact hq.2 s hs⟩ (TbK_k hK (fun c k y => e1h c k (by omega) (by omega))) (hSN0 _ (fun c k y => e1h c k (by omega) (by omega)) (e1h _ _ (by omega) (by omega))) hTr hM1
  have e22B : B2.2.2 = (wR S 10 2 o).2.2 := by rw [j1.1, eB1, eB0]; exact c22
  have lo2 : ∀ (c : Nat) (k : Int), c < 367 → B2.1 c k = C.1 c k := fun c k y => by rw [j1.2 c k (by unfold Xwm8 XPb; omega), atB1 c k (by omega)]
  have hi2 : ∀ (c : Nat) (k : Int), 366 < c → ¬ Xwm8 c k → ¬ (c = 367 ∧ k = 0) → B2.1 c k = S.1 c k := fun c k y z z0 => by
    rw [j1.2 c k z]
    unfold Xwm8 XPb at z
    exact e1h c k y (by omega)
  have b2tr : B2.1 367 2 = S.1 367 2 ∧ ∀ k : Int, 0 ≤ k → k < S.1 367 2 → B2.1 368 k = S.1 368 k := by
    refine ⟨by rw [j3, e1h _ _ (by omega) (by omega)], fun k k0 k1 => ?_⟩
    rw [j3' k k0 (by rw [e1h _ _ (by omega) (by omega)]; exact k1), e1h _ _ (by omega) (by omega)]
  have all2 : ∀ (c : Nat) (k : Int), ¬ X18 sh c k → c ≠ sR f → c ≠ sR f + 1 → ¬ (c = 4 ∧ k = f) → B2.1 c k = S.1 c k := fun c k y1 y2 y3 y4 => by
    by_cases l : c < 367
    · rw [lo2 c k l]
      refine cX c k (fun z => ?_) y2 y4
      unfold Xwc8 XPa XRb at z
      unfold X18 at y1
      omega
    · refine hi2 c k (by omega) (fun z => y1 ?_) (fun z => y1 ?_)
      · unfold X18
        exact Or.inr (Or.inr (Or.inr (Or.inr (Or.inr (Or.inr (Or.inr (Or.inr (Or.inr (Or.inr z)))))))))
      · unfold X18
        exact Or.inr (Or.inr (Or.inr (Or.inr (Or.inr (Or.inr (Or.inr (Or.inr (Or.inr (Or.inl z)))))))))
  have hX2 : ∀ (c : Nat) (k : Int), X18 sh c k → c ≠ 4 ∧ (c < 343 ∨ 366 < c) ∧ c ≠ 369 ∧ c ≠ 370 ∧ c ≠ 371 := fun c k y => by
    unfold X18 Xwm8 XPb at y
    omega
  have hN0 : ShN B0 n E := hSN0 _ (fun c k y => by rw [atB0 _ _ (by omega), cH _ _ (by omega)]) (by rw [atB0 _ _ (by omega), cH _ _ (by omega)])
  have m54' : ∀ (r : Option Value) (S' : ms), EV q 380 101 [some (.ref 367), some (vI a), some (vI b), none] [] B2 r S' → EV q 380 0 [some (.ref 367), some (vI a), some (vI b), none] [] C r S' := fun r S' k => by
    refine m54 _ _ _ (by rw [← eB0]; exact hN0) ?_
    rw [← eB0]
    refine vc_MD_write_54 _ _ ⟨f, B0, kf2, ?_⟩
    rw [wf, ea]
    refine cY (by omega) ⟨B1, kbg, ?_⟩
    by_cases y1 : a = 11
    · exact cNN y1 ⟨1, B2, m11 y1, k⟩
    · refine cY y1 ?_
      by_cases y2 : a = 12
      · exact cNN y2 ⟨B2, m12 y2, k⟩
      · exact cY y2 ⟨B2, m13 (by omega), k⟩
  have wwm : w32 wm.1 = wm.1 := w32_of (by omega)
  by_cases c : wc.1 ≤ 12000
  case neg =>
    rw [if_neg c] at cEV
    have cm : ¬ wm.1 ≤ 12000 := by
      rcases hcm with y | y
      · rw [y]; exact c
      · omega
    refine ⟨-4, C, -4, B2, cEV, m54' _ _ (vc_MD_write_101 _ _ ?_), rfl, Or.inr ⟨⟨f, o, ⟨hF, cf⟩, Or.inl ⟨e22B, fun c' k y => ?_⟩⟩, j2, b2tr⟩⟩
    · rw [j4.1, wwm]
      exact cNo cm ⟨rfl, rfl⟩
    · by_cases e : c' = 4 ∧ k = f
      · obtain ⟨y1, y2⟩ := e
        rw [lo2 _ _ (by omega), eC]
        unfold CE2
        rw [if_neg c]
        exact at1 _ _ (by unfold Xwc8 XPa XRb; omega) (by omega)
      · exact all2 c' k (fun z => y (Or.inl z)) (fun z => y (Or.inr (Or.inl z))) (fun z => y (Or.inr (Or.inr z))) e
  have emc : wm = wc := hcm.resolve_right (fun y => by omega)
  rw [emc] at j4 wwm
  rw [if_pos c] at cEV
  obtain ⟨h1, h2, h3⟩ := k3.1 c
  have eC' : C = wI A1 4 f 1 := by rw [eC]; unfold CE2; rw [if_pos c]
  obtain ⟨T', k328, hPY, far⟩ := md_newY (q := q) (X := X18 sh) (S := S) (B := B2) (f := f) (o := o) (w := wc) hX2 hS hF cf ⟨hc1.1, hc2⟩ c j4 ⟨by rw [lo2 _ _ (by omega), eC', wI_at], by rw [lo2 _ _ (by omega), atC _ _ (by omega)]; exact h1, fun k k0 k1 => by rw [lo2 _ _ (by omega), atC _ _ (by omega)]; exact h3 k k0 k1⟩ e22B all2
  refine ⟨f, C, f, T', cEV, m54' _ _ (vc_MD_write_101 _ _ ?_), rfl, Or.inr ⟨hPY, TbK_k j2 (fun c k y => far c k (by omega) (by omega) (by omega)), ?_, fun k k0 k1 => ?_⟩⟩
  · rw [j4.1, wwm]
    exact cY c ⟨f, T', k328, rfl, rfl⟩
  · rw [far _ _ (by decide) (by decide) (by decide)]; exact b2tr.1
  · rw [far _ _ (by decide) (by decide) (by decide)]; exact b2tr.2 k k0 k1
end WrQ
