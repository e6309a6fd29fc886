/-! read: a BOX's text is checked and added, the reference -/
section ReaJ2
variable {q : Nat × (Nat → Int32)} {x : Int} {t : Int → Int}
/-- the reference: from the sum on -/
theorem md_bxEnd {S B : ms} {n k N c n1 : Nat} {E0 : Nat → En} {r b0 x4 x6 x10 h x12 x13 x14 fr cs sz l16 : Int} {tx : Int → Int} {st : Rd} (hx : 0 ≤ x ∧ x ≤ 6000) (r0 : 0 ≤ r) (r1 : r + 46 + n ≤ x) (hn : n ≤ 100) (hk : k < 16) (hE : ∀ e : Nat, e < k → EnOk (E0 e)) (e16 : Unit → lowV t (r + 16) 4 = l16) (r16 : 0 ≤ l16 ∧ l16 < 4294967296) (hsz : 0 ≤ sz ∧ sz ≤ 6000) (hc : SH c = (1, n1, [])) (hn1 : n1 < 1000000) (hcs : c ≠ 367 ∧ ¬ (425 ≤ c ∧ c ≤ 430)) (hcc : (c = 368 ∧ x13 = 1 ∧ fr = x12) ∨ (c = 375 ∧ x13 = 0 ∧ fr = 0)) (hf : 0 ≤ fr) (hfN : fr + N ≤ n1) (hr : rdR x st) (c0 : st.1 = 0) (hT : TM S x t) (hSh : ShM S k E0) (hB : MWl S B st) (htx : ∀ j : Int, 0 ≤ j → j < N → B.1 c (fr + j) = b8 (tx j)) (h14 : x14 = if (N : Int) = sz then 1 else 0) : ∃ S1 B1, EX xSi S S1 ∧ MWl S1 B1 (tl (bxS N sz l16 cs) 126 h st) ∧ ((tl (bxS N sz l16 cs) 126 h st).1 = 0 → ShM S1 (k + 1) (upE E0 k (bxE t tx r n N))) ∧ ((tl (bxS N sz l16 cs) 126 h st).1 ≠ 0 → ShM S1 k E0) ∧ EV q 402 478 [some (.ref 367), some (vI r), some (vI b0), some (vI n), some (vL x4), none, some (vL x6), none, some (vL sz), none, some (vI x10), some (vI h), some (vI x12), some (vI x13), some (vI x14), none, none] [vI cs] B none B1 := by
  have tmB : ∀ (U : ms), (∀ k : Int, U.1 368 k = B.1 368 k) → TM U x t := fun U hU k k0 k1 => ⟨(hT k k0 k1).1, by rw [hU, hB.2.2.2 368 k (by omega) (by omega)]; exact (hT k k0 k1).2⟩
  have hTB := tmB B (fun _ => rfl)
  have ht : ∀ k : Int, 0 ≤ k → k < x → 0 ≤ t k ∧ t k < 256 := fun k k0 k1 => (hT k k0 k1).1
  have k16 : EV q 401 0 [some (.ref 367), some (vI (r + 16)), some (vI 4), none, none, none] [] B (some (vL l16)) B := by
    have k := mn_low (q := q) (p := r + 16) (n := 4) (by omega) (by omega) hx.2 hTB
    rw [e16 ()] at k
    exact k
  have e95 : B.1 367 95 = k := by rw [hB.2.2.2 367 95 (by omega) (by omega)]; exact hSh.1
  by_cases cb : bxS N sz l16 cs
  case neg =>
    have ct : (rdTellAt 126 h st).1 ≠ 0 := rdTellAt_1 (by decide)
    obtain ⟨B1, m1, m2⟩ := mt_tellAt (q := q) (k := 126) (p := h) hr hB
    rw [tl_n (c := bxS N sz l16 cs) cb]
    have y500 : ∀ x15 : Int, EV q 402 500 [some (.ref 367), some (vI r), some (vI b0), some (vI n), some (vL x4), none, some (vL x6), none, some (vL sz), none, some (vI x10), some (vI h), some (vI x12), some (vI x13), some (vI x14), some (vI x15), none] [] B none B1 := fun x15 => vc_MD_boxHead_500 _ _ _ _ _ _ _ _ _ _ _ _ ⟨B1, m1, rfl, rfl⟩
    refine ⟨S, B1, EX.refl _ S, m2, fun y => absurd y ct, fun _ => hSh, vc_MD_boxHead_478 _ _ _ _ _ _ _ _ _ _ _ _ ?_⟩
    by_cases z : (N : Int) = sz
    · rw [if_pos z] at h14
      refine ⟨fun w => absurd w (by rw [h14]; decide), fun _ => ⟨_, B, k16, cNo (fun w => cb ⟨z, w.symm⟩) (y500 _)⟩⟩
    · rw [if_neg z] at h14
      exact ⟨fun _ => y500 _, fun w => absurd (by rw [h14]; decide) w⟩
  rw [tl_y (c := bxS N sz l16 cs) cb]
  rw [if_pos cb.1] at h14
  have hN6 : N ≤ 6000 := by have := cb.1; omega
  have wk : Unit → w32 ((k : Nat) : Int) = k := fun _ => w32_of (by omega)
  have ex0 : EX (xNm k) B (wI B 426 k 0) := EX.wr (EX.refl _ B) (show xNm k 426 k from Or.inr ⟨rfl, rfl⟩)
  obtain ⟨B1, m1, m2, m3⟩ := md_nm (q := q) (p := r + 46) (g := fun k => t (r + 46 + k)) (c := 0) (n := n) hk (by omega) (by omega) hx.2 (by omega) (fun j hj => by rw [Nat.zero_add]) n 0 _ (by omega) (tmB _ (fun k => by rw [wI_no _ (by omega)])) (by rw [wI_no _ (by omega)]; exact e95) ⟨wI_at _ _ _ _, fun k hk => absurd hk (by omega)⟩
  rw [Nat.zero_add] at m2
  have exn := EX.trans ex0 m1
  have hSB : ShM B k E0 := ShM_x hSh ⟨hB.1, fun a k (y : ¬ ((a = 367 ∧ ((15 ≤ k ∧ k ≤ 17) ∨ k = 19 ∨ k = 20 ∨ k = 22)) ∨ a = 375)) => hB.2.2.2 a k (fun z => y (Or.inl z)) (fun z => y (Or.inr z))⟩ (fun a k y => by unfold xSi; omega)
  have hS1 : ShM B1 k E0 := ShM_nm hE hSB exn
  have hT1 : TM B1 x t := tmB B1 (fun k => exn.2 368 k (by unfold xNm; omega))
  obtain ⟨B2, i1, i2, i3⟩ := md_ent (q := q) (mo := lowV t (r + 40) 2) (ti := lowV t (r + 12) 4) (tx := tx) (c := c) (n1 := n1) hk hE hS1 m2 hn hc hcs (fr := fr) (m := N) hf hN6 hfN hn1 (fun j j0 j1 => by rw [exn.2 c _ (by unfold xNm; omega)]; exact htx j j0 j1)
  have exB := EX.trans (xNm_i exn) i1
  obtain ⟨S2, j1, j2, j3⟩ := MWl_X (X := xSi) (fun a k y => by unfold xSi at y; omega) hB exB
  have hS2 : ShM S2 (k + 1) (upE E0 k (bxE t tx r n N)) := by
    have hx9 : EX (fun a k => ¬ xSi a k) B2 S2 := ⟨(j1.1.trans hB.1.symm).trans exB.1.symm, fun a k y => j2 a k (Classical.not_not.mp y)⟩
    exact ShM_x i2 hx9 (fun a k y => y)
  rw [cb.1] at i3
  refine ⟨S2, B2, j1, j3, fun _ => hS2, fun y => absurd c0 y, vc_MD_boxHead_478 _ _ _ _ _ _ _ _ _ _ _ _ ⟨fun w => absurd w (by rw [h14]; decide), fun _ => ⟨_, B, k16, cY cb.2.symm ?_⟩⟩⟩
  rw [e95, wk ()]
  refine ⟨by omega, fun S5 e5 => ?_⟩
  subst e5
  refine ⟨1, B1, vc_MD_newName _ _ m3, _, B1, mn_low (p := r + 40) (n := 2) (by omega) (by omega) hx.2 hT1, _, B1, mn_low (p := r + 12) (n := 4) (by omega) (by omega) hx.2 hT1, ?_⟩
  rcases hcc with ⟨e, e', e''⟩ | ⟨e, e', e''⟩
  · subst e e' e''
    exact cNo (by decide) (vc_MD_boxHead_567 _ _ _ _ _ _ _ _ _ _ _ _ _ _ _ 368 n1 hc (cNo (by decide) (vc_MD_boxHead_578 _ _ _ _ _ _ _ _ _ _ _ _ _ _ _ _ 368 n1 hc ⟨B2, i3, rfl, rfl⟩)))
  · subst e e' e''
    exact cY (by decide) (vc_MD_boxHead_567 _ _ _ _ _ _ _ _ _ _ _ _ _ _ _ 375 n1 hc (cY (by decide) (vc_MD_boxHead_578 _ _ _ _ _ _ _ _ _ _ _ _ _ _ _ _ 375 n1 hc ⟨B2, i3, rfl, rfl⟩)))
end ReaJ2
