/-! read: TAPE, both sides at once -/
section Rea7
variable {q : Nat × (Nat → Int32)} {x p : Int} {t : Int → Int}
theorem md_tpRow {n u w : Nat} {E : Nat → En} {v1 v2 v3 v4 : Int} {st : Rd} {S B : ms} (hx : 0 ≤ x ∧ x ≤ 6000) (h0 : 0 ≤ p) (h1 : p + 512 ≤ x) (hn : n ≤ 16) (hE : ∀ e : Nat, e < n → EnOk (E e)) (b1 : -1 ≤ v1 ∧ v1 < 68719476736) (b2 : -1 ≤ v2 ∧ v2 < 68719476736) (b3 : -1 ≤ v3 ∧ v3 < 68719476736) (b4 : -1 ≤ v4 ∧ v4 < 68719476736) (k1 : ∀ B : ms, TM B x t → EV q 394 0 [some (.ref 367), some (vI (p + 148)), some (vI 8), none, none, none, none, none] [] B (some (vL v1)) B) (k2 : ∀ B : ms, TM B x t → EV q 394 0 [some (.ref 367), some (vI (p + 100)), some (vI 8), none, none, none, none, none] [] B (some (vL v2)) B) (k3 : ∀ B : ms, TM B x t → EV q 394 0 [some (.ref 367), some (vI (p + 124)), some (vI 12), none, none, none, none, none] [] B (some (vL v3)) B) (k4 : ∀ B : ms, TM B x t → EV q 394 0 [some (.ref 367), some (vI (p + 136)), some (vI 12), none, none, none, none, none] [] B (some (vL v4)) B) (hu : upR t (p + 345) 155 u) (hw : upR t p 100 w) (ku : ∀ B : ms, TM B x t → EV q 395 0 [some (.ref 367), some (vI (p + 345)), some (vI 155), none] [] B (some (vI u)) B) (kw : ∀ B : ms, TM B x t → EV q 395 0 [some (.ref 367), some (vI p), some (vI 100), none] [] B (some (vI w)) B) (hr : rdR x st) (c0 : st.1 = 0) (hT : TM S x t) (h2 : S.1 367 2 = x) (hSh : ShM S n E) (hb : bkF t p 512 = 0) (hB : MR S B x st) : ∃ S1 B1, EX xSi S S1 ∧ MR S1 B1 x (tpF x p t n (lbN u w) v1 v2 v3 v4 st) ∧ ((tpF x p t n (lbN u w) v1 v2 v3 v4 st).1 = 0 → ShM S1 (n + 1) (upE E n ((lbN u w : Nat), lbF t p u, v2 % 512, v4, v3, fun k => t (p + 512 + k)))) ∧ ((tpF x p t n (lbN u w) v1 v2 v3 v4 st).1 ≠ 0 → ShM S1 n E) ∧ ∀ (r : Option Value) (T : ms), ((tpF x p t n (lbN u w) v1 v2 v3 v4 st).1 = 0 → EV q 393 2 [some (.ref 367), some (vI (min (tpP p v3) x)), none, none, none, none, none, none, none, none, none, none, none, none, none, none, none, none] [] B1 r T) → ((tpF x p t n (lbN u w) v1 v2 v3 v4 st).1 ≠ 0 → r = none ∧ T = B1) → EV q 393 38 [some (.ref 367), some (vI p), some (vI (bkF t p 512)), some (vI (smF t p 512)), some (vI 512), none, none, none, none, none, none, none, none, none, none, none, none, none] [] B r T := by
  have tmB : ∀ (S B : ms) (st : Rd), TM S x t → MR S B x st → TM B x t := fun S B st hT hB k k0 k1 => ⟨(hT k k0 k1).1, by rw [hB.2.2.2 368 k (by omega) (by omega)]; exact (hT k k0 k1).2⟩
  have hTB := tmB S B st hT hB
  have ht : ∀ k : Int, 0 ≤ k → k < x → 0 ≤ t k ∧ t k < 256 := fun k k0 k1 => (hT k k0 k1).1
  have w0 : w64 0 = 0 := by decide
  have hu1 := hu.1
  have hw1 := hw.1
  have sr := smF_rg h0 hx.2 h1 ht 512 (by omega)
  have t156 := hTB (p + 156) (by omega) (by omega)
  have t345 := hTB (p + 345) (by omega) (by omega)
  have e345 : t (p + 345) = 0 ↔ u = 0 := by
    constructor
    · intro y
      have := hu.2.1
      by_cases z : u = 0
      · exact z
      · have h3 := this 0 (by omega)
        rw [show p + 345 + ((0 : Nat) : Int) = p + 345 from Int.add_zero _] at h3
        exact absurd y h3
    · intro z
      have := hu.2.2 (by omega)
      rw [z, show p + 345 + ((0 : Nat) : Int) = p + 345 from Int.add_zero _] at this
      exact this
  have etp : t p ≠ 0 ↔ ¬ (w : Int) = 0 := by
    constructor
    · intro y z
      have := hw.2.2 (by omega)
      rw [z, Int.add_zero] at this
      exact y this
    · intro z
      have h3 := hw.2.1 0 (by omega)
      rw [show p + ((0 : Nat) : Int) = p from Int.add_zero _] at h3
      exact h3
  obtain ⟨J, eJ⟩ : ∃ J : Int, J = if u = 0 then 0 else 1 := ⟨_, rfl⟩
  have e95 : B.1 367 95 = n := by rw [hB.2.2.2 367 95 (by omega) (by omega)]; exact hSh.1
  have e2 : B.1 367 2 = x := by rw [hB.2.2.2 367 2 (by omega) (by omega)]; exact h2
  obtain ⟨N, eN⟩ : ∃ N : Nat, N = lbN u w := ⟨_, rfl⟩
  have hN : N ≤ 256 ∧ (N : Int) = w + (if u = 0 then 0 else (u : Int) + 1) := by
    rw [eN]
    unfold lbN
    split <;> omega
  rw [← eN]
  -- as far as 239
  have p239 : ∀ (r : Option Value) (T : ms), EV q 393 239 [some (.ref 367), some (vI p), some (vI 0), some (vI (smF t p 512)), some (vL v1), none, some (vL v2), none, some (vL v3), none, some (vL v4), none, some (vI u), some (vI w), some (vI J), none, none, none] [vI (if u = 0 then 0 else (u : Int) + 1), vI w] B r T → EV q 393 38 [some (.ref 367), some (vI p), some (vI (bkF t p 512)), some (vI (smF t p 512)), some (vI 512), none, none, none, none, none, none, none, none, none, none, none, none, none] [] B r T := by
    intro r T y
    have w345 : w32 (p + 345) = p + 345 := w32_of (by omega)
    have y222 : EV q 393 222 [some (.ref 367), some (vI p), some (vI 0), some (vI (smF t p 512)), some (vL v1), none, some (vL v2), none, some (vL v3), none, some (vL v4), none, some (vI u), some (vI w), none, none, none, none] [vI J] B r T := by
      refine vc_MD_readTape_222 _ _ _ _ _ _ _ _ _ _ ?_
      by_cases z : u = 0
      · rw [eJ] at y ⊢
        rw [if_pos z] at y ⊢
        rw [if_pos z] at y
        exact cY (by decide) y
      · rw [eJ] at y ⊢
        rw [if_neg z] at y ⊢
        rw [if_neg z] at y
        exact cNo (by decide) y
    have y193 : EV q 393 193 [some (.ref 367), some (vI p), some (vI 0), some (vI (smF t p 512)), some (vL v1), none, some (vL v2), none, some (vL v3), none, some (vL v4), none, none, none, none, none, none, none] [vI u] B r T := by
      refine vc_MD_readTape_193 _ _ _ _ _ _ _ _ ⟨w, B, kw B hTB, ?_⟩
      rw [w345, t345.2]
      refine ⟨by omega, ?_⟩
      by_cases z : u = 0
      · rw [eJ, if_pos z] at y222
        exact cY ((b8_is t345.1 (by decide)).2 (e345.2 z)) y222
      · rw [eJ, if_neg z] at y222
        exact cNo (fun v => z (e345.1 ((b8_is t345.1 (by decide)).1 v))) y222
    rw [hb]
    refine vc_MD_readTape_38 _ _ _ _ (cY (by decide) (cY (by decide) ⟨v1, B, k1 B hTB, v2, B, k2 B hTB, v3, B, k3 B hTB, v4, B, k4 B hTB, ?_⟩))
    rw [w345, t345.2]
    refine ⟨by omega, ?_⟩
    by_cases z : u = 0
    · rw [z] at y193
      exact cY ((b8_is t345.1 (by decide)).2 (e345.2 z)) y193
    · exact cNo (fun v => z (e345.1 ((b8_is t345.1 (by decide)).1 v))) ⟨u, B, ku B hTB, y193⟩
  -- told
  have fin : ∀ (k pp : Int), (1 ≤ k ∧ k < 1000) → tpF x p t n N v1 v2 v3 v4 st = rdTellAt k pp st → (∀ B1 : ms, EV q 335 0 [some (.ref 367), some (vI k), some (vI pp)] [] B none B1 → EV q 393 239 [some (.ref 367), some (vI p), some (vI 0), some (vI (smF t p 512)), some (vL v1), none, some (vL v2), none, some (vL v3), none, some (vL v4), none, some (vI u), some (vI w), some (vI J), none, none, none] [vI (if u = 0 then 0 else (u : Int) + 1), vI w] B none B1) → ∃ S1 B1, EX xSi S S1 ∧ MR S1 B1 x (tpF x p t n N v1 v2 v3 v4 st) ∧ ((tpF x p t n N v1 v2 v3 v4 st).1 = 0 → ShM S1 (n + 1) (upE E n ((N : Nat), lbF t p u, v2 % 512, v4, v3, fun k => t (p + 512 + k)))) ∧ ((tpF x p t n N v1 v2 v3 v4 st).1 ≠ 0 → ShM S1 n E) ∧ ∀ (r : Option Value) (T : ms), ((tpF x p t n N v1 v2 v3 v4 st).1 = 0 → EV q 393 2 [some (.ref 367), some (vI (min (tpP p v3) x)), none, none, none, none, none, none, none, none, none, none, none, none, none, none, none, none] [] B1 r T) → ((tpF x p t n N v1 v2 v3 v4 st).1 ≠ 0 → r = none ∧ T = B1) → EV q 393 38 [some (.ref 367), some (vI p), some (vI (bkF t p 512)), some (vI (smF t p 512)), some (vI 512), none, none, none, none, none, none, none, none, none, none, none, none, none] [] B r T := by
    intro k pp hk et h3
    have ct : (tpF x p t n N v1 v2 v3 v4 st).1 ≠ 0 := by rw [et]; exact rdTellAt_1 (by omega)
    obtain ⟨B1, m1, m2⟩ := mb_tellAt (q := q) (k := k) (p := pp) hr hB
    rw [← et] at m2
    refine ⟨S, B1, EX.refl _ S, m2, fun y => absurd y ct, fun _ => hSh, fun r T _ y => ?_⟩
    obtain ⟨y1, y2⟩ := y ct
    rw [y1, y2]
    exact p239 _ _ (h3 B1 m1)
  have wv1 : w64 v1 = v1 := w64_of (by omega)
  have wv2 : w64 v2 = v2 := w64_of (by omega)
  have wv3 : w64 v3 = v3 := w64_of (by omega)
  have wv4 : w64 v4 = v4 := w64_of (by omega)
  have ws : w64 (w32 (smF t p 512)) = smF t p 512 := by rw [w32_of (by omega), w64_of (by omega)]
  have w156 : w32 (p + 156) = p + 156 := w32_of (by omega)
  have eall : Unit → w32 ((w : Int) + (if u = 0 then 0 else (u : Int) + 1)) = N := fun _ => by rw [← hN.2]; exact w32_of (by omega)
  have ww : Unit → w32 ((w : Nat) : Int) = w := fun _ => w32_of (by omega)
  have wn : Unit → w32 ((n : Nat) : Int) = n := fun _ => w32_of (by omega)
  have w6 : w64 6000 = 6000 := by decide
  have wT : w64 2147483647 = 2147483647 := by decide
  have n363 : ∀ (y0 : Int) (B1 : ms), (1 ≤ y0 ∧ y0 < 1000) → EV q 335 0 [some (.ref 367), some (vI y0), some (vI p)] [] B none B1 → EV q 393 363 [some (.ref 367), some (vI p), some (vI 0), some (vI (smF t p 512)), some (vL v1), none, some (vL v2), none, some (vL v3), none, some (vL v4), none, some (vI u), some (vI w), some (vI J), some (vI ((w : Int) + (if u = 0 then 0 else (u : Int) + 1))), none, none] [vI y0] B none B1 := by
    intro y0 B1 hy k
    refine vc_MD_readTape_363 _ _ _ _ _ _ _ _ _ _ _ _ ?_
    rw [w32_of (x := y0) (by omega)]
    exact cNo (by omega) ⟨B1, k, rfl, rfl⟩
  by_cases c1 : 0 ≤ v1
  case neg =>
    refine fin 101 p (by decide) (by
      unfold tpF
      have t1 := @rdTellAt_1 101 p st (by decide)
      rw [tl_n c1, tl_told t1, tl_told t1, tl_told t1, tl_told t1, tl_told t1, tl_told t1]) (fun B1 k => vc_MD_readTape_239 _ _ _ _ _ _ _ _ _ _ _ _ ?_)
    rw [wv1, w0]
    exact cNo c1 (n363 101 B1 (by decide) k)
  by_cases c2 : v1 = smF t p 512
  case neg =>
    refine fin 100 p (by decide) (by
      unfold tpF
      have t1 := @rdTellAt_1 100 p st (by decide)
      rw [tl_y c1, tl_n c2, tl_told t1, tl_told t1, tl_told t1, tl_told t1, tl_told t1]) (fun B1 k => vc_MD_readTape_239 _ _ _ _ _ _ _ _ _ _ _ _ ?_)
    rw [wv1, w0, ws]
    exact cY c1 (cNo c2 (n363 100 B1 (by decide) k))
  by_cases c3 : 0 ≤ v2 ∧ 0 ≤ v3 ∧ 0 ≤ v4 ∧ v4 ≤ 2147483647
  case neg =>
    refine fin 101 p (by decide) (by
      unfold tpF
      have t1 := @rdTellAt_1 101 p st (by decide)
      rw [tl_y c1, tl_y c2, tl_n c3, tl_told t1, tl_told t1, tl_told t1, tl_told t1]) (fun B1 k => vc_MD_readTape_239 _ _ _ _ _ _ _ _ _ _ _ _ ?_)
    have y297 := vc_MD_readTape_297 (q := q) _ _ _ _ _ _ _ _ _ _ _ (n363 101 B1 (by decide) k)
    rw [wv1, w0, ws, wv2, wv3, wv4, wT]
    refine cY c1 (cY c2 ?_)
    by_cases z2 : v2 < 0
    · exact cY z2 y297
    · refine cNo z2 ?_
      by_cases z3 : v3 < 0
      · exact cY z3 y297
      · refine cNo z3 ?_
        by_cases z4 : v4 < 0
        · exact cY z4 y297
        · exact cNo z4 (cNo (fun z' => c3 ⟨by omega, by omega, by omega, z'⟩) y297)
  -- figures are good
  have n239 : ∀ (r : Option Value) (T : ms), (((w32 (b8 (t (p + 156))) = 48) → (((w : Int) = 0) → EV q 393 334 [some (.ref 367), some (vI p), some (vI 0), some (vI (smF t p 512)), some (vL v1), none, some (vL v2), none, some (vL v3), none, some (vL v4), none, some (vI u), some (vI w), some (vI J), some (vI ((w : Int) + (if u = 0 then 0 else (u : Int) + 1))), none, none] [] B r T) ∧ ((¬ (w : Int) = 0) → (((N : Int) ≤ 100) → (((n : Int) = 16) → EV q 393 357 [some (.ref 367), some (vI p), some (vI 0), some (vI (smF t p 512)), some (vL v1), none, some (vL v2), none, some (vL v3), none, some (vL v4), none, some (vI u), some (vI w), some (vI J), some (vI ((w : Int) + (if u = 0 then 0 else (u : Int) + 1))), none, none] [] B r T) ∧ ((¬ (n : Int) = 16) → ((v3 ≤ 6000) → EV q 393 363 [some (.ref 367), some (vI p), some (vI 0), some (vI (smF t p 512)), some (vL v1), none, some (vL v2), none, some (vL v3), none, some (vL v4), none, some (vI u), some (vI w), some (vI J), some (vI ((w : Int) + (if u = 0 then 0 else (u : Int) + 1))), none, none] [vI 0] B r T) ∧ ((¬ v3 ≤ 6000) → EV q 393 357 [some (.ref 367), some (vI p), some (vI 0), some (vI (smF t p 512)), some (vL v1), none, some (vL v2), none, some (vL v3), none, some (vL v4), none, some (vI u), some (vI w), some (vI J), some (vI ((w : Int) + (if u = 0 then 0 else (u : Int) + 1))), none, none] [] B r T))) ∧ ((¬ (N : Int) ≤ 100) → EV q 393 334 [some (.ref 367), some (vI p), some (vI 0), some (vI (smF t p 512)), some (vL v1), none, some (vL v2), none, some (vL v3), none, some (vL v4), none, some (vI u), some (vI w), some (vI J), some (vI ((w : Int) + (if u = 0 then 0 else (u : Int) + 1))), none, none] [] B r T))) ∧ ((¬ w32 (b8 (t (p + 156))) = 48) → EV q 393 363 [some (.ref 367), some (vI p), some (vI 0), some (vI (smF t p 512)), some (vL v1), none, some (vL v2), none, some (vL v3), none, some (vL v4), none, some (vI u), some (vI w), some (vI J), some (vI ((w : Int) + (if u = 0 then 0 else (u : Int) + 1))), none, none] [vI 102] B r T)) → EV q 393 239 [some (.ref 367), some (vI p), some (vI 0), some (vI (smF t p 512)), some (vL v1), none, some (vL v2), none, some (vL v3), none, some (vL v4), none, some (vI u), some (vI w), some (vI J), none, none, none] [vI (if u = 0 then 0 else (u : Int) + 1), vI w] B r T := by
    intro r T y
    refine vc_MD_readTape_239 _ _ _ _ _ _ _ _ _ _ _ _ ?_
    rw [wv1, w0, ws, wv2, wv3, wv4, wT, w156, t156.2, eall (), ww (), e95, wn (), w6]
    exact cY c1 (cY c2 (cNo (by omega) (cNo (by omega) (cNo (by omega) (cY c3.2.2.2 ⟨by omega, y⟩)))))
  by_cases c4 : t (p + 156) = 48
  case neg =>
    refine fin 102 p (by decide) (by
      unfold tpF
      have t1 := @rdTellAt_1 102 p st (by decide)
      rw [tl_y c1, tl_y c2, tl_y c3, tl_n c4, tl_told t1, tl_told t1, tl_told t1]) (fun B1 k => n239 _ _ (cNo (fun v => c4 ((b8_is t156.1 (by decide)).1 v)) (n363 102 B1 (by decide) k)))
  have b48 : w32 (b8 (t (p + 156))) = 48 := (b8_is t156.1 (by decide)).2 c4
  by_cases c5 : t p ≠ 0 ∧ N ≤ 100
  case neg =>
    refine fin 103 p (by decide) (by
      unfold tpF
      have t1 := @rdTellAt_1 103 p st (by decide)
      rw [tl_y c1, tl_y c2, tl_y c3, tl_y c4, tl_n c5, tl_told t1, tl_told t1]) (fun B1 k => n239 _ _ (cY b48 ?_))
    have y334 := vc_MD_readTape_334 (q := q) _ _ _ _ _ _ _ _ _ _ _ (n363 103 B1 (by decide) k)
    by_cases z : (w : Int) = 0
    · exact cY z y334
    · exact cNo z (cNo (fun z' => c5 ⟨etp.2 z, by omega⟩) y334)
  have c5' : ¬ (w : Int) = 0 := etp.1 c5.1
  by_cases c6 : n < 16 ∧ v3 ≤ 6000
  case neg =>
    refine fin 104 p (by decide) (by
      unfold tpF
      have t1 := @rdTellAt_1 104 p st (by decide)
      rw [tl_y c1, tl_y c2, tl_y c3, tl_y c4, tl_y c5, tl_n c6, tl_told t1]) (fun B1 k => n239 _ _ (cY b48 (cNo c5' (cY (by omega) ?_))))
    have y357 := vc_MD_readTape_357 (q := q) _ _ _ _ _ _ _ _ _ _ _ (n363 104 B1 (by decide) k)
    by_cases z : (n : Int) = 16
    · exact cY z y357
    · exact cNo z (cNo (fun z' => c6 ⟨by omega, z'⟩) y357)
  have wx : w64 (w32 (x - p - 512)) = x - p - 512 := by rw [w32_of (by omega), w64_of (by omega)]
  by_cases c7 : v3 ≤ x - p - 512
  case neg =>
    refine fin 1 x (by decide) (by
      unfold tpF
      rw [tl_y c1, tl_y c2, tl_y c3, tl_y c4, tl_y c5, tl_y c6, tl_n c7]) (fun B1 k => n239 _ _ (cY b48 (cNo c5' (cY (by omega) (cNo (by omega) (cY c6.2 (vc_MD_readTape_363 _ _ _ _ _ _ _ _ _ _ _ _ (cY (by decide) ?_))))))))
    rw [wv3, e2, wx]
    exact cNo c7 ⟨B1, k, rfl, rfl⟩
  -- an ENTRY
  have et : tpF x p t n N v1 v2 v3 v4 st = st := by
    unfold tpF
    rw [tl_y c1, tl_y c2, tl_y c3, tl_y c4, tl_y c5, tl_y c6, tl_y c7]
  rw [et]
  clear wv1 wv2 wv3 wv4 ws w156 wx b48
  obtain ⟨M, eM⟩ : ∃ M : Nat, (M : Int) = v3 := ⟨v3.toNat, by omega⟩
  have hN' : lbN u w ≤ 100 := by rw [← eN]; exact c5.2
  obtain ⟨B1, m1, m2, m3⟩ := md_tpNam (q := q) hx.2 h0 h1 c6.1 hu hw hN' hTB e95
  rw [← eN] at m2
  have hSB : ShM B n E := ShM_x hSh ⟨hB.1, fun a k (y : ¬ ((a = 367 ∧ ((15 ≤ k ∧ k ≤ 17) ∨ k = 19 ∨ k = 20 ∨ k = 22)) ∨ a = 375)) => hB.2.2.2 a k (fun z => y (Or.inl z)) (fun z => y (Or.inr z))⟩ (fun a k y => by unfold xSi; omega)
  have hS1 : ShM B1 n E := ShM_nm hE hSB m1
  have hT1 : TM B1 x t := fun k k0 k1 => ⟨(hTB k k0 k1).1, by rw [m1.2 368 k (by unfold xNm; omega)]; exact (hTB k k0 k1).2⟩
  obtain ⟨B2, i1, i2, i3⟩ := md_ent (q := q) (mo := v2 % 512) (ti := v4) (tx := fun k => t (p + 512 + k)) (c := 368) (n1 := 6000) c6.1 hE hS1 m2 c5.2 rfl (by decide) (fr := p + 512) (m := M) (by omega) (by omega) (by omega) (by decide) (fun k k0 k1 => (hT1 (p + 512 + k) (by omega) (by omega)).2)
  rw [eM] at i2 i3
  have exB := EX.trans (xNm_i m1) i1
  obtain ⟨S2, j1, j2, j3⟩ := MB_X (X := xSi) (fun a k y => by unfold xSi at y; omega) hB exB
  have hS2 : ShM S2 (n + 1) (upE E n ((N : Nat), lbF t p u, v2 % 512, v4, v3, fun k => t (p + 512 + k))) := by
    have hx9 : EX (fun a k => ¬ xSi a k) B2 S2 := ⟨(j1.1.trans hB.1.symm).trans exB.1.symm, fun a k y => j2 a k (Classical.not_not.mp y)⟩
    exact ShM_x i2 hx9 (fun a k y => y)
  have e22 : B2.1 367 2 = x := by rw [exB.2 367 2 (by unfold xSi; omega)]; exact e2
  have etd : Int.tdiv (w32 (v3 + 511)) (w32 512) = (v3 + 511) / 512 := by
    rw [w32_of (by omega), show w32 512 = 512 by decide, Int.tdiv_eq_ediv_of_nonneg (by omega)]
  have ep : p + (512 + (v3 + 511) / 512 * 512) = tpP p v3 := by unfold tpP; omega
  have rp : 0 ≤ tpP p v3 ∧ tpP p v3 < 20000 := by unfold tpP; omega
  refine ⟨S2, B2, j1, j3, fun _ => hS2, fun y => absurd c0 y, fun r T y1 y2 => p239 r T (n239 r T (cY ((b8_is t156.1 (by decide)).2 c4) (cNo c5' (cY (by omega) (cNo (by omega) (cY c6.2 (vc_MD_readTape_363 _ _ _ _ _ _ _ _ _ _ _ _ (cY (by decide) ?_))))))))⟩
  have y3 := y1 c0
  rw [w64_of (x := v3) (by omega), e2, w32_of (x := x - p - 512) (by omega), w64_of (x := x - p - 512) (by omega), e95, wn ()]
  refine cY c7 ⟨by omega, fun S3 e3 => ?_⟩
  subst e3
  refine m3 _ _ _ _ _ _ _ _ J r T eJ (fun z3 => ⟨B2, i3, ?_⟩)
  rw [etd, ep, e22, w32_of (x := tpP p v3) (by omega), w32_of (x := x) (by omega)]
  by_cases z : tpP p v3 ≤ x
  · rw [show min (tpP p v3) x = tpP p v3 by omega] at y3
    exact cY z (vc_MD_readTape_543 _ _ _ _ _ _ _ _ _ _ _ _ _ _ y3)
  · rw [show min (tpP p v3) x = x by omega] at y3
    exact cNo z (vc_MD_readTape_543 _ _ _ _ _ _ _ _ _ _ _ _ _ _ y3)
end Rea7
