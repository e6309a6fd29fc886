/-! pack: WORDS, all -/
section PWordsC
variable {q : Nat × (Nat → Int32)} {x : Int} {t : Int → Int} {IC : ms → Prop}
/-- the entries with one more -/
def upW (E : Nat → Int × Int × Int) (c : Nat) (z : Int × Int × Int) (e : Nat) : Int × Int × Int := if e = c then z else E e
theorem upW_at (E : Nat → Int × Int × Int) (c : Nat) (z : Int × Int × Int) : upW E c z c = z := if_pos rfl
theorem upW_no (E : Nat → Int × Int × Int) (c : Nat) (z : Int × Int × Int) {e : Nat} (h : e ≠ c) : upW E c z e = E e := if_neg h
theorem Sw_up {E : Nat → Int × Int × Int} {c n : Nat} {z : Int × Int × Int} {i w m : Int} (hn : n ≤ c) (h : Sw t E n x i w m) : Sw t (upW E c z) n x i w m := ⟨h.1, h.2.imp id (fun ⟨e, e1, e2, e3, e4⟩ => ⟨e, e1, e2, by rw [upW_no E c z (by omega)]; exact e3, by rw [upW_no E c z (by omega)]; exact e4⟩)⟩
theorem laE_up {E : Nat → Int × Int × Int} {c e : Nat} {z : Int × Int × Int} (h : e ≠ c) : laE t (upW E c z) e = laE t E e := by unfold laE; rw [upW_no E c z h]
theorem WI_up {E : Nat → Int × Int × Int} {c : Nat} {i w m : Int} (hW : WI t E c x) (hF : FW t E c x i w m) (hx : i + m < x) : WI t (upW E c (w, i, m + 1)) (c + 1) x := by
  have m1 := Sw_1 hW hF.1
  have h1 := hF.1.1
  have la : laE t (upW E c (w, i, m + 1)) c = t (i + m) := by
    unfold laE
    rw [upW_at]
    show t (i + (m + 1) - 1) = t (i + m)
    rw [show i + (m + 1) - 1 = i + m by omega]
  refine ⟨fun e he => ?_, fun e e' he he' y1 y2 => ?_⟩
  · by_cases ee : e = c
    · subst ee
      rw [upW_at]
      refine ⟨by show 2 ≤ m + 1 ∧ 0 ≤ i ∧ i + (m + 1) ≤ x; omega, ?_⟩
      show Sw t _ e x i w (m + 1 - 1)
      rw [show m + 1 - 1 = m by omega]
      exact Sw_up (Nat.le_refl _) hF.1
    · rw [upW_no E c _ ee]
      exact ⟨(hW.1 e (by omega)).1, Sw_up (by omega) (hW.1 e (by omega)).2⟩
  · by_cases ee : e = c
    · by_cases ee' : e' = c
      · omega
      · exfalso
        rw [ee, la, laE_up ee'] at y2
        rw [ee, upW_at, upW_no E c _ ee'] at y1
        exact hF.2 hx e' (by omega) y1.symm y2.symm
    · by_cases ee' : e' = c
      · exfalso
        rw [ee', la, laE_up ee] at y2
        rw [ee', upW_at, upW_no E c _ ee] at y1
        exact hF.2 hx e (by omega) y1 y2
      · rw [laE_up ee, laE_up ee'] at y2
        rw [upW_no E c _ ee, upW_no E c _ ee'] at y1
        exact hW.2 e e' (by omega) (by omega) y1 y2
theorem nxF_up {E : Nat → Int × Int × Int} {c : Nat} {z : Int × Int × Int} (w : Int) : ∀ n : Nat, n ≤ c → nxF (upW E c z) w n = nxF E w n
  | 0, _ => rfl
  | n + 1, h => by rw [nxF_s, nxF_s, upW_no E c z (by omega), nxF_up w n (by omega)]
theorem TR_up {E : Nat → Int × Int × Int} {c : Nat} {z : Int × Int × Int} {A : ms} (h : TR t E c A) : TR t (upW E c z) c A := ⟨fun w hw => by rw [nxF_up w c (Nat.le_refl _)]; exact h.1 w hw, fun e he => by rw [laE_up (by omega), upW_no E c z (by omega), nxF_up _ e (by omega)]; exact h.2 e he⟩
def XWc (o a : Nat) (k : Int) : Prop := (23 ≤ a ∧ a ≤ 25) ∨ XRb o a k
def XWm (a : Nat) (k : Int) : Prop := XWb a k ∨ a = 383 ∨ a = 384
theorem CBt_w {A A' : ms} {o : Nat} {s : Wb} (o3 : 300 < o) (h : CBt A o 12000 s) (e : ∀ (a : Nat) (k : Int), ¬ (23 ≤ a ∧ a ≤ 25) → A'.1 a k = A.1 a k) : CBt A' o 12000 s := CBt_cg h (fun a k y => e a k (by unfold XRb at y; omega))
theorem jp_wl (hx : 0 ≤ x ∧ x ≤ 6000) (ht : ∀ k : Int, 0 ≤ k → k < x → 0 ≤ t k ∧ t k < 256) : ∀ (v : Nat) (i : Int) (c : Nat) (E : Nat → Int × Int × Int) (bw bp bl : Int) (s : Wb), x - i ≤ v → (0 ≤ i ∧ i ≤ x) → c < 3838 → (i < x → WI t E c x) → (0 < c → (E (c - 1)).1 = bw ∧ (E (c - 1)).2.1 = bp ∧ (E (c - 1)).2.2 = bl + 1 ∧ i = bp + bl) → wbR 0 s → s.1.1 ≤ 9 + 24 * i → ∃ s' : Wb, (wbR 0 s' ∧ s'.1.1 ≤ 9 + 24 * x + 12) ∧ (∀ (A : ms) (o : Nat) (x6 : Int), isRow o 12000 → 300 < o → TXc A x t → (i < x → TR t E (c - 1) A) → (0 ≤ x6 ∧ x6 ≤ i) → CBt A o 12000 s → ∃ A', EX (XWc o) A A' ∧ CBt A' o 12000 s' ∧ EV q 48 28 [some (.ref 22), some (.ref 1), some (.ref o), some (vI c), some (vI bw), some (vI i), some (vI x6), none, none, none] [] A none A') ∧ ∀ (B : ms), TXm B x t → RE2 E (c - 1) B → MBt B 0 s → ∃ B', EX XWm B B' ∧ MBt B' 0 s' ∧ (i < x → EV q 283 46 [some (.ref 367), some (vI c), some (vI i), some (vI bp), some (vI bl), none, none, none] [] B none B') ∧ (i = x → EV q 283 294 [some (.ref 367), some (vI c), some (vI i), some (vI bp), some (vI bl), none, none, none] [] B none B') := by
  have wx : w32 x = x := w32_of (by omega)
  -- the end
  have fin : ∀ (c : Nat) (bw bp bl : Int) (E : Nat → Int × Int × Int) (s : Wb), c < 3838 → wbR 0 s → s.1.1 ≤ 9 + 24 * x → ∃ s' : Wb, (wbR 0 s' ∧ s'.1.1 ≤ 9 + 24 * x + 12) ∧ (∀ (A : ms) (o : Nat) (x6 : Int), isRow o 12000 → 300 < o → TXc A x t → (0 ≤ x6 ∧ x6 ≤ x) → CBt A o 12000 s → ∃ A', EX (XWc o) A A' ∧ CBt A' o 12000 s' ∧ EV q 48 28 [some (.ref 22), some (.ref 1), some (.ref o), some (vI c), some (vI bw), some (vI x), some (vI x6), none, none, none] [] A none A') ∧ ∀ (B : ms), TXm B x t → MBt B 0 s → ∃ B', EX XWm B B' ∧ MBt B' 0 s' ∧ EV q 283 294 [some (.ref 367), some (vI c), some (vI x), some (vI bp), some (vI bl), none, none, none] [] B none B' := fun c bw bp bl E s hc hr hs => by
    have wd := wdV_rg c
    have r1 := wbLow_r (wdV c) 257 s hr
    have n1 := wbLow_n (wdV c) 257 s
    have hs0 := hr.1.1
    refine ⟨wbEnd (wbLow (wdV c) 257 s), ⟨wbEnd_r r1, by show (wbLow (wdV c) 257 s).1.1 ≤ _; omega⟩, fun A o x6 ho o3 hA h6 h => ?_, fun B hB h => ?_⟩
    · obtain ⟨A1, k1, k2, k3⟩ := cw_low_bits (q := q) (v := 257) (n := wdV c) (by decide) (by omega) ho (by decide) hr (by omega) h
      obtain ⟨A2, j1, j2, j3⟩ := cw_close (q := q) ho k3
      have k217 : EV q 48 217 [some (.ref 22), some (.ref 1), some (.ref o), some (vI c), some (vI bw), some (vI x), some (vI x6), none, none, none] [] A none A2 := vc_Plain_packWords_217 _ _ _ _ 1 6000 tr_row _ _ ho ⟨wdV c, A, cw_width (by omega), A1, k1, A2, j1, rfl, rfl⟩
      refine ⟨A2, EX.mono (k2.trans j2) (fun a k y => Or.inr y), j3, vc_Plain_packWords_28 _ _ _ _ 1 6000 tr_row _ _ ho ?_⟩
      rw [hA.1]
      exact ⟨fun _ => k217, fun _ => cY (Int.le_refl _) k217⟩
    · obtain ⟨B1, k1, k2, k3, -⟩ := mw_low_bits (q := q) (v := 257) (n := wdV c) (by decide) (by omega) hr (by omega) h
      obtain ⟨B2, j1, j2, j3, -⟩ := mw_fill (q := q) r1 k3
      exact ⟨B2, EX.mono (k2.trans j2) (fun a k y => Or.inl y), j3, vc_MD_packWords_294 _ _ _ _ ⟨wdV c, B, mw_width (by omega), B1, k1, B2, j1, rfl, rfl⟩⟩
  intro v
  induction v with
  | zero =>
    intro i c E bw bp bl s hv hi hc hW hp hr hs
    have e : i = x := by omega
    subst e
    obtain ⟨s', a1, a2, a3⟩ := fin c bw bp bl E s hc hr hs
    refine ⟨s', a1, fun A o x6 ho o3 hA _ h6 h => a2 A o x6 ho o3 hA h6 h, fun B hB _ h => ?_⟩
    obtain ⟨B', b1, b2, b3⟩ := a3 B hB h
    exact ⟨B', b1, b2, fun y => absurd y (by omega), fun _ => b3⟩
  | succ v ih =>
    intro i c E bw bp bl s hv hi hc hW hp hr hs
    by_cases ci : i = x
    · subst ci
      obtain ⟨s', a1, a2, a3⟩ := fin c bw bp bl E s hc hr hs
      refine ⟨s', a1, fun A o x6 ho o3 hA _ h6 h => a2 A o x6 ho o3 hA h6 h, fun B hB _ h => ?_⟩
      obtain ⟨B', b1, b2, b3⟩ := a3 B hB h
      exact ⟨B', b1, b2, fun y => absurd y (by omega), fun _ => b3⟩
    have hix : i < x := by omega
    have hW' := hW hix
    have hs0 := hr.1.1
    obtain ⟨w, m, hF, kw⟩ := cl_word (q := q) hx ht (by omega) hW' ⟨hi.1, hix⟩
    have m1 := Sw_1 hW' hF.1
    have hmx := hF.1.1
    have wr := Sw_rg hF.1
    have wd := wdV_rg c
    have wi : w32 i = i := w32_of (by omega)
    have wc0 : Unit → w32 (c : Int) = c := fun _ => w32_of (by omega)
    have wc1 : Unit → w32 ((c : Int) + 1) = c + 1 := fun _ => w32_of (by omega)
    have r1 := wbLow_r (wdV c) w s hr
    have n1 := wbLow_n (wdV c) w s
    obtain ⟨s1, es1⟩ : ∃ s1, s1 = wbLow (wdV c) w s := ⟨_, rfl⟩
    rw [← es1] at r1 n1
    have cl3 : c + 1 < 3838 ∨ c + 1 = 3838 := by omega
    -- the next state
    have nxt : ∃ (c2 : Nat) (E2 : Nat → Int × Int × Int) (s2 : Wb), (c2 < 3838 ∧ (i + m < x → WI t E2 c2 x) ∧ (0 < c2 → (E2 (c2 - 1)).1 = w ∧ (E2 (c2 - 1)).2.1 = i ∧ (E2 (c2 - 1)).2.2 = m + 1 ∧ i + m = i + m) ∧ wbR 0 s2 ∧ s2.1.1 ≤ 9 + 24 * (i + m)) ∧ (∀ (A : ms) (o : Nat), isRow o 12000 → 300 < o → TR t E c A → CBt A o 12000 s1 → ∃ A', EX (XWc o) A A' ∧ TR t E2 (c2 - 1) A' ∧ CBt A' o 12000 s2 ∧ ∀ (x5 x6 x8 x9 : Int) (R : Option Value) (T : ms), EV q 48 28 [some (.ref 22), some (.ref 1), some (.ref o), some (vI c2), some (vI w), some (vI x5), some (vI (x6 + 1)), none, none, none] [] A' R T → ((¬ w32 ((c : Int) + 1) = 3838) → EV q 48 211 [some (.ref 22), some (.ref 1), some (.ref o), some (vI ((c : Int) + 1)), some (vI w), some (vI x5), some (vI x6), some (vI w), some (vI x8), some (vI x9)] [] A R T) ∧ ((¬ (¬ w32 ((c : Int) + 1) = 3838)) → ∃ (z8 : Int) (S6 : ms), EV q 52 0 [some (vI ((c : Int) + 1)), none] [] A (some (vI z8)) S6 ∧ ∃ (S9 : ms), EV q 49 0 [some (.ref o), some (vI 256), some (vI z8), none, none, none, none, none] [] S6 none S9 ∧ ∃ (S11 : ms), EV q 11 0 [some (.ref 23), some (vI 0), none, none] [] S9 none S11 ∧ EV q 48 211 [some (.ref 22), some (.ref 1), some (.ref o), some (vI 0), some (vI w), some (vI x5), some (vI x6), some (vI w), some (vI x8), some (vI x9)] [] S11 R T)) ∧ ∀ (B : ms), TXm B x t → RE2 E c B → MBt B 0 s1 → ∃ B', EX XWb B B' ∧ RE2 E2 (c2 - 1) B' ∧ MBt B' 0 s2 ∧ ∀ (R : Option Value) (T : ms), ((i + m < x → EV q 283 46 [some (.ref 367), some (vI c2), some (vI (i + m)), some (vI i), some (vI m), none, none, none] [] B' R T) ∧ (i + m = x → EV q 283 294 [some (.ref 367), some (vI c2), some (vI (i + m)), some (vI i), some (vI m), none, none, none] [] B' R T)) → EV q 283 18 [some (.ref 367), some (vI ((c : Int) + 1)), some (vI (i + m)), some (vI i), some (vI m), none, none, none] [] B R T := by
      have wim : w32 (i + m) = i + m := w32_of (by omega)
      rcases cl3 with h3 | h3
      · refine ⟨c + 1, upW E c (w, i, m + 1), s1, ⟨h3, fun y => WI_up hW' hF y, fun _ => ?_, r1, by omega⟩, fun A o ho o3 hT h => ⟨A, EX.refl _ A, by rw [show c + 1 - 1 = c by omega]; exact TR_up hT, h, fun x5 x6 x8 x9 R T k => ?_⟩, fun B hB hE h => ⟨B, EX.refl _ B, fun e he => by rw [upW_no E c _ (by omega)]; exact hE e (by omega), h, fun R T k => vc_MD_packWords_18 _ _ _ _ ?_⟩⟩
        · rw [show c + 1 - 1 = c by omega, upW_at]
          exact ⟨rfl, rfl, rfl, rfl⟩
        · rw [wc1 ()]
          rw [show ((c + 1 : Nat) : Int) = (c : Int) + 1 by omega] at k
          exact cY (by omega) (vc_Plain_packWords_211 _ _ _ _ _ _ _ 1 6000 tr_row _ _ ho k)
        · rw [hB.1, wx, wim, wc1 ()]
          rw [show ((c + 1 : Nat) : Int) = (c : Int) + 1 by omega] at k
          by_cases cx : x ≤ i + m
          · exact cY cx (cY (by omega) (k.2 (by omega)))
          · exact cNo cx (cY (by omega) (k.1 (by omega)))
      · have wd2 := wdV_rg ((c : Int) + 1)
        have r2 := wbLow_r (wdV ((c : Int) + 1)) 256 s1 r1
        have n2 := wbLow_n (wdV ((c : Int) + 1)) 256 s1
        have c3 : (c : Int) + 1 = 3838 := by omega
        refine ⟨0, E, wbLow (wdV ((c : Int) + 1)) 256 s1, ⟨by decide, fun _ => ⟨fun e he => absurd he (by omega), fun e e' he => absurd he (by omega)⟩, fun y => absurd y (by decide), r2, by omega⟩, fun A o ho o3 hT h => ?_, fun B hB hE h => ?_⟩
        · obtain ⟨A1, k1, k2, k3⟩ := cw_low_bits (q := q) (v := 256) (n := wdV ((c : Int) + 1)) (by decide) (by omega) ho (by decide) r1 (by omega) h
          have kf := sp_fillI (q := q) (S := A1) (c := 23) (n1 := 4096) rfl (by decide) 0
          have xf : EX (XWc o) A1 (wC A1 23 0 (4096 : Nat) (fun _ => 0)) := ⟨rfl, fun a k y => wC_ne _ _ _ _ (fun z => y (Or.inl (by omega)))⟩
          refine ⟨wC A1 23 0 (4096 : Nat) (fun _ => 0), (EX.mono k2 (fun a k y => Or.inr y)).trans xf, ⟨fun u hu => ?_, fun e he => absurd he (by omega)⟩, CBt_w o3 k3 (fun a k y => wC_ne _ _ _ _ (by omega)), fun x5 x6 x8 x9 R T k => ?_⟩
          · rw [wC_in _ (by omega) (by omega)]
            rfl
          · rw [wc1 ()]
            exact cNN c3 ⟨wdV ((c : Int) + 1), A, cw_width (by omega), A1, k1, _, kf, vc_Plain_packWords_211 _ _ _ _ _ _ _ 1 6000 tr_row _ _ ho k⟩
        · obtain ⟨B1, k1, k2, k3, -⟩ := mw_low_bits (q := q) (v := 256) (n := wdV ((c : Int) + 1)) (by decide) (by omega) r1 (by omega) h
          refine ⟨B1, k2, fun e he => absurd he (by omega), k3, fun R T k => vc_MD_packWords_18 _ _ _ _ ?_⟩
          rw [hB.1, wx, wim, wc1 ()]
          by_cases cx : x ≤ i + m
          · exact cY cx (cNN c3 ⟨wdV ((c : Int) + 1), B, mw_width (by omega), B1, k1, k.2 (by omega)⟩)
          · exact cNo cx (cNN c3 ⟨wdV ((c : Int) + 1), B, mw_width (by omega), B1, k1, k.1 (by omega)⟩)
    obtain ⟨c2, E2, s2, ⟨d1, d2, d3, d4, d5⟩, dc, dm⟩ := nxt
    obtain ⟨s', a1, a2, a3⟩ := ih (i + m) c2 E2 w i m s2 (by omega) (by omega) d1 d2 d3 d4 d5
    refine ⟨s', a1, fun A o x6 ho o3 hA hT h6 h => ?_, fun B hB hE h => ?_⟩
    · -- the class
      have ad : ∃ A1, EX (fun a _ => 23 ≤ a ∧ a ≤ 25) A A1 ∧ TR t E c A1 ∧ ∀ (R : Option Value) (T : ms), EV q 48 68 [some (.ref 22), some (.ref 1), some (.ref o), some (vI c), some (vI bw), some (vI i), some (vI x6), none, none, none] [] A1 R T → EV q 48 28 [some (.ref 22), some (.ref 1), some (.ref o), some (vI c), some (vI bw), some (vI i), some (vI x6), none, none, none] [] A R T := by
        by_cases c0 : c = 0
        · refine ⟨A, EX.refl _ A, ?_, fun R T k => vc_Plain_packWords_28 _ _ _ _ 1 6000 tr_row _ _ ho ?_⟩
          · have := hT hix
            rw [c0] at this ⊢
            exact this
          · rw [hA.1, wx, wi, wc0 (), w32_of (x := x6) (by omega)]
            exact cNo (by omega) (cNo (by omega) (cY (by omega) k))
        · obtain ⟨cc, ecc⟩ : ∃ cc, c = cc + 1 := ⟨c - 1, by omega⟩
          obtain ⟨p1, p2, p3, p4⟩ := hp (by omega)
          have hT' := hT hix
          rw [ecc, show cc + 1 - 1 = cc by omega] at p1 p2 p3 hT'
          have pw := WI_pa hW' cc (by omega)
          rw [p1] at pw
          obtain ⟨A1, k1, k2, k3⟩ := cl_addw (q := q) (fun e he => by have := WI_pa hW' e (by omega); omega) (by omega) p1 pw hT'
          have el : laE t E cc = t i := by
            unfold laE
            rw [p2, p3, show bp + (bl + 1) - 1 = i by omega]
          rw [el] at k3
          refine ⟨A1, k1, by rw [ecc]; exact k2, fun R T k => vc_Plain_packWords_28 _ _ _ _ 1 6000 tr_row _ _ ho ?_⟩
          rw [hA.1, wx, wi, wc0 (), w32_of (x := x6) (by omega)]
          refine cNo (by omega) (cNo (by omega) (cNo (by omega) ⟨by omega, A1, ?_, k⟩))
          rw [show A.1 (1 + 1) i = t i from (hA.2 i hi.1 hix).2, show (257 : Int) + (c : Int) = 258 + (cc : Int) by omega]
          exact k3
      obtain ⟨A1, b1, b2, b3⟩ := ad
      have hA1 : TXc A1 x t := TXc_e hA (fun a k y => b1.2 a k (by omega))
      have h1 : CBt A1 o 12000 s := CBt_w o3 h (fun a k y => b1.2 a k y)
      obtain ⟨A2, k1, k2, k3⟩ := cw_low_bits (q := q) (v := w) (n := wdV c) (by omega) (by omega) ho (by decide) hr (by omega) h1
      rw [← es1] at k3
      have hA2 : TXc A2 x t := TXc_e hA1 (fun a k y => k2.2 a k (by unfold XRb; omega))
      have hT2 : TR t E c A2 := TR_e b2 (fun a k y => k2.2 a k (by unfold XRb; omega))
      obtain ⟨A3, l1, l2, l3, l4⟩ := dc A2 o ho o3 hT2 k3
      have hA3 : TXc A3 x t := TXc_e hA2 (fun a k y => l1.2 a k (by unfold XWc XRb; omega))
      obtain ⟨A', g1, g2, g3⟩ := a2 A3 o (x6 + 1) ho o3 hA3 (fun _ => l2) (by omega) l3
      have xx : EX (XWc o) A A' := (((EX.mono b1 (fun a k y => Or.inl y)).trans (EX.mono k2 (fun a k y => Or.inr y))).trans l1).trans g1
      exact ⟨A', xx, g2, b3 _ _ (kw A1 o c bw x6 _ _ ho hA1 b2 (vc_Plain_packWords_166 _ _ _ _ _ _ _ 1 6000 tr_row _ _ ho ⟨wdV c, A1, cw_width (by omega), A2, k1, l4 (i + m) x6 0 (m - 1) _ _ g3⟩))⟩
    · -- the reference
      have hB0 := hB.1
      obtain ⟨B1, k1, k2, k3, -⟩ := mw_low_bits (q := q) (v := w) (n := wdV c) (by omega) (by omega) hr (by omega) h
      rw [← es1] at k3
      have hB1 : TXm B1 x t := TXm_e hB (fun a k y => k2.2 a k (by unfold XWb; omega))
      have hE1 : RE2 E (c - 1) B1 := RE2_e hE (fun a k y => k2.2 a k (by unfold XWb; omega))
      -- the pending entry is written
      have ad : ∃ B2, EX (fun a _ => a = 383 ∨ a = 384) B1 B2 ∧ RE2 E c B2 ∧ ∀ (x7 : Int) (R : Option Value) (T : ms), (0 < c → x7 = bl + 1) → EV q 283 257 [some (.ref 367), some (vI c), some (vI i), some (vI bp), some (vI bl), some (vI w), some (vI m), some (vI x7)] [] B2 R T → EV q 283 223 [some (.ref 367), some (vI c), some (vI i), some (vI bp), some (vI bl), some (vI w), some (vI m), some (vI x7)] [] B R T := by
        by_cases c0 : c = 0
        · refine ⟨B1, EX.refl _ B1, fun e he => absurd he (by omega), fun x7 R T _ k => vc_MD_packWords_223 _ _ _ _ _ _ _ ⟨wdV c, B, mw_width (by omega), B1, ?_, ?_⟩⟩
          · rw [w32_of (x := w) (by omega)]; exact k1
          · rw [wc0 ()]
            exact cY (by omega) k
        · obtain ⟨p1, p2, p3, p4⟩ := hp (by omega)
          have wcm : w32 ((c : Int) - 1) = c - 1 := w32_of (by omega)
          refine ⟨wI (wI B1 383 ((c : Int) - 1) bp) 384 ((c : Int) - 1) (bl + 1), ((EX.refl _ B1).wr (by omega)).wr (by omega), fun e he => ?_, fun x7 R T h7 k => vc_MD_packWords_223 _ _ _ _ _ _ _ ⟨wdV c, B, mw_width (by omega), B1, ?_, ?_⟩⟩
          · by_cases ee : e = c - 1
            · have e1 : (e : Int) = (c : Int) - 1 := by omega
              rw [ee, p2, p3, ← ee, e1, wI_no _ (by omega), wI_at, wI_at]
              exact ⟨rfl, rfl⟩
            · rw [wI_no _ (by omega), wI_no _ (by omega), wI_no _ (by omega), wI_no _ (by omega)]
              exact hE1 e (by omega)
          · rw [w32_of (x := w) (by omega)]; exact k1
          · rw [wc0 (), wcm]
            rw [h7 (by omega)] at k ⊢
            exact cNo (by omega) ⟨by omega, fun S7 q7 => ⟨by omega, fun S9 q9 => by rw [q9, q7]; exact k⟩⟩
      obtain ⟨B2, b1, b2, b3⟩ := ad
      have hB2 : TXm B2 x t := TXm_e hB1 (fun a k y => b1.2 a k (by omega))
      have h2 : MBt B2 0 s1 := MBt_cg k3 (fun a k y => b1.2 a k (by unfold XWb at y; omega))
      obtain ⟨B3, l1, l2, l3, l4⟩ := dm B2 hB2 b2 h2
      have hB3 : TXm B3 x t := TXm_e hB2 (fun a k y => l1.2 a k (by unfold XWb; omega))
      obtain ⟨B', g1, g2, g3, g4⟩ := a3 B3 hB3 l2 l3
      refine ⟨B', ((EX.mono k2 (fun a k y => Or.inl y)).trans (EX.mono b1 (fun a k y => Or.inr y))).trans ((EX.mono l1 (fun a k y => Or.inl y)).trans g1), g2, fun _ => ?_, fun y => absurd y ci⟩
      refine md_word (q := q) hx ht (by omega) hW' ⟨hi.1, hix⟩ (fun y => (hp y).2) hF B none B' hB hE (fun x7 h7 => b3 x7 none B' h7 ?_)
      exact vc_MD_packWords_257 _ _ _ _ _ _ _ (l4 none B' ⟨g3, g4⟩)
theorem jp_words (hx : 0 ≤ x ∧ x ≤ 6000) (ht : ∀ k : Int, 0 ≤ k → k < x → 0 ≤ t k ∧ t k < 256) : JP q IC 2 0 x t := by
  have r0 : wbR 0 (w00, 0) := ⟨⟨by decide, w00_O⟩, by decide, fun y => absurd rfl y⟩
  have r1 := wbLow_r 9 256 (w00, 0) r0
  have n1 := wbLow_n 9 256 (w00, 0)
  have n0 : (0 : Int) ≤ (wbLow 9 256 (w00, 0)).1.1 ∧ (wbLow 9 256 (w00, 0)).1.1 ≤ 0 + 9 := n1
  obtain ⟨s1, es1⟩ : ∃ s1, s1 = wbLow 9 256 (w00, 0) := ⟨_, rfl⟩
  rw [← es1] at r1 n0
  obtain ⟨s', a1, a2, a3⟩ := jp_wl (q := q) hx ht x.toNat 0 0 (fun _ => (0, 0, 0)) 0 0 0 s1 (by omega) (by omega) (by decide) (fun _ => ⟨fun e he => absurd he (by omega), fun e e' he => absurd he (by omega)⟩) (fun y => absurd y (by decide)) r1 (by omega)
  have s0 := a1.1.1.1
  refine ⟨s'.1, fun _ => (0, 0, 0), 0, 0, ⟨⟨by omega, a1.1.1.2⟩, by decide, fun _ => rfl, fun _ => rfl⟩, fun A o ho o3 _ hA h h8 => ?_, fun B _ hK hB h => ?_⟩
  · have kf := sp_fillI (q := q) (S := A) (c := 23) (n1 := 4096) rfl (by decide) 0
    obtain ⟨A0, e0⟩ : ∃ A0, A0 = wC A 23 0 (4096 : Nat) (fun _ => 0) := ⟨_, rfl⟩
    rw [← e0] at kf
    have at0 : ∀ (a : Nat) (k : Int), a ≠ 23 → A0.1 a k = A.1 a k := fun a k y => by rw [e0, wC_ne _ _ _ _ y]
    have x0 : EX (XWc o) A A0 := ⟨by rw [e0]; rfl, fun a k y => at0 a k (fun z => y (Or.inl (by omega)))⟩
    have h0 : CBt A0 o 12000 (w00, 0) := CBt_w o3 h (fun a k y => at0 a k (by omega))
    obtain ⟨A1, k1, k2, k3⟩ := cw_low_bits (q := q) (v := 256) (n := 9) (by decide) (by decide) ho (by decide) r0 (by decide) h0
    rw [← es1] at k3
    have hA1 : TXc A1 x t := TXc_e hA (fun a k y => by rw [k2.2 a k (by unfold XRb; omega), at0 a k (by omega)])
    obtain ⟨A', g1, g2, g3⟩ := a2 A1 o 0 ho o3 hA1 (fun _ => ⟨fun u hu => by rw [k2.2 23 u (by unfold XRb; omega), e0, wC_in _ (by omega) (by omega)]; rfl, fun e he => absurd he (by omega)⟩) (by decide) k3
    have xx : EX (XWc o) A A' := (x0.trans (EX.mono k2 (fun a k y => Or.inr y))).trans g1
    refine ⟨A', A.2.2 10 2, 0, fun _ => rfl, by rw [wR_id]; exact (EX.mono xx (fun a k y => by unfold XWc XRb at y; unfold XPa XRb; omega)).ey, g2.1, ⟨by rw [xx.2 10 8 (by unfold XWc XRb; omega)]; exact h8, fun k k0 k1 => absurd k0 (by omega)⟩, vc_PH_packKind _ _ _ _ ho ⟨fun c => absurd c (by decide), fun _ => ⟨A', vc_Plain_packWords 1 6000 tr_row _ _ ho ⟨A0, kf, A1, k1, g3⟩, rfl, rfl⟩, fun c => absurd c (by decide), fun c => absurd c (by decide), fun c => absurd c (by decide), fun c => absurd c (by decide), fun c => absurd c (by decide), fun c => absurd c (by decide), fun c => absurd c (by decide), fun _ c => absurd (by decide) c⟩⟩
  · obtain ⟨B1, k1, k2, k3, -⟩ := mw_low_bits (q := q) (v := 256) (n := 9) (by decide) (by decide) r0 (by decide) h
    rw [← es1] at k3
    have hB1 : TXm B1 x t := TXm_e hB (fun a k y => k2.2 a k (by unfold XWb; omega))
    obtain ⟨B', g1, g2, g3, g4⟩ := a3 B1 hB1 (fun e he => absurd he (by omega)) k3
    have xx : EX XWm B B' := (EX.mono k2 (fun a k y => Or.inl y)).trans g1
    have k18 : EV q 283 18 [some (.ref 367), some (vI 0), some (vI 0), some (vI 0), some (vI 0), none, none, none] [] B1 none B' := by
      refine vc_MD_packWords_18 _ _ _ _ ?_
      rw [hB1.1, w32_of (x := x) (by omega), show w32 0 = 0 by decide]
      by_cases cx : x ≤ 0
      · exact cY cx (cY (by decide) (g4 (by omega)))
      · exact cNo cx (cY (by decide) (g3 (by omega)))
    exact ⟨B', (EX.mono xx (fun a k y => by unfold XWm XWb at y; unfold XPb; omega)).ey, TbK_ey hK xx.ey (fun a k y => by unfold XWm XWb at y; omega), g2.1, fun c => absurd c (by unfold tkK; decide), fun c => absurd c (by decide), vc_MD_packAs _ _ ⟨fun c => absurd c (by decide), fun _ => ⟨B', vc_MD_packWords ⟨B1, k1, k18⟩, rfl, rfl⟩, fun c => absurd c (by decide), fun c => absurd c (by decide), fun c => absurd c (by decide), fun c => absurd c (by decide), fun c => absurd c (by decide), fun c => absurd c (by decide), fun c => absurd c (by decide), fun _ c => absurd (by decide) c⟩⟩
end PWordsC
