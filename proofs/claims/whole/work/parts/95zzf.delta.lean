/-! delta: the loop on both sides -/
section Delta4
variable {q : Nat × (Nat → Int32)}
/-- octets, all of them -/
def wtO (w : Wt) : Prop := ∀ k : Int, 0 ≤ w.2 k ∧ w.2 k < 256
theorem wtO_put {w : Wt} (v : Int) (h : wtO w) : wtO (wtPut v w) := fun k => by
  show 0 ≤ (if k = w.1 then v % 256 else w.2 k) ∧ (if k = w.1 then v % 256 else w.2 k) < 256
  split
  · omega
  · exact h k
theorem wtO_puts {w : Wt} (f : Nat → Int) (h : wtO w) : ∀ n : Nat, wtO (wtPuts f n w)
  | 0 => h
  | n + 1 => wtO_put _ (wtO_puts f h n)
theorem wtO_sev : ∀ (n : Nat) (v : Int) {w : Wt}, wtO w → wtO (wtSev n v w)
  | 0, v, _, h => wtO_put v h
  | n + 1, v, w, h => by
    rw [wtSev_s]
    split
    · exact wtO_put v h
    · exact wtO_sev n _ (wtO_put _ h)
theorem wtO_lit {w : Wt} {G : Int → Int} {a : Int} {n : Nat} (h : wtO w) : wtO (litw G a n w) := by
  unfold litw
  split
  · exact h
  · exact wtO_puts _ (wtO_put _ (wtO_put _ h)) _
theorem wtO_pl {w : Wt} {G : Int → Int} {a : Int} (h : wtO w) : ∀ j : Nat, wtO (plW G a j w)
  | 0 => h
  | j + 1 => by
    rw [plW_s]
    exact wtO_lit (wtO_pl h j)
/-- what the class's loop stands on -/
def DCc (A : ms) (o a1 c n1 : Nat) (F G : Int → Int) (n m : Int) : Prop := (isRow a1 12000 ∧ isRow o 12000 ∧ SH c = (0, n1, []) ∧ n ≤ n1) ∧ (300 < a1 ∧ 300 < c ∧ 300 < o) ∧ (a1 ≠ o ∧ a1 + 1 ≠ o ∧ a1 ≠ o + 1 ∧ c ≠ o ∧ c ≠ o + 1) ∧ A.2.2 10 2 = c ∧ A.1 10 3 = n ∧ A.1 a1 1 = m ∧ (∀ k : Int, 0 ≤ k → k < n → (0 ≤ F k ∧ F k < 256) ∧ A.1 c k = F k) ∧ (∀ k : Int, 0 ≤ k → k < m → (0 ≤ G k ∧ G k < 256) ∧ A.1 (a1 + 1) k = G k) ∧ HC A (eh F) 0 (n - 8)
def DCm (B : ms) (s t : Int) (F G : Int → Int) (n m : Int) : Prop := (1 ≤ s ∧ s ≤ 12) ∧ (1 ≤ t ∧ t ≤ 12) ∧ (∀ k : Int, 0 ≤ k → k < n → (0 ≤ F k ∧ F k < 256) ∧ B.1 369 (12000 * s + k) = b8 (F k)) ∧ ∀ k : Int, 0 ≤ k → k < m → (0 ≤ G k ∧ G k < 256) ∧ B.1 369 (12000 * t + k) = b8 (G k)
def XC (o : Nat) (a : Nat) (k : Int) : Prop := XRo o a k ∨ X4 a k
theorem DCc_ex {A U : ms} {o a1 c n1 : Nat} {F G : Int → Int} {n m : Int} (h : DCc A o a1 c n1 F G n m) (e : EX (XC o) A U) : DCc U o a1 c n1 F G n m := by
  obtain ⟨h1, h2, h3, h4, h5, h6, h7, h8, h9⟩ := h
  have at' : ∀ (a : Nat) (k : Int), a ≠ o → a ≠ o + 1 → ¬ (a = 10 ∧ k = 4) → U.1 a k = A.1 a k := fun a k n1 n2 n3 => e.2 a k (by unfold XC XRo X4; omega)
  refine ⟨h1, h2, h3, by rw [e.1]; exact h4, by rw [at' _ _ (by omega) (by omega) (by omega)]; exact h5, by rw [at' _ _ h3.1 h3.2.2.1 (by omega)]; exact h6, fun k k0 k1 => by rw [at' _ _ h3.2.2.2.1 h3.2.2.2.2 (by omega)]; exact h7 k k0 k1, fun k k0 k1 => by rw [at' _ _ h3.2.1 (by omega) (by omega)]; exact h8 k k0 k1, ?_, ?_⟩
  · intro hh y0 y1
    rw [at' _ _ (by omega) (by omega) (by omega)]
    exact h9.1 hh y0 y1
  · intro p y0 y1
    rw [at' _ _ (by omega) (by omega) (by omega)]
    exact h9.2 p y0 y1
theorem DCm_ex {B U : ms} {s t : Int} {F G : Int → Int} {n m : Int} (h : DCm B s t F G n m) (e : EX XL B U) : DCm U s t F G n m := by
  obtain ⟨h1, h2, h3, h4⟩ := h
  have at' : ∀ k : Int, U.1 369 k = B.1 369 k := fun k => e.2 _ _ (by unfold XL; omega)
  exact ⟨h1, h2, fun k k0 k1 => by rw [at']; exact h3 k k0 k1, fun k k0 k1 => by rw [at']; exact h4 k k0 k1⟩
theorem XR_XC (o : Nat) : ∀ a k, XRo o a k → XC o a k := fun _ _ h => Or.inl h
/-- how the reference ends -/
def dEnd (q : Nat × (Nat → Int32)) (B1 : ms) (rr : Option Value) (T : ms) : Prop := (w32 (B1.1 367 9) ≤ 12000 → ∃ (z : Int) (S3 : ms), EV q 328 0 [some (.ref 367), some (.ref 374), some (vI 0), some (vI (B1.1 367 9)), none, none] [] B1 (some (vI z)) S3 ∧ rr = some (vI z) ∧ T = S3) ∧ (¬ w32 (B1.1 367 9) ≤ 12000 → rr = some (vI (-4)) ∧ T = B1)
theorem dl_loop {F G : Int → Int} {n m : Int} (hn : 0 ≤ n ∧ n ≤ 12000) (hm : 0 ≤ m ∧ m ≤ 12000) : ∀ (v : Nat) (p fm : Int) (j r : Nat) (w : Wt), m - p ≤ v → p ≤ m → 0 ≤ fm → p = fm + 200 * j + r → r ≤ 200 → (0 ≤ w.1 ∧ w.1 ≤ 9 + 2 * fm) → wtO w → ∃ w' : Wt, ((0 ≤ w'.1 ∧ w'.1 < 100000) ∧ wtO w') ∧ (∀ (A : ms) (o a1 a2 c n1 : Nat) (x6 : Int), DCc A o a1 c n1 F G n m → isRow a2 12000 → (0 ≤ x6 ∧ x6 ≤ p) → CWt A o 12000 (plW G fm j w) → ∃ A', EV q 215 43 [some (.ref 29), some (.ref a2), some (.ref a1), some (.ref o), some (vI (fm + 200 * j)), some (vI p), some (vI x6), none] [] A none A' ∧ EX (XC o) A A' ∧ CWt A' o 12000 w') ∧ ∀ (B : ms) (s t : Int) (rr : Option Value) (P : ms → Prop), DCm B s t F G n m → MWt B w → (∀ B1, EX XL B B1 → MWt B1 w' → ∃ T, dEnd q B1 rr T ∧ P T) → ∃ T, EV q 403 86 [some (.ref 367), some (vI s), some (vI t), some (vI n), some (vI m), some (vI p), some (vI fm)] [] B rr T ∧ P T := by
  have wm : w32 m = m := w32_of (by omega)
  -- at the end
  have fin : ∀ (fm : Int) (j r : Nat) (w : Wt), 0 ≤ fm → m = fm + 200 * j + r → r ≤ 200 → (0 ≤ w.1 ∧ w.1 ≤ 9 + 2 * fm) → wtO w → ∃ w' : Wt, ((0 ≤ w'.1 ∧ w'.1 < 100000) ∧ wtO w') ∧ (∀ (A : ms) (o a1 a2 c n1 : Nat) (x6 : Int), DCc A o a1 c n1 F G n m → isRow a2 12000 → (0 ≤ x6 ∧ x6 ≤ m) → CWt A o 12000 (plW G fm j w) → ∃ A', EV q 215 43 [some (.ref 29), some (.ref a2), some (.ref a1), some (.ref o), some (vI (fm + 200 * j)), some (vI m), some (vI x6), none] [] A none A' ∧ EX (XC o) A A' ∧ CWt A' o 12000 w') ∧ ∀ (B : ms) (s t : Int) (rr : Option Value) (P : ms → Prop), DCm B s t F G n m → MWt B w → (∀ B1, EX XL B B1 → MWt B1 w' → ∃ T, dEnd q B1 rr T ∧ P T) → ∃ T, EV q 403 86 [some (.ref 367), some (vI s), some (vI t), some (vI n), some (vI m), some (vI m), some (vI fm)] [] B rr T ∧ P T := by
    intro fm j r w f0 em r2 hw ho
    have pw := plW_1 G fm w j
    have lw := litw_1 G (fm + 200 * j) r (plW G fm j w)
    refine ⟨litw G (fm + 200 * j) r (plW G fm j w), ⟨by omega, wtO_lit (wtO_pl ho _)⟩, fun A o a1 a2 c n1 x6 hD ha2 hx h => ?_, fun B s t rr P hD h nx => ?_⟩
    · obtain ⟨d1, d2, d3, d4, d5, d6, d7, d8, d9⟩ := id hD
      obtain ⟨A', k1, k2, k3⟩ := cw_lit (q := q) (A := A) (G := G) (a := fm + 200 * j) (m := m) (n := r) d1.1 d1.2.1 d3.2.1 (by omega) (by omega) hm.2 d8 d3.1 (by omega) h
      rw [← em] at k1
      have k153 : EV q 215 153 [some (.ref 29), some (.ref a2), some (.ref a1), some (.ref o), some (vI (fm + 200 * j)), some (vI m), some (vI x6), none] [] A none A' := vc_Copies_packDelta_153 _ _ _ _ _ ha2 _ _ d1.1 _ _ d1.2.1 ⟨A', by rw [d6]; exact k1, rfl, rfl⟩
      refine ⟨A', vc_Copies_packDelta_43 _ _ _ _ _ ha2 _ _ d1.1 _ _ d1.2.1 ?_, k2.mono (XR_XC o), k3⟩
      rw [d6, wm]
      exact ⟨fun _ => k153, fun _ => cY (Int.le_refl _) k153⟩
    · obtain ⟨B1, k1, k2, k3⟩ := mw_plain (q := q) (B := B) (G := G) (a := fm) (m := m) (j := j) (r := r) hD.2.1 f0 (by omega) r2 hm.2 hD.2.2.2 (by omega) h
      rw [← em] at k1
      obtain ⟨T, g1, g2⟩ := nx B1 (k2.mono XW_XL) k3
      exact ⟨T, vc_MD_delta_86 _ _ _ _ _ _ (cY (Int.le_refl _) ⟨B1, k1, g1⟩), g2⟩
  intro v
  induction v with
  | zero =>
    intro p fm j r w hv hp f0 ep r2 hw hO
    have e : p = m := by omega
    subst e
    exact fin fm j r w f0 ep r2 hw hO
  | succ v ih =>
    intro p fm j r w hv hp f0 ep r2 hw hO
    by_cases cm : m ≤ p
    · have e : p = m := by omega
      subst e
      exact fin fm j r w f0 ep r2 hw hO
    have wp : w32 p = p := w32_of (by omega)
    have pw := plW_1 G fm w j
    -- is there a like piece of 8 or more?
    by_cases cb : ∃ len pos, BM F G n m p len pos ∧ 8 ≤ len
    · obtain ⟨len, pos, hB, l8⟩ := cb
      have rng : ∀ z ps, D8 F G n m p z ps → z = len ∧ ps = pos := fun z ps hd => by
        rcases D8_BM hd hB with ⟨y1, _⟩ | ⟨_, y2, y3, _⟩
        · omega
        · exact ⟨y2, y3⟩
      have lr : p + len ≤ m ∧ 0 ≤ pos ∧ pos < n := by
        rcases hB with ⟨y1, _⟩ | ⟨_, y2, y3, _⟩
        · omega
        · exact ⟨y3.1.2.2, y2⟩
      obtain ⟨w1, ew1⟩ : ∃ w1, w1 = litw G (fm + 200 * j) r (plW G fm j w) := ⟨_, rfl⟩
      have lw := litw_1 G (fm + 200 * j) r (plW G fm j w)
      rw [← ew1] at lw
      obtain ⟨w2, ew2⟩ : ∃ w2, w2 = wtSev 4 len (wtPut 1 w1) := ⟨_, rfl⟩
      have s2 := wtSev_1 4 len (wtPut 1 w1)
      rw [← ew2, wtPut_1] at s2
      obtain ⟨w3, ew3⟩ : ∃ w3, w3 = wtSev 4 pos w2 := ⟨_, rfl⟩
      have s3 := wtSev_1 4 pos w2
      rw [← ew3] at s3
      obtain ⟨w', hw', gc, gm⟩ := ih (p + len) (p + len) 0 0 w3 (by omega) lr.1 (by omega) (by omega) (by omega) (by omega) (by rw [ew3, ew2, ew1]; exact wtO_sev _ _ (wtO_sev _ _ (wtO_put _ (wtO_lit (wtO_pl hO _)))))
      refine ⟨w', hw', fun A o a1 a2 c n1 x6 hD ha2 hx h => ?_, fun B s t rr P hD h nx => ?_⟩
      · obtain ⟨d1, d2, d3, d4, d5, d6, d7, d8, d9⟩ := id hD
        obtain ⟨z, ps, A1, y1, y2, y3, y4⟩ := cf_long (q := q) (A := A) (a1 := a1) (c := c) (n1 := n1) (F := F) (G := G) (n := n) (m := m) (i := p) d1.1 d1.2.2.1 d1.2.2.2 d2.1 d2.2.1 hn hm (by omega) d4 d5 d6 d7 d8 d9
        obtain ⟨ez, ep'⟩ := rng z ps y1
        subst ez ep'
        have wz : w32 z = z := w32_of (by omega)
        have x1 : EX (XC o) A A1 := y3.mono (fun _ _ y => Or.inr y)
        have h1 : CWt A1 o 12000 (plW G fm j w) := CWt_cg h (fun a k y => y3.2 a k (by unfold XRo at y; unfold X4; omega))
        obtain ⟨A2, k1, k2, k3⟩ := cw_lit (q := q) (A := A1) (G := G) (a := fm + 200 * j) (m := m) (n := r) d1.1 d1.2.1 d3.2.1 (by omega) (by omega) hm.2 (DCc_ex hD x1).2.2.2.2.2.2.2.1 d3.1 (by omega) h1
        rw [← ep] at k1
        rw [← ew1] at k3
        obtain ⟨A3, k4, k5, k6⟩ := cw_put (q := q) 1 d1.2.1 (by decide) (by omega) k3
        obtain ⟨A4, k7, k8, k9⟩ := cw_sev (q := q) (v := z) (by omega) d1.2.1 (by decide) (by rw [wtPut_1]; omega) k6
        rw [← ew2] at k9
        obtain ⟨A5, k10, k11, k12⟩ := cw_sev (q := q) (v := ps) (by omega) d1.2.1 (by decide) (by omega) k9
        rw [← ew3] at k12
        have x2 : EX (XC o) A A5 := ((((x1.trans (k2.mono (XR_XC o))).trans (k5.mono (XR_XC o))).trans (k8.mono (XR_XC o)))).trans (k11.mono (XR_XC o))
        obtain ⟨A', g1, g2, g3⟩ := gc A5 o a1 a2 c n1 (x6 + 1) (DCc_ex hD x2) ha2 (by omega) k12
        rw [show p + z + 200 * ((0 : Nat) : Int) = p + z by omega] at g1
        have f10 : A4.1 10 4 = ps := by
          rw [k8.2 _ _ (by unfold XRo; omega), k5.2 _ _ (by unfold XRo; omega), k2.2 _ _ (by unfold XRo; omega)]
          exact y4 l8
        have mx : max (w32 1) (w32 z) = z := by
          rw [wz, show w32 1 = 1 by decide]
          omega
        have k136 : EV q 215 136 [some (.ref 29), some (.ref a2), some (.ref a1), some (.ref o), some (vI (p + z)), some (vI p), some (vI x6), some (vI z)] [] A5 none A' := by
          refine vc_Copies_packDelta_136 _ _ _ _ _ _ ha2 _ _ d1.1 _ _ d1.2.1 ?_
          rw [mx]
          exact g1
        have k102 : EV q 215 102 [some (.ref 29), some (.ref a2), some (.ref a1), some (.ref o), some (vI p), some (vI p), some (vI x6), some (vI z)] [] A2 none A' := by
          refine vc_Copies_packDelta_102 _ _ _ _ _ _ ha2 _ _ d1.1 _ _ d1.2.1 ?_
          rw [wz]
          refine cNo (by omega) ⟨A3, k4, A4, k7, A5, ?_, k136⟩
          rw [f10]
          exact k10
        have k89 := vc_Copies_packDelta_89 _ _ _ _ _ _ ha2 _ _ d1.1 _ _ d1.2.1 ⟨A2, k1, k102⟩
        refine ⟨A', vc_Copies_packDelta_43 _ _ _ _ _ ha2 _ _ d1.1 _ _ d1.2.1 ?_, x2.trans g2, g3⟩
        have wx : w32 x6 = x6 := w32_of (by omega)
        rw [d6, wm, wx, wp]
        refine cNo (by omega) (cNo cm ⟨z, A1, y2, ?_⟩)
        rw [wz]
        exact cY (by omega) k89
      · obtain ⟨len', pos', B1, y1, y2, y3, y4, y5⟩ := md_like (q := q) (B := B) hD.1 hD.2.1 hn hm (i := p) (by omega) hD.2.2.1 hD.2.2.2
        have eq : len' = len ∧ pos' = pos := by
          have a1 : len' = len := by
            rcases y1 with ⟨u1, u2⟩ | ⟨u1, u2, u3, u4, u5⟩
            · rcases hB with ⟨v1, v2⟩ | ⟨v1, v2, v3, v4, v5⟩
              · omega
              · have := u2 pos len v2.1 v2.2 v3
                omega
            · rcases hB with ⟨v1, v2⟩ | ⟨v1, v2, v3, v4, v5⟩
              · omega
              · have b1 := u5 pos len v2.1 v2.2 v3
                have b2 := v5 pos' len' u2.1 u2.2 u3
                omega
          subst a1
          refine ⟨rfl, ?_⟩
          rcases y1 with ⟨u1, u2⟩ | ⟨u1, u2, u3, u4, u5⟩
          · omega
          · rcases hB with ⟨v1, v2⟩ | ⟨v1, v2, v3, v4, v5⟩
            · omega
            · apply Classical.byContradiction
              intro ne
              by_cases c : pos < pos'
              · have := u4 pos len' v2.1 c v3
                omega
              · have := v4 pos' len' u2.1 (by omega) u3
                omega
        obtain ⟨el, epo⟩ := eq
        subst el epo
        have xl : EX XL B B1 := y3.mono (fun a k y => by unfold XL; omega)
        have h1 : MWt B1 w := MWt_cg h (fun a k y => y3.2 a k (by unfold XW at y; omega))
        have hD1 := DCm_ex hD xl
        obtain ⟨B2, k1, k2, k3⟩ := mw_plain (q := q) (B := B1) (G := G) (a := fm) (m := m) (j := j) (r := r) hD.2.1 f0 (by omega) r2 hm.2 hD1.2.2.2 (by omega) h1
        rw [← ep] at k1
        rw [← ew1] at k3
        obtain ⟨B3, k4, k5, k6⟩ := mw_put (q := q) 1 (by omega) k3
        obtain ⟨B4, k7, k8, k9⟩ := mw_sev (q := q) (v := len') (by omega) (by rw [wtPut_1]; omega) k6
        rw [← ew2] at k9
        obtain ⟨B5, k10, k11, k12⟩ := mw_sev (q := q) (v := pos') (by omega) (by omega) k9
        rw [← ew3] at k12
        have x2 : EX XL B B5 := ((((xl.trans (k2.mono XW_XL)).trans (k5.mono XW_XL)).trans (k8.mono XW_XL))).trans (k11.mono XW_XL)
        have e3 : B3.1 367 26 = len' := by rw [k5.2 _ _ (by unfold XW; omega), k2.2 _ _ (by unfold XW; omega), y4]
        have e4 : B4.1 367 27 = pos' := by rw [k8.2 _ _ (by unfold XW; omega), k5.2 _ _ (by unfold XW; omega), k2.2 _ _ (by unfold XW; omega), y5]
        have e5 : B5.1 367 26 = len' := by rw [k11.2 _ _ (by unfold XW; omega), k8.2 _ _ (by unfold XW; omega), e3]
        have wl : w32 len' = len' := w32_of (by omega)
        have wps : w32 pos' = pos' := w32_of (by omega)
        obtain ⟨T, g1, g2⟩ := gm B5 s t rr P (DCm_ex hD x2) k12 (fun B6 z1 z2 => nx B6 (x2.trans z1) z2)
        refine ⟨T, vc_MD_delta_86 _ _ _ _ _ _ ?_, g2⟩
        rw [wm, wp]
        refine cNo cm ⟨B1, y2, ?_⟩
        rw [y4, wl]
        refine cNo (by omega) ⟨B2, k1, B3, k4, B4, ?_, B5, ?_, ?_⟩
        · rw [e3, wl]
          exact k7
        · rw [e4, wps]
          exact k10
        · rw [e5]
          exact g1
    · -- no such piece: on by one octet
      have none8 : ∀ len pos, BM F G n m p len pos → len < 8 := fun len pos h => Classical.byContradiction fun y => cb ⟨len, pos, h, by omega⟩
      -- the new pieces of 200
      obtain ⟨j', r', ej⟩ : ∃ j' r' : Nat, (r = 200 ∧ j' = j + 1 ∧ r' = 1) ∨ (r < 200 ∧ j' = j ∧ r' = r + 1) := by
        by_cases c : r = 200
        · exact ⟨j + 1, 1, Or.inl ⟨c, rfl, rfl⟩⟩
        · exact ⟨j, r + 1, Or.inr ⟨by omega, rfl, rfl⟩⟩
      obtain ⟨w', hw', gc, gm⟩ := ih (p + 1) fm j' r' w (by omega) (by omega) f0 (by omega) (by omega) hw hO
      refine ⟨w', hw', fun A o a1 a2 c n1 x6 hD ha2 hx h => ?_, fun B s t rr P hD h nx => ?_⟩
      · obtain ⟨d1, d2, d3, d4, d5, d6, d7, d8, d9⟩ := id hD
        obtain ⟨z, ps, A1, y1, y2, y3, y4⟩ := cf_long (q := q) (A := A) (a1 := a1) (c := c) (n1 := n1) (F := F) (G := G) (n := n) (m := m) (i := p) d1.1 d1.2.2.1 d1.2.2.2 d2.1 d2.2.1 hn hm (by omega) d4 d5 d6 d7 d8 d9
        have z0 : z = 0 := by
          rcases y1 with ⟨u1, _⟩ | ⟨u1, u2, u3, u4, u5⟩
          · exact u1
          · have := none8 z ps (Or.inr ⟨by omega, u2, u3, u4, u5⟩)
            omega
        subst z0
        have wx : w32 x6 = x6 := w32_of (by omega)
        have x1 : EX (XC o) A A1 := y3.mono (fun _ _ y => Or.inr y)
        have h1 : CWt A1 o 12000 (plW G fm j w) := CWt_cg h (fun a k y => y3.2 a k (by unfold XRo at y; unfold X4; omega))
        have mx : max (w32 1) (w32 0) = 1 := by decide
        have wd : Unit → w32 (p - (fm + 200 * (j : Int))) = r := fun _ => by
          rw [show p - (fm + 200 * (j : Int)) = r by omega]
          exact w32_of (by omega)
        rcases ej with ⟨r200, ej1, er1⟩ | ⟨rl, ej1, er1⟩
        · subst r200 ej1 er1
          obtain ⟨A2, k1, k2, k3⟩ := cw_lit (q := q) (A := A1) (G := G) (a := fm + 200 * j) (m := m) (n := 200) d1.1 d1.2.1 d3.2.1 (by omega) (by omega) hm.2 (DCc_ex hD x1).2.2.2.2.2.2.2.1 d3.1 (by omega) h1
          rw [← ep] at k1
          rw [← plW_s] at k3
          have x2 : EX (XC o) A A2 := x1.trans (k2.mono (XR_XC o))
          obtain ⟨A', g1, g2, g3⟩ := gc A2 o a1 a2 c n1 (x6 + 1) (DCc_ex hD x2) ha2 (by omega) k3
          rw [show fm + 200 * ((j + 1 : Nat) : Int) = p by omega] at g1
          have k136 : EV q 215 136 [some (.ref 29), some (.ref a2), some (.ref a1), some (.ref o), some (vI p), some (vI p), some (vI x6), some (vI 0)] [] A2 none A' := by
            refine vc_Copies_packDelta_136 _ _ _ _ _ _ ha2 _ _ d1.1 _ _ d1.2.1 ?_
            rw [mx]
            exact g1
          have k89 := vc_Copies_packDelta_89 _ _ _ _ _ _ ha2 _ _ d1.1 _ _ d1.2.1 ⟨A2, k1, vc_Copies_packDelta_102 _ _ _ _ _ _ ha2 _ _ d1.1 _ _ d1.2.1 (cY (by decide) k136)⟩
          refine ⟨A', vc_Copies_packDelta_43 _ _ _ _ _ ha2 _ _ d1.1 _ _ d1.2.1 ?_, x2.trans g2, g3⟩
          rw [d6, wm, wx, wp]
          refine cNo (by omega) (cNo cm ⟨0, A1, y2, ?_⟩)
          rw [wd ()]
          exact cNo (by decide) (cNN rfl k89)
        · subst ej1 er1
          obtain ⟨A', g1, g2, g3⟩ := gc A1 o a1 a2 c n1 (x6 + 1) (DCc_ex hD x1) ha2 (by omega) h1
          have k136 : EV q 215 136 [some (.ref 29), some (.ref a2), some (.ref a1), some (.ref o), some (vI (fm + 200 * (j' : Int))), some (vI p), some (vI x6), some (vI 0)] [] A1 none A' := by
            refine vc_Copies_packDelta_136 _ _ _ _ _ _ ha2 _ _ d1.1 _ _ d1.2.1 ?_
            rw [mx]
            exact g1
          have k102 := vc_Copies_packDelta_102 _ _ _ _ _ _ ha2 _ _ d1.1 _ _ d1.2.1 (cY (by decide) k136)
          refine ⟨A', vc_Copies_packDelta_43 _ _ _ _ _ ha2 _ _ d1.1 _ _ d1.2.1 ?_, x1.trans g2, g3⟩
          rw [d6, wm, wx, wp]
          refine cNo (by omega) (cNo cm ⟨0, A1, y2, ?_⟩)
          rw [wd ()]
          exact cNo (by decide) (cY (by omega) k102)
      · obtain ⟨len', pos', B1, y1, y2, y3, y4, y5⟩ := md_like (q := q) (B := B) hD.1 hD.2.1 hn hm (i := p) (by omega) hD.2.2.1 hD.2.2.2
        have l8 := none8 len' pos' y1
        have l0 : 0 ≤ len' := by
          rcases y1 with ⟨u1, _⟩ | ⟨u1, _⟩ <;> omega
        have wl : w32 len' = len' := w32_of (by omega)
        have xl : EX XL B B1 := y3.mono (fun a k y => by unfold XL; omega)
        have h1 : MWt B1 w := MWt_cg h (fun a k y => y3.2 a k (by unfold XW at y; omega))
        obtain ⟨T, g1, g2⟩ := gm B1 s t rr P (DCm_ex hD xl) h1 (fun B6 z1 z2 => nx B6 (xl.trans z1) z2)
        refine ⟨T, vc_MD_delta_86 _ _ _ _ _ _ ?_, g2⟩
        rw [wm, wp]
        refine cNo cm ⟨B1, y2, ?_⟩
        rw [y4, wl]
        exact cY l8 g1
end Delta4
