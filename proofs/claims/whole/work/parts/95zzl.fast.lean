/-! open, kind 6: FAST, the loop -/
section FastP
variable {q : Nat × (Nat → Int32)} {en : Int}
/-- the same, but that the octet read last is not known -/
def CT (S A : ms) (o : Nat) (en : Int) (st : Rd) : Prop := A.2 = S.2 ∧ ((st.1 = 0 → A.1 9 2 = en) ∧ A.1 9 5 = st.1 ∧ A.1 9 6 = st.2.1 ∧ (st.1 = 0 → A.1 9 3 = st.2.2.1) ∧ (st.1 = 0 → A.1 9 8 = 0)) ∧ (A.1 o 1 = st.2.2.2.1 ∧ ∀ k : Int, 0 ≤ k → k < st.2.2.2.1 → A.1 (o + 1) k = st.2.2.2.2 k) ∧ ∀ (a : Nat) (k : Int), ¬ (a = 9 ∧ k ≠ 7) → ¬ (a = o ∧ k = 1) → a ≠ o + 1 → A.1 a k = S.1 a k
theorem CR_CT {S A : ms} {o : Nat} {st : Rd} (h : CR S A o en st) : CT S A o en st := ⟨h.1, ⟨h.2.1.1, h.2.1.2.1, h.2.1.2.2.1, h.2.1.2.2.2.1, fun y => (h.2.1.2.2.2.2 y).2.1⟩, h.2.2⟩
theorem CT_CR {S A : ms} {o : Nat} {st : Rd} (c : st.1 ≠ 0) (h : CT S A o en st) : CR S A o en st := ⟨h.1, ⟨h.2.1.1, h.2.1.2.1, h.2.1.2.2.1, h.2.1.2.2.2.1, fun y => absurd y c⟩, h.2.2⟩
/-- take() -/
theorem sp_takeT {S A : ms} {o : Nat} {st : Rd} {t : Int → Int} (hC : RdC S o en t) (hr : rdR en st) (h : CT S A o en st) : ∃ A', EV q 118 0 [some (.ref 9)] [] A (some (vI (rdTake t en st).1)) A' ∧ CR S A' o en (rdTake t en st).2 := by
  obtain ⟨h1, ⟨a1, a2, a3, a4, a5⟩, ⟨a6, a7⟩, h4⟩ := id h
  obtain ⟨r1, r2, r3, r4⟩ := hr
  obtain ⟨c1, c2, c3, c4, c5⟩ := hC
  have wr : w32 st.1 = st.1 := w32_of (by omega)
  have wn : w32 st.2.2.1 = st.2.2.1 := w32_of (by omega)
  have we : w32 en = en := w32_of (by omega)
  have w6 : w32 ((6000 : Nat) : Int) = 6000 := by decide
  unfold rdTake
  by_cases c : st.1 ≠ 0
  · refine ⟨A, vc_Source_take ?_, by rw [if_pos c]; exact CT_CR c h⟩
    rw [a2, wr, if_pos c]
    exact ⟨fun n => absurd n c, fun _ => ⟨rfl, rfl⟩⟩
  · have c0 : st.1 = 0 := by omega
    by_cases d : st.2.2.1 < en
    · obtain ⟨g1, g2⟩ := c5 st.2.2.1 r2.1 d
      have q2 : ∀ (a : Nat) (e : Int), (wI (wI A 9 4 st.2.2.1) 9 3 (st.2.2.1 + 1)).1 a e = if a = 9 ∧ e = 3 then st.2.2.1 + 1 else if a = 9 ∧ e = 4 then st.2.2.1 else A.1 a e := fun _ _ => rfl
      have ev : (wI (wI A 9 4 st.2.2.1) 9 3 (st.2.2.1 + 1)).1 2 st.2.2.1 = t st.2.2.1 := by rw [q2, if_neg (by omega), if_neg (by omega), h4 _ _ (by omega) (by omega) (by omega), g2]
      refine ⟨wI (wI A 9 4 st.2.2.1) 9 3 (st.2.2.1 + 1), vc_Source_take ?_, ?_⟩
      · rw [if_neg c, if_pos d, a2, wr, a4 c0, wn, a1 c0, we, w6]
        refine ⟨fun _ => ⟨fun n => absurd n (by omega), fun _ => ⟨fun n => absurd n (by omega), fun _ => ⟨fun _ S1 f1 S2 f2 => ?_, fun n => absurd (by omega) n⟩⟩⟩, fun n => absurd c0 n⟩
        have e1 : S1.1 9 3 = st.2.2.1 := by rw [f1, rI_I, if_neg (by decide), a4 c0]
        rw [e1] at f2
        subst f1 f2
        have e4 : (wI (wI A 9 4 st.2.2.1) 9 3 (st.2.2.1 + 1)).1 9 4 = st.2.2.1 := by rw [q2, if_neg (by decide), if_pos ⟨rfl, rfl⟩]
        rw [e4, wn, ev]
        exact ⟨by omega, rfl, rfl⟩
      · rw [if_neg c, if_pos d]
        refine ⟨h1, ⟨?_, ?_, by rw [q2, if_neg (by decide), if_neg (by decide), a3], ?_, ?_⟩, ⟨?_, fun e e0 e1 => ?_⟩, fun a e n1 n2 n3 => ?_⟩
        · exact fun _ => by rw [q2, if_neg (by decide), if_neg (by decide), a1 c0]
        · rw [q2, if_neg (by decide), if_neg (by decide), a2]
        · exact fun _ => by rw [q2, if_pos ⟨rfl, rfl⟩]
        · refine fun _ => ⟨?_, by rw [q2, if_neg (by decide), if_neg (by decide), a5 c0]; rfl, fun y => absurd y (by decide)⟩
          rw [q2, if_neg (by decide), if_pos ⟨rfl, rfl⟩]
          show st.2.2.1 = if st.2.2.1 + 1 ≤ 0 then 0 else st.2.2.1 + 1 - 1
          rw [if_neg (by omega)]
          omega
        · rw [q2, if_neg (by omega), if_neg (by omega), a6]
        · rw [q2, if_neg (by omega), if_neg (by omega), a7 e e0 e1]
        · rw [q2, if_neg (by omega), if_neg (by omega), h4 a e n1 n2 n3]
    · have q2 : ∀ (a : Nat) (e : Int), (wI (wI A 9 5 1) 9 6 en).1 a e = if a = 9 ∧ e = 6 then en else if a = 9 ∧ e = 5 then 1 else A.1 a e := fun _ _ => rfl
      have k39 : EV q 118 39 [some (.ref 9)] [] A (some (vI 0)) (wI (wI A 9 5 1) 9 6 en) := vc_Source_take_39 (fun S1 f1 S2 f2 => ⟨rfl, by
        have e : S1.1 9 2 = en := by rw [f1, rI_I, if_neg (by decide), a1 c0]
        rw [e] at f2
        subst f1 f2
        rfl⟩)
      refine ⟨wI (wI A 9 5 1) 9 6 en, vc_Source_take ?_, ?_⟩
      · rw [if_neg c, if_neg d, a2, wr, a4 c0, wn, a1 c0, we, w6]
        exact ⟨fun _ => ⟨fun n => absurd n (by omega), fun _ => ⟨fun _ => k39, fun n => absurd (by omega) n⟩⟩, fun n => absurd c0 n⟩
      · rw [if_neg c, if_neg d]
        refine ⟨h1, ⟨?_, ?_, ?_, ?_, ?_⟩, ⟨?_, fun e e0 e1 => ?_⟩, fun a e n1 n2 n3 => ?_⟩
        · exact fun y => absurd (show (1 : Int) = 0 from y) (by decide)
        · rw [q2, if_neg (by decide), if_pos ⟨rfl, rfl⟩]
        · rw [q2, if_pos ⟨rfl, rfl⟩]
        · exact fun y => absurd (show (1 : Int) = 0 from y) (by decide)
        · exact fun y => absurd (show (1 : Int) = 0 from y) (by decide)
        · rw [q2, if_neg (by omega), if_neg (by omega), a6]
        · rw [q2, if_neg (by omega), if_neg (by omega), a7 e e0 e1]
        · rw [q2, if_neg (by omega), if_neg (by omega), h4 a e n1 n2 n3]
/-- behind the distance: the class at 149 102, the reference at 356 153 -/
theorem fa_tail {t : Int → Int} (he : 0 ≤ en ∧ en ≤ 6000) (ht : ∀ k : Int, 0 ≤ k → k < en → 0 ≤ t k ∧ t k < 256) {st : Rd} {x d : Int} (hx : 0 ≤ x ∧ x < 256) (hd : 0 ≤ d ∧ d < 65536) (hr : rdR en st) : ∃ stn : Rd, rdR en stn ∧ Fw st stn ∧ (∀ (S A : ms) (o : Nat) (al fl x4 : Int) (P : ms → Prop), RdC S o en t → CR S A o en st → (∀ A1, CR S A1 o en stn → ∃ A', EV q 149 11 [some (.ref 29), some (.ref 9), some (vI al), some (vI fl), some (vI (x4 + 1)), none, none] [] A1 none A' ∧ P A') → ∃ A', EV q 149 102 [some (.ref 29), some (.ref 9), some (vI al), some (vI fl), some (vI x4), some (vI x), some (vI d)] [] A none A' ∧ P A') ∧ ∀ (S B : ms) (al fl x3 x5 : Int) (P : ms → Prop), RdM S en t → MR S B en st → (∀ B1, MR S B1 en stn → ∃ B', EV q 356 2 [some (.ref 367), some (vI fl), some (vI al), some (vI x3), none, none, none, none, none, none, none] [] B1 none B' ∧ P B') → ∃ B', EV q 356 153 [some (.ref 367), some (vI fl), some (vI al), some (vI x3), some (vI x), some (vL x5), none, some (vL d), none, none, none] [] B none B' ∧ P B' := by
  obtain ⟨s3, e3⟩ : ∃ s3 : Rd, s3 = if (1 ≤ d ∧ d ≤ st.2.2.2.1) then st else rdTell 41 st := ⟨_, rfl⟩
  have h3 : rdR en s3 ∧ Fw st s3 := by
    rw [e3]
    exact rd_gt (by decide) hr
  have c3 : s3.1 = 0 → 1 ≤ d ∧ d ≤ s3.2.2.2.1 := by
    intro y
    by_cases c : 1 ≤ d ∧ d ≤ st.2.2.2.1
    · rw [if_pos c] at e3
      rw [e3]
      exact c
    · rw [if_neg c] at e3
      rw [e3] at y
      exact absurd y (rdTell_1 (by decide))
  obtain ⟨z, s4, ⟨g1, g2, g2'⟩, g3, g4, g5⟩ := jfour (q := q) he ht (f := x % 16) (by omega) h3.1
  have c4 : s4.1 = 0 → 1 ≤ d ∧ d ≤ s4.2.2.2.1 := by
    intro y
    rw [g2']
    refine c3 ?_
    apply Classical.byContradiction
    intro n
    rw [g2.1 n] at y
    exact n y
  obtain ⟨n, en'⟩ : ∃ n : Nat, x % 16 + 4 + z = n := ⟨(x % 16 + 4 + z).toNat, by omega⟩
  have r3 := hr.2.2.1
  have rr := hr.1
  have w1 : w32 st.2.2.2.1 = st.2.2.2.1 := w32_of (by omega)
  have w2 : w64 st.2.2.2.1 = st.2.2.2.1 := w64_of (by omega)
  have wr : w32 st.1 = st.1 := w32_of (by omega)
  have wd : w64 d = d := w64_of (by omega)
  have wd2 : w32 d = d := w32_of (by omega)
  have w0 : w64 0 = 0 := by decide
  have wx : w32 (x % 16) = x % 16 := w32_of (by omega)
  have wx4 : w32 (x % 16 + 4) = x % 16 + 4 := w32_of (by omega)
  have wz : w32 (x % 16 + z + 4) = x % 16 + z + 4 := w32_of (by omega)
  refine ⟨rdBack d n s4, rdR_back n g1, Fw_t h3.2 (Fw_t g2 (Fw_back n)), fun S A o al fl x4 P hC h nx => ?_, fun S B al fl x3 x5 P hC h nx => ?_⟩
  · have fin : ∀ A1, CR S A1 o en s3 → ∃ A', EV q 149 132 [some (.ref 29), some (.ref 9), some (vI al), some (vI fl), some (vI x4), some (vI x), some (vI d)] [] A1 none A' ∧ P A' := by
      intro A1 k1
      obtain ⟨A2, k2, k3⟩ := g4 S A1 o hC k1
      obtain ⟨A3, k4, k5⟩ := sp_back (q := q) (d := d) (by omega) hC (n := n) (by omega) c4 g1 k3
      obtain ⟨A', k6, k7⟩ := nx A3 k5
      refine ⟨A', vc_Copies_openFast_132 _ _ _ _ _ ⟨_, A2, k2, A3, ?_, k6⟩, k7⟩
      rw [wd2, wz, show x % 16 + z + 4 = n by omega]
      exact k4
    have ro : A.2.2 9 1 = o := by rw [h.1]; exact hC.1
    by_cases cr : st.1 ≠ 0
    · have e4 : s3 = st := h3.2.1 cr
      obtain ⟨A', k1, k2⟩ := fin A (by rw [e4]; exact h)
      refine ⟨A', vc_Copies_openFast_102 _ _ _ _ _ ?_, k2⟩
      rw [h.2.1.2.1, wr]
      exact cY cr k1
    · by_cases c : 1 ≤ d ∧ d ≤ st.2.2.2.1
      · rw [if_pos c] at e3
        obtain ⟨A', k1, k2⟩ := fin A (by rw [e3]; exact h)
        refine ⟨A', vc_Copies_openFast_102 _ _ _ _ _ ?_, k2⟩
        rw [h.2.1.2.1, wr, wd2]
        refine cNo cr (cNo (by omega) ⟨o, 12000, ro, hC.2.1, ?_⟩)
        rw [h.2.2.1.1, w1]
        exact cY c.2 k1
      · rw [if_neg c] at e3
        obtain ⟨A1, j1, j2⟩ := sp_tell (q := q) (k := 41) hr hC.2.2.1 h
        obtain ⟨A', k1, k2⟩ := fin A1 (by rw [e3]; exact j2)
        have k126 := vc_Copies_openFast_126 _ _ _ _ _ ⟨A1, j1, k1⟩
        refine ⟨A', vc_Copies_openFast_102 _ _ _ _ _ ?_, k2⟩
        rw [h.2.1.2.1, wr, wd2]
        refine cNo cr ⟨fun _ => k126, fun y => ⟨o, 12000, ro, hC.2.1, ?_⟩⟩
        rw [h.2.2.1.1, w1]
        exact cNo (by omega) k126
  · have fin : ∀ B1, MR S B1 en s3 → ∃ B', EV q 356 184 [some (.ref 367), some (vI fl), some (vI al), some (vI x3), some (vI x), some (vL x5), none, some (vL d), none, none, none] [] B1 none B' ∧ P B' := by
      intro B1 k1
      obtain ⟨q1, q2⟩ := g5 S B1 hC k1
      have go : ∀ B2, MR S B2 en s4 → ∃ B', EV q 356 214 [some (.ref 367), some (vI fl), some (vI al), some (vI x3), some (vI x), some (vL x5), none, some (vL d), none, some (vL (x % 16 + 4)), none] [vL z, vL (x % 16 + 4)] B2 none B' ∧ P B' := by
        intro B2 k2
        obtain ⟨B3, k4, k5⟩ := md_back (q := q) (d := d) (by omega) he.2 (n := n) (by omega) c4 g1 k2
        obtain ⟨B', k6, k7⟩ := nx B3 k5
        refine ⟨B', vc_MD_openFast_214 _ _ _ _ _ _ _ _ _ ⟨B3, ?_, k6⟩, k7⟩
        rw [en']
        exact k4
      by_cases cf : x % 16 = 15
      · obtain ⟨B2, k2, k3⟩ := q2 cf
        obtain ⟨B', k4, k5⟩ := go B2 k3
        refine ⟨B', vc_MD_openFast_184 _ _ _ _ _ _ ?_, k5⟩
        rw [wx, wx4]
        exact cNN cf ⟨z, B2, k2, k4⟩
      · obtain ⟨ez, k3⟩ := q1 cf
        obtain ⟨B', k4, k5⟩ := go B1 k3
        rw [ez] at k4
        refine ⟨B', vc_MD_openFast_184 _ _ _ _ _ _ ?_, k5⟩
        rw [wx, wx4]
        exact cY cf k4
    have kf := md_fine (q := q) hr h
    by_cases cr : st.1 = 0
    · rw [if_pos cr] at kf
      by_cases c : 1 ≤ d ∧ d ≤ st.2.2.2.1
      · rw [if_pos c] at e3
        obtain ⟨B', k1, k2⟩ := fin B (by rw [e3]; exact h)
        refine ⟨B', vc_MD_openFast_153 _ _ _ _ _ _ ⟨1, B, kf, cNo (by decide) ?_⟩, k2⟩
        rw [wd, w0, h.2.2.1.1, w1, w2]
        exact cNo (by omega) (cY c.2 k1)
      · rw [if_neg c] at e3
        obtain ⟨B1, j1, j2⟩ := md_tell (q := q) (k := 41) hr he.2 h
        obtain ⟨B', k1, k2⟩ := fin B1 (by rw [e3]; exact j2)
        have k178 := vc_MD_openFast_178 _ _ _ _ _ _ ⟨B1, j1, k1⟩
        refine ⟨B', vc_MD_openFast_153 _ _ _ _ _ _ ⟨1, B, kf, cNo (by decide) ?_⟩, k2⟩
        rw [wd, w0, h.2.2.1.1, w1, w2]
        exact ⟨fun _ => k178, fun y => cNo (by omega) k178⟩
    · rw [if_neg cr] at kf
      have e4 : s3 = st := h3.2.1 cr
      obtain ⟨B', k1, k2⟩ := fin B (by rw [e4]; exact h)
      exact ⟨B', vc_MD_openFast_153 _ _ _ _ _ _ ⟨0, B, kf, cY (by decide) k1⟩, k2⟩
theorem jlow2 {t : Int → Int} (ht : ∀ k : Int, 0 ≤ k → k < en → 0 ≤ t k ∧ t k < 256) {st : Rd} (hr : rdR en st) : ∃ (z : Int) (st' : Rd), (rdR en st' ∧ Fw st st') ∧ (0 ≤ z ∧ z < 65536) ∧ (∀ (S A : ms) (o : Nat), RdC S o en t → CR S A o en st → ∃ A', EV q 132 0 [some (.ref 9), some (vI 2), none, none, none] [] A (some (vL z)) A' ∧ CR S A' o en st') ∧ ∀ S B : ms, RdM S en t → MR S B en st → ∃ B', EV q 345 0 [some (.ref 367), some (vI 2), none, none, none] [] B (some (vL z)) B' ∧ MR S B' en st' := by
  obtain ⟨x, ex⟩ : ∃ x : Int, x = (rdTake t en st).1 := ⟨_, rfl⟩
  obtain ⟨y, ey⟩ : ∃ y : Int, y = (rdTake t en (rdTake t en st).2).1 := ⟨_, rfl⟩
  have tx := rdTake_rg hr ht
  have ty := rdTake_rg (rdR_take (t := t) hr) ht
  rw [← ex] at tx
  rw [← ey] at ty
  have wx : w32 x = x := w32_of (by omega)
  have wy : w32 y = y := w32_of (by omega)
  have p0 : (2 : Int) ^ ((8 * (0 : Int)) % 64).toNat = 1 := by decide
  have p1 : (2 : Int) ^ ((8 * ((0 : Int) + 1)) % 64).toNat = 256 := by decide
  refine ⟨lO (lO 0 (x * 1)) (y * 256), (rdTake t en (rdTake t en st).2).2, ⟨rdR_take (rdR_take hr), Fw_t Fw_take Fw_take⟩, ?_, fun S A o hC h => ?_, fun S B hC h => ?_⟩
  · have h1 : 0 ≤ lO 0 (x * 1) ∧ lO 0 (x * 1) < 65536 := by
      unfold lO
      have h := Nat.or_lt_two_pow (x := ((0 : Int) % 18446744073709551616).toNat) (y := (x * 1 % 18446744073709551616).toNat) (n := 16) (by decide) (by omega)
      omega
    generalize lO 0 (x * 1) = v at h1
    unfold lO
    have h := Nat.or_lt_two_pow (x := (v % 18446744073709551616).toNat) (y := (y * 256 % 18446744073709551616).toNat) (n := 16) (by omega) (by omega)
    omega
  · obtain ⟨A1, k1, k2⟩ := sp_take (q := q) hC hr h
    obtain ⟨A2, k3, k4⟩ := sp_take (q := q) hC (rdR_take hr) k2
    rw [← ex] at k1
    rw [← ey] at k3
    refine ⟨A2, vc_Source_takeLow _ (vc_Source_takeLow_5 _ _ _ (cNo (by decide) ⟨x, A1, k1, ?_⟩)), k4⟩
    rw [wx, p0]
    refine vc_Source_takeLow_5 _ _ _ (cNo (by decide) ⟨y, A2, k3, ?_⟩)
    rw [wy, p1]
    exact vc_Source_takeLow_5 _ _ _ (cY (by decide) ⟨rfl, rfl⟩)
  · obtain ⟨B1, k1, k2⟩ := md_take (q := q) hC hr h
    obtain ⟨B2, k3, k4⟩ := md_take (q := q) hC (rdR_take hr) k2
    rw [← ex] at k1
    rw [← ey] at k3
    refine ⟨B2, vc_MD_lowNumber _ (vc_MD_lowNumber_5 _ _ _ (cNo (by decide) ⟨x, B1, k1, ?_⟩)), k4⟩
    rw [wx, p0]
    refine vc_MD_lowNumber_5 _ _ _ (cNo (by decide) ⟨y, B2, k3, ?_⟩)
    rw [wy, p1]
    exact vc_MD_lowNumber_5 _ _ _ (cY (by decide) ⟨rfl, rfl⟩)
/-- openFast -/
theorem jfast {t : Int → Int} {al fl : Int} (he : 0 ≤ en ∧ en ≤ 6000) (ht : ∀ k : Int, 0 ≤ k → k < en → 0 ≤ t k ∧ t k < 256) (hal : al = 0 ∨ al = 1) (hfl : 0 ≤ fl ∧ fl ≤ 12000) : ∀ (m i : Nat) (st : Rd), en - st.2.2.1 ≤ m → i + m ≤ 6000 → rdR en st → ∃ stf : Rd, rdR en stf ∧ Fw st stf ∧ (∀ (S A : ms) (o : Nat), RdC S o en t → CT S A o en st → ∃ A', EV q 149 11 [some (.ref 29), some (.ref 9), some (vI al), some (vI fl), some (vI i), none, none] [] A none A' ∧ CR S A' o en stf) ∧ ∀ S B : ms, RdM S en t → MR S B en st → ∃ B', EV q 356 2 [some (.ref 367), some (vI fl), some (vI al), some (vI 1), none, none, none, none, none, none, none] [] B none B' ∧ MR S B' en stf := by
  have we : w32 en = en := w32_of (by omega)
  have wal : w32 al = al := w32_of (by omega)
  have w15 : w64 15 = 15 := by decide
  have stop : ∀ (i : Nat) (st : Rd), rdR en st → st.1 ≠ 0 → ∃ stf : Rd, rdR en stf ∧ Fw st stf ∧ (∀ (S A : ms) (o : Nat), RdC S o en t → CT S A o en st → ∃ A', EV q 149 11 [some (.ref 29), some (.ref 9), some (vI al), some (vI fl), some (vI i), none, none] [] A none A' ∧ CR S A' o en stf) ∧ ∀ S B : ms, RdM S en t → MR S B en st → ∃ B', EV q 356 2 [some (.ref 367), some (vI fl), some (vI al), some (vI 1), none, none, none, none, none, none, none] [] B none B' ∧ MR S B' en stf := by
    intro i st hr c
    have wr : w32 st.1 = st.1 := w32_of (by have := hr.1; omega)
    refine ⟨st, hr, Fw_r st, fun S A o hC h => ⟨A, vc_Copies_openFast_11 _ _ _ ⟨fun _ => ⟨rfl, rfl⟩, fun _ => ?_⟩, CT_CR c h⟩, fun S B hC h => ?_⟩
    · rw [h.2.1.2.1, wr]
      exact cY c ⟨rfl, rfl⟩
    · have kf := md_fine (q := q) hr h
      rw [if_neg c] at kf
      exact ⟨B, vc_MD_openFast_2 _ _ _ (cNo (by decide) ⟨0, B, kf, cY (by decide) ⟨rfl, rfl⟩⟩), h⟩
  -- one turn, given what follows
  have turn : ∀ (i : Nat) (st : Rd), i ≤ 6000 → rdR en st → st.1 = 0 → (∀ stn : Rd, rdR en stn → Fw (rdTake t en st).2 stn → st.2.2.1 < en → ∃ stf : Rd, rdR en stf ∧ Fw stn stf ∧ (∀ (S A : ms) (o : Nat), RdC S o en t → CT S A o en stn → ∃ A', EV q 149 11 [some (.ref 29), some (.ref 9), some (vI al), some (vI fl), some (vI ((i : Int) + 1)), none, none] [] A none A' ∧ CR S A' o en stf) ∧ ∀ S B : ms, RdM S en t → MR S B en stn → ∃ B', EV q 356 2 [some (.ref 367), some (vI fl), some (vI al), some (vI 1), none, none, none, none, none, none, none] [] B none B' ∧ MR S B' en stf) → ∃ stf : Rd, rdR en stf ∧ Fw st stf ∧ (∀ (S A : ms) (o : Nat), RdC S o en t → CT S A o en st → ∃ A', EV q 149 11 [some (.ref 29), some (.ref 9), some (vI al), some (vI fl), some (vI i), none, none] [] A none A' ∧ CR S A' o en stf) ∧ ∀ S B : ms, RdM S en t → MR S B en st → ∃ B', EV q 356 2 [some (.ref 367), some (vI fl), some (vI al), some (vI 1), none, none, none, none, none, none, none] [] B none B' ∧ MR S B' en stf := by
    intro i st hi hr c0 next
    have wr : w32 st.1 = st.1 := w32_of (by omega)
    have wi : Unit → w32 (i : Int) = i := fun _ => w32_of (by omega)
    have i0 : ¬ 1000000 ≤ (i : Int) := by omega
    obtain ⟨x, ex⟩ : ∃ x : Int, x = (rdTake t en st).1 := ⟨_, rfl⟩
    obtain ⟨s1, es⟩ : ∃ s1 : Rd, s1 = (rdTake t en st).2 := ⟨_, rfl⟩
    have tr := rdTake_rg hr ht
    have hr1 : rdR en s1 := by rw [es]; exact rdR_take hr
    have fw1 : Fw st s1 := by rw [es]; exact Fw_take
    rw [← ex] at tr
    rw [← es] at next
    have wx : w32 x = x := w32_of (by omega)
    have wx16 : w32 (x / 16) = x / 16 := w32_of (by omega)
    have wx16' : w64 (x / 16) = x / 16 := w64_of (by omega)
    obtain ⟨z, s2, ⟨g1, g2, g2'⟩, g3, g4, g5⟩ := jfour (q := q) he ht (f := x / 16) (by omega) hr1
    obtain ⟨n, en'⟩ : ∃ n : Nat, x / 16 + z = n := ⟨(x / 16 + z).toNat, by omega⟩
    obtain ⟨s3, e3⟩ : ∃ s3 : Rd, s3 = rdCopy t en n s2 := ⟨_, rfl⟩
    have hr3 : rdR en s3 := by rw [e3]; exact rdR_copy n g1
    have fw3 : Fw s1 s3 := by rw [e3]; exact Fw_t g2 (Fw_copy n)
    have wr3 : w32 s3.1 = s3.1 := w32_of (by have := hr3.1; omega)
    have wn3 : w32 s3.2.2.1 = s3.2.2.1 := w32_of (by have := hr3.2.1; omega)
    -- heads: the class behind emitTaken, the reference at 87
    have hc : ∀ (S A : ms) (o : Nat), RdC S o en t → CT S A o en st → ∃ A3, CR S A3 o en s3 ∧ ∀ A' : ms, (((¬ w32 (A3.1 9 5) = 0) → (none : Option Value) = none ∧ A' = A3) ∧ ((¬ (¬ w32 (A3.1 9 5) = 0)) → ((w32 (A3.1 9 3) < w32 (A3.1 9 2)) → ∃ (z11 : Int) (S9 : ms), EV q 132 0 [some (.ref 9), some (vI 2), none, none, none] [] A3 (some (vL z11)) S9 ∧ ((¬ w32 (S9.1 9 5) = 0) → EV q 149 102 [some (.ref 29), some (.ref 9), some (vI al), some (vI fl), some (vI i), some (vI x), some (vI z11)] [] S9 none A') ∧ ((¬ (¬ w32 (S9.1 9 5) = 0)) → ((w32 al = 0) → EV q 149 102 [some (.ref 29), some (.ref 9), some (vI al), some (vI fl), some (vI i), some (vI x), some (vI z11)] [] S9 none A') ∧ ((¬ w32 al = 0) → ∃ (o12 no12 : Nat), S9.2.2 9 1 = o12 ∧ isRow o12 no12 ∧ ((w32 z11 ≤ w32 ((S9.1 o12 1) - fl)) → EV q 149 102 [some (.ref 29), some (.ref 9), some (vI al), some (vI fl), some (vI i), some (vI x), some (vI z11)] [] S9 none A') ∧ ((¬ w32 z11 ≤ w32 ((S9.1 o12 1) - fl)) → ∃ (S15 : ms), EV q 124 0 [some (.ref 9), some (vI 42)] [] S9 none S15 ∧ EV q 149 102 [some (.ref 29), some (.ref 9), some (vI al), some (vI fl), some (vI i), some (vI x), some (vI z11)] [] S15 none A')))) ∧ ((¬ w32 (A3.1 9 3) < w32 (A3.1 9 2)) → (none : Option Value) = none ∧ A' = A3))) → EV q 149 11 [some (.ref 29), some (.ref 9), some (vI al), some (vI fl), some (vI i), none, none] [] A none A' := by
      intro S A o hC h
      obtain ⟨A1, k1, k2⟩ := sp_takeT (q := q) hC hr h
      rw [← ex] at k1
      rw [← es] at k2
      obtain ⟨A2, k3, k4⟩ := g4 S A1 o hC k2
      obtain ⟨A3, k5, k6⟩ := sp_copy (q := q) hC (n := n) (by omega) g1 k4
      rw [← e3] at k6
      have wz : w32 (x / 16 + z) = x / 16 + z := w32_of (by omega)
      refine ⟨A3, k6, fun A' hA' => vc_Copies_openFast_11 _ _ _ ?_⟩
      rw [wi (), h.2.1.2.1, wr]
      refine cNo i0 (cNN c0 ⟨x, A1, k1, x / 16 + z, A2, ?_, A3, ?_, hA'⟩)
      · rw [wx]
        exact k3
      · rw [wz, en']
        exact k5
    have hm : ∀ (S B : ms) (P : ms → Prop), RdM S en t → MR S B en st → (∀ (B1 : ms) (x7 : Int), MR S B1 en s3 → ∃ B', EV q 356 87 [some (.ref 367), some (vI fl), some (vI al), some (vI 1), some (vI x), some (vL n), none, some (vL x7), none, none, none] [] B1 none B' ∧ P B') → ∃ B', EV q 356 2 [some (.ref 367), some (vI fl), some (vI al), some (vI 1), none, none, none, none, none, none, none] [] B none B' ∧ P B' := by
      intro S B P hC h nx
      have lp : ∀ (m k : Nat) (B : ms) (st : Rd), k + m = n → rdCopy t en m st = s3 → rdR en st → MR S B en st → ∃ B', EV q 356 51 [some (.ref 367), some (vI fl), some (vI al), some (vI 1), some (vI x), some (vL n), none, some (vL k), none, none, none] [] B none B' ∧ P B' := by
        intro m
        induction m with
        | zero =>
          intro k B st hi hst hr h
          have e : k = n := by omega
          subst e
          have hst' : st = _ := hst
          obtain ⟨B', k1, k2⟩ := nx B k (by rw [← hst']; exact h)
          exact ⟨B', vc_MD_openFast_51 _ _ _ _ _ _ (cY (Int.le_refl _) k1), k2⟩
        | succ m ih =>
          intro k B st hi hst hr h
          have wn : Unit → w64 ((n : Nat) : Int) = n := fun _ => w64_of (by omega)
          have wk : Unit → w64 ((k : Nat) : Int) = k := fun _ => w64_of (by omega)
          have z0 : ¬ (n : Int) ≤ k := by omega
          have kf := md_fine (q := q) hr h
          rw [rdCopy_s] at hst
          by_cases c : st.1 ≠ 0
          · rw [if_pos c] at hst
            rw [if_neg c] at kf
            obtain ⟨B', k1, k2⟩ := nx B k (by rw [← hst]; exact h)
            refine ⟨B', vc_MD_openFast_51 _ _ _ _ _ _ ?_, k2⟩
            rw [wn (), wk ()]
            exact cNo z0 ⟨0, B, kf, cY (by decide) k1⟩
          · rw [if_neg c] at hst
            rw [if_pos (by omega)] at kf
            obtain ⟨B1, k1, k2⟩ := md_take (q := q) hC hr h
            obtain ⟨B2, k3, k4⟩ := md_emit (q := q) (v := (rdTake t en st).1) (rdR_take hr) he.2 k2
            obtain ⟨B3, k5, k6⟩ := ih (k + 1) B2 _ (by omega) hst (rdR_emit (rdR_take hr)) k4
            rw [show ((k + 1 : Nat) : Int) = (k : Int) + 1 by omega] at k5
            refine ⟨B3, vc_MD_openFast_51 _ _ _ _ _ _ ?_, k6⟩
            rw [wn (), wk ()]
            exact cNo z0 ⟨1, B, kf, cNo (by decide) ⟨_, B1, k1, B2, k3, k5⟩⟩
      obtain ⟨B1, k1, k2⟩ := md_take (q := q) hC hr h
      rw [← ex] at k1
      rw [← es] at k2
      obtain ⟨q1, q2⟩ := g5 S B1 hC k2
      have kf := md_fine (q := q) hr h
      rw [if_pos c0] at kf
      have go : ∀ B2, MR S B2 en s2 → ∃ B', EV q 356 45 [some (.ref 367), some (vI fl), some (vI al), some (vI 1), some (vI x), some (vL (x / 16)), none, none, none, none, none] [vL z, vL (x / 16)] B2 none B' ∧ P B' := by
        intro B2 j1
        obtain ⟨B', j2, j3⟩ := lp n 0 B2 s2 (by omega) e3.symm g1 j1
        refine ⟨B', vc_MD_openFast_45 _ _ _ _ _ _ _ ?_, j3⟩
        rw [en']
        exact j2
      by_cases cf : x / 16 = 15
      · obtain ⟨B2, j1, j2⟩ := q2 cf
        obtain ⟨B', j3, j4⟩ := go B2 j2
        refine ⟨B', vc_MD_openFast_2 _ _ _ (cNo (by decide) ⟨1, B, kf, cNo (by decide) ⟨x, B1, k1, ?_⟩⟩), j4⟩
        rw [wx, wx16, wx16', w15]
        exact cNN cf ⟨z, B2, j1, j3⟩
      · obtain ⟨ez, j2⟩ := q1 cf
        obtain ⟨B', j3, j4⟩ := go B1 j2
        rw [ez] at j3
        refine ⟨B', vc_MD_openFast_2 _ _ _ (cNo (by decide) ⟨1, B, kf, cNo (by decide) ⟨x, B1, k1, ?_⟩⟩), j4⟩
        rw [wx, wx16, wx16', w15]
        exact cY cf j3
    by_cases cd : s3.1 ≠ 0 ∨ en ≤ s3.2.2.1
    · -- that was all
      refine ⟨s3, hr3, Fw_t fw1 fw3, fun S A o hC h => ?_, fun S B hC h => hm S B _ hC h (fun B1 x7 k1 => ?_)⟩
      · obtain ⟨A3, k1, k2⟩ := hc S A o hC h
        refine ⟨A3, k2 A3 ?_, k1⟩
        rw [k1.2.1.2.1, wr3]
        refine ⟨fun _ => ⟨rfl, rfl⟩, fun y => ?_⟩
        have d : s3.1 = 0 := by omega
        rw [k1.2.1.1 d, we, k1.2.1.2.2.2.1 d, wn3]
        exact cNo (by rcases cd with u | u; exact absurd u y; omega) ⟨rfl, rfl⟩
      · refine ⟨B1, vc_MD_openFast_87 _ _ _ _ _ _ ⟨fun _ => vc_MD_openFast_103 _ _ _ _ _ _ _ (cY (by decide) ⟨rfl, rfl⟩), fun y => vc_MD_openFast_103 _ _ _ _ _ _ _ (cNo (by decide) ⟨_, B1, md_fine hr3 k1, ?_⟩)⟩, k1⟩
        have d : s3.1 ≠ 0 := by
          intro d
          rw [k1.2.1.1 d, we, k1.2.1.2.2.2.2 d, if_pos rfl, Int.sub_zero, wn3] at y
          rcases cd with u | u
          · exact u d
          · exact y u
        rw [if_neg d]
        exact cNN (by decide) ⟨rfl, rfl⟩
    · have d0 : s3.1 = 0 := Classical.byContradiction fun y => cd (Or.inl y)
      have cn : s3.2.2.1 < en := Classical.byContradiction fun y => cd (Or.inr (by omega))
      obtain ⟨y, s4, ⟨a1, a2⟩, a3, a4, a5⟩ := jlow2 (q := q) ht hr3
      have wy : w32 y = y := w32_of (by omega)
      have wy2 : w64 y = y := w64_of (by omega)
      have r4 := a1.2.2.1
      have w4 : w32 (s4.2.2.2.1 - fl) = s4.2.2.2.1 - fl := w32_of (by omega)
      have w42 : w64 (s4.2.2.2.1 - fl) = s4.2.2.2.1 - fl := w64_of (by omega)
      obtain ⟨s5, e5⟩ : ∃ s5 : Rd, s5 = if (al = 0 ∨ y ≤ s4.2.2.2.1 - fl) then s4 else rdTell 42 s4 := ⟨_, rfl⟩
      have h5 : rdR en s5 ∧ Fw s4 s5 := by
        rw [e5]
        exact rd_gt (by decide) a1
      obtain ⟨stn, rn, fn, pc, pm⟩ := fa_tail (q := q) he ht (x := x) (d := y) tr a3 h5.1
      have fwn : Fw s1 stn := Fw_t fw3 (Fw_t a2 (Fw_t h5.2 fn))
      have stn0 : st.2.2.1 < en := by
        apply Classical.byContradiction
        intro u
        have e1 : s1.1 ≠ 0 := by
          rw [es]
          unfold rdTake
          rw [if_neg (by omega), if_neg u]
          show (1 : Int) ≠ 0
          decide
        have := fw3.1 e1
        rw [this] at d0
        exact e1 d0
      obtain ⟨stf, rf, ff, l1, l2⟩ := next stn rn fwn stn0
      have wr4 : w32 s4.1 = s4.1 := w32_of (by have := a1.1; omega)
      refine ⟨stf, rf, Fw_t fw1 (Fw_t fwn ff), fun S A o hC h => ?_, fun S B hC h => hm S B _ hC h (fun B1 x7 k1 => ?_)⟩
      · obtain ⟨A3, k1, k2⟩ := hc S A o hC h
        obtain ⟨A4, k3, k4⟩ := a4 S A3 o hC k1
        have ro : A4.2.2 9 1 = o := by rw [k4.1]; exact hC.1
        have fin : ∀ A5, CR S A5 o en s5 → ∃ A', EV q 149 102 [some (.ref 29), some (.ref 9), some (vI al), some (vI fl), some (vI i), some (vI x), some (vI y)] [] A5 none A' ∧ CR S A' o en stf := fun A5 j => pc S A5 o al fl i _ hC j (fun A6 j2 => l1 S A6 o hC (CR_CT j2))
        by_cases c : s4.1 ≠ 0 ∨ al = 0 ∨ y ≤ s4.2.2.2.1 - fl
        · have e6 : s5 = s4 := by
            rcases c with u | u
            · exact h5.2.1 u
            · rw [if_pos u] at e5
              exact e5
          obtain ⟨A', j1, j2⟩ := fin A4 (by rw [e6]; exact k4)
          refine ⟨A', k2 A' ?_, j2⟩
          rw [k1.2.1.2.1, wr3, k1.2.1.1 d0, we, k1.2.1.2.2.2.1 d0, wn3]
          refine cNN d0 (cY cn ⟨y, A4, k3, ?_⟩)
          rw [k4.2.1.2.1, wr4, wal]
          refine ⟨fun _ => j1, fun u1 => ⟨fun _ => j1, fun u2 => ⟨o, 12000, ro, hC.2.1, ?_⟩⟩⟩
          rw [k4.2.2.1.1, wy, w4]
          exact cY (by rcases c with u | u | u; exact absurd u u1; exact absurd u u2; exact u) j1
        · have u1 : ¬ s4.1 ≠ 0 := fun u => c (Or.inl u)
          have u2 : ¬ al = 0 := fun u => c (Or.inr (Or.inl u))
          have u3 : ¬ y ≤ s4.2.2.2.1 - fl := fun u => c (Or.inr (Or.inr u))
          rw [if_neg (by omega)] at e5
          obtain ⟨A5, i1, i2⟩ := sp_tell (q := q) (k := 42) a1 hC.2.2.1 k4
          obtain ⟨A', j1, j2⟩ := fin A5 (by rw [e5]; exact i2)
          refine ⟨A', k2 A' ?_, j2⟩
          rw [k1.2.1.2.1, wr3, k1.2.1.1 d0, we, k1.2.1.2.2.2.1 d0, wn3]
          refine cNN d0 (cY cn ⟨y, A4, k3, ?_⟩)
          rw [k4.2.1.2.1, wr4, wal]
          refine cNo u1 (cNo u2 ⟨o, 12000, ro, hC.2.1, ?_⟩)
          rw [k4.2.2.1.1, wy, w4]
          exact cNo u3 ⟨A5, i1, j1⟩
      · obtain ⟨B4, k3, k4⟩ := a5 S B1 hC k1
        have fin : ∀ B5, MR S B5 en s5 → ∃ B', EV q 356 153 [some (.ref 367), some (vI fl), some (vI al), some (vI 1), some (vI x), some (vL n), none, some (vL y), none, none, none] [] B5 none B' ∧ MR S B' en stf := fun B5 j => pm S B5 al fl 1 n _ hC j (fun B6 j2 => l2 S B6 hC j2)
        have kf := md_fine (q := q) hr3 k1
        rw [if_pos d0] at kf
        have kf4 := md_fine (q := q) a1 k4
        have last : ∃ B', MR S B' en stf ∧ ((w32 (if s4.1 = 0 then (1 : Int) else 0) = 0) → EV q 356 153 [some (.ref 367), some (vI fl), some (vI al), some (vI 1), some (vI x), some (vL n), none, some (vL y), none, none, none] [] B4 none B') ∧ ((¬ w32 (if s4.1 = 0 then (1 : Int) else 0) = 0) → ((w32 al = 0) → EV q 356 153 [some (.ref 367), some (vI fl), some (vI al), some (vI 1), some (vI x), some (vL n), none, some (vL y), none, none, none] [] B4 none B') ∧ ((¬ w32 al = 0) → ((w64 y ≤ w64 (w32 ((B4.1 367 22) - fl))) → EV q 356 153 [some (.ref 367), some (vI fl), some (vI al), some (vI 1), some (vI x), some (vL n), none, some (vL y), none, none, none] [] B4 none B') ∧ ((¬ w64 y ≤ w64 (w32 ((B4.1 367 22) - fl))) → ∃ (S10 : ms), EV q 337 0 [some (.ref 367), some (vI 42)] [] B4 none S10 ∧ EV q 356 153 [some (.ref 367), some (vI fl), some (vI al), some (vI 1), some (vI x), some (vL n), none, some (vL y), none, none, none] [] S10 none B'))) := by
          rw [k4.2.2.1.1, wal, wy2, w4, w42]
          by_cases c : s4.1 ≠ 0 ∨ al = 0 ∨ y ≤ s4.2.2.2.1 - fl
          · have e6 : s5 = s4 := by
              rcases c with u | u
              · exact h5.2.1 u
              · rw [if_pos u] at e5
                exact e5
            obtain ⟨B', j1, j2⟩ := fin B4 (by rw [e6]; exact k4)
            refine ⟨B', j2, fun _ => j1, fun u1 => ⟨fun _ => j1, fun u2 => cY ?_ j1⟩⟩
            rcases c with u | u | u
            · rw [if_neg u] at u1
              exact absurd (by decide) u1
            · exact absurd u u2
            · exact u
          · have u1 : s4.1 = 0 := Classical.byContradiction fun u => c (Or.inl u)
            have u2 : ¬ al = 0 := fun u => c (Or.inr (Or.inl u))
            have u3 : ¬ y ≤ s4.2.2.2.1 - fl := fun u => c (Or.inr (Or.inr u))
            rw [if_neg (by omega)] at e5
            obtain ⟨B5, i1, i2⟩ := md_tell (q := q) (k := 42) a1 he.2 k4
            obtain ⟨B', j1, j2⟩ := fin B5 (by rw [e5]; exact i2)
            refine ⟨B', j2, ?_⟩
            rw [if_pos u1]
            exact cNo (by decide) (cNo u2 (cNo u3 ⟨B5, i1, j1⟩))
        obtain ⟨B', j1, j2⟩ := last
        refine ⟨B', vc_MD_openFast_87 _ _ _ _ _ _ ?_, j1⟩
        rw [k1.2.1.1 d0, we, k1.2.1.2.2.2.2 d0, if_pos rfl, Int.sub_zero, wn3]
        exact cNo (by omega) (vc_MD_openFast_103 _ _ _ _ _ _ _ (cNo (by decide) ⟨1, B1, kf, cY (by decide) ⟨y, B4, k3, _, B4, kf4, j2⟩⟩))
  intro m
  induction m with
  | zero =>
    intro i st hm hi hr
    by_cases c : st.1 ≠ 0
    · exact stop i st hr c
    · exact turn i st (by omega) hr (by omega) (fun stn _ _ y => absurd y (by omega))
  | succ m ih =>
    intro i st hm hi hr
    by_cases c : st.1 ≠ 0
    · exact stop i st hr c
    · refine turn i st (by omega) hr (by omega) (fun stn rn fn y => ?_)
      have n1 : (rdTake t en st).2.2.2.1 = st.2.2.1 + 1 := by
        unfold rdTake
        rw [if_neg c, if_pos y]
      have ei : ((i + 1 : Nat) : Int) = (i : Int) + 1 := by omega
      have := ih (i + 1) stn (by have := fn.2; omega) (by omega) rn
      rw [ei] at this
      exact this
/-- open(6) -/
theorem oj_fast {t : Int → Int} (he : 0 ≤ en ∧ en ≤ 6000) (ht : ∀ k : Int, 0 ≤ k → k < en → 0 ≤ t k ∧ t k < 256) : ∃ stf : Rd, rdR en stf ∧ OJ q en t 149 0 356 0 [some (.ref 29), some (.ref 9), some (vI 0), none, none, none, none] [some (vI 0), some (vI 0), none, none, none, none, none, none, none, none] X0 X0 st0 stf := by
  obtain ⟨stf, rf, _, l1, l2⟩ := jfast (q := q) (al := 0) (fl := 0) he ht (Or.inl rfl) (by decide) 6000 0 st0 (by show en - 0 ≤ _; omega) (by omega) (rdR_0 he.1)
  refine ⟨stf, rf, fun S A o hC h => ?_, fun S B hC h => ?_⟩
  · obtain ⟨A', k1, k2⟩ := l1 S A o hC (CR_CT h)
    refine ⟨S, A', EY.refl _ _, vc_Copies_openFast _ ⟨o, 12000, by rw [h.1]; exact hC.1, hC.2.1, ?_⟩, _, _, k2⟩
    rw [h.2.2.1.1]
    exact k1
  · obtain ⟨B', k1, k2⟩ := l2 S B hC h
    exact ⟨S, B', EY.refl _ _, vc_MD_openFast _ _ k1, _, k2⟩
end FastP
