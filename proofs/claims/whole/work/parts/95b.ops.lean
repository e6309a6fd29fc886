/-! STREAMS on both sides: length, at, drop; token -/
section Ops2
variable {q : Nat × (Nat → Int32)} {S : ms} {a b d : Int}
theorem st_row : ∀ n : Nat, n < 13 → 1 ≤ n → sh_r (SH 3).2.2 n = some (341 + 2 * n) ∧ SH (341 + 2 * n) = (12, 4, [(2, 341 + 2 * n + 1), (0, 0), (0, 0), (0, 0)]) ∧ SH (341 + 2 * n + 1) = (0, 12000, [])
  | 0, _, h => absurd h (by decide)
  | 1, _, _ => ⟨rfl, rfl, rfl⟩
  | 2, _, _ => ⟨rfl, rfl, rfl⟩
  | 3, _, _ => ⟨rfl, rfl, rfl⟩
  | 4, _, _ => ⟨rfl, rfl, rfl⟩
  | 5, _, _ => ⟨rfl, rfl, rfl⟩
  | 6, _, _ => ⟨rfl, rfl, rfl⟩
  | 7, _, _ => ⟨rfl, rfl, rfl⟩
  | 8, _, _ => ⟨rfl, rfl, rfl⟩
  | 9, _, _ => ⟨rfl, rfl, rfl⟩
  | 10, _, _ => ⟨rfl, rfl, rfl⟩
  | 11, _, _ => ⟨rfl, rfl, rfl⟩
  | 12, _, _ => ⟨rfl, rfl, rfl⟩
  | n + 13, h, _ => absurd h (by omega)
/-- the row of STREAM s -/
def sR (s : Int) : Nat := 341 + 2 * s.toNat
theorem st_is {s : Int} (h1 : 1 ≤ s) (h2 : s ≤ 12) : sh_r (SH 3).2.2 s.toNat = some (sR s) ∧ isRow (sR s) 12000 := by
  obtain ⟨e1, e2, e3⟩ := st_row s.toNat (by omega) (by omega)
  exact ⟨e1, e2, e3⟩
theorem sR_rg {s : Int} (h1 : 1 ≤ s) (h2 : s ≤ 12) : 343 ≤ sR s ∧ sR s ≤ 365 := by
  unfold sR
  omega
/-- STREAMS: the same ones are there, with the same octets -/
def RS (S : ms) : Prop := ∀ s : Int, 1 ≤ s → s ≤ 12 → (S.1 4 s = 0 ∨ S.1 4 s = 1) ∧ S.1 371 s = S.1 4 s ∧ (S.1 4 s = 1 → (0 ≤ S.1 (sR s) 1 ∧ S.1 (sR s) 1 ≤ 12000) ∧ S.1 370 s = S.1 (sR s) 1 ∧ ∀ k : Int, 0 ≤ k → k < S.1 (sR s) 1 → (0 ≤ S.1 (sR s + 1) k ∧ S.1 (sR s + 1) k < 256) ∧ S.1 369 (12000 * s + k) = b8 (S.1 (sR s + 1) k))
/-- there is such a STREAM -/
def Lv (S : ms) (x : Int) : Prop := 1 ≤ x ∧ x ≤ 12 ∧ S.1 4 x = 1
theorem ph_live1 (ea : w32 a = a) (h : Lv S a) : EV q 34 0 [some (.ref 0), some (vI a)] [] S (some (vI 1)) S := by
  obtain ⟨h1, h2, h3⟩ := h
  refine vc_PH_isLive a ⟨fun c => absurd c (by omega), fun _ => ⟨fun c => absurd c (by omega), fun _ => ⟨by omega, fun c => ?_, fun _ => ⟨rfl, rfl⟩⟩⟩⟩
  rw [ea, h3] at c
  exact absurd c (by decide)
theorem ph_live0 (ea : w32 a = a) (hr : RS S) (h : ¬ Lv S a) : EV q 34 0 [some (.ref 0), some (vI a)] [] S (some (vI 0)) S := by
  refine vc_PH_isLive a ⟨fun _ => ⟨rfl, rfl⟩, fun c1 => ⟨fun _ => ⟨rfl, rfl⟩, fun c2 => ⟨by omega, fun _ => ⟨rfl, rfl⟩, fun c => ?_⟩⟩⟩
  rw [ea] at c
  rcases (hr a (by omega) (by omega)).1 with z | z
  · rw [z] at c
    exact absurd rfl c
  · exact absurd ⟨by omega, by omega, z⟩ h
theorem md_ns0 (ea : w32 a = a) (hr : RS S) (h : Lv S a) : EV q 271 0 [some (.ref 367), some (vI a)] [] S (some (vI 0)) S := by
  obtain ⟨h1, h2, h3⟩ := h
  refine vc_MD_noStream a ⟨1, S, md_in1 (by show 1 ≤ w32 a; omega) (by show w32 a ≤ 12; omega), fun c => absurd c (by decide), fun _ => ⟨by omega, fun _ => ⟨rfl, rfl⟩, fun c => ?_⟩⟩
  rw [ea, (hr a h1 h2).2.1, h3] at c
  exact absurd (by decide) c
theorem md_ns1 (ea : w32 a = a) (hr : RS S) (h : ¬ Lv S a) : EV q 271 0 [some (.ref 367), some (vI a)] [] S (some (vI 1)) S := by
  by_cases c : 1 ≤ a ∧ a ≤ 12
  · refine vc_MD_noStream a ⟨1, S, md_in1 (by show 1 ≤ w32 a; omega) (by show w32 a ≤ 12; omega), fun c => absurd c (by decide), fun _ => ⟨by omega, fun n => ?_, fun _ => vc_MD_noStream_19 a ⟨rfl, rfl⟩⟩⟩
    rw [ea, (hr a c.1 c.2).2.1] at n
    rcases (hr a c.1 c.2).1 with z | z
    · rw [z] at n
      exact absurd rfl n
    · exact absurd ⟨c.1, c.2, z⟩ h
  · exact vc_MD_noStream a ⟨0, S, md_in0 (by show w32 a < 1 ∨ 12 < w32 a; omega), fun _ => vc_MD_noStream_19 a ⟨rfl, rfl⟩, fun n => absurd rfl n⟩
theorem RS_0 (h : RS S) : RS (wI S 367 0 0) := by
  intro s h1 h2
  have := sR_rg h1 h2
  have e : ∀ (c : Nat) (k : Int), c ≠ 367 → (wI S 367 0 0).1 c k = S.1 c k := fun c k hc => r0a c k hc
  rw [e 4 s (by decide), e 371 s (by decide), e 370 s (by decide), e (sR s) 1 (by omega)]
  refine ⟨(h s h1 h2).1, (h s h1 h2).2.1, fun z => ?_⟩
  obtain ⟨g1, g2, g3⟩ := (h s h1 h2).2.2 z
  refine ⟨g1, g2, fun k k1 k2 => ?_⟩
  rw [e _ _ (by omega), e _ _ (by decide)]
  exact g3 k k1 k2
theorem Lv_0 : Lv (wI S 367 0 0) a ↔ Lv S a := by
  unfold Lv
  rw [r0a 4 a (by decide)]
/-- length(stream) -/
theorem op6_ok (ha : -2147483648 ≤ a ∧ a < 2147483648) (h : RS S) : op_6 q a b d S (fun T => T = wI S 367 0 0) := by
  have ea : w32 a = a := w32_of ha
  by_cases hl : Lv S a
  · obtain ⟨l1, l2, l3⟩ := hl
    obtain ⟨g1, g2, -⟩ := (h a l1 l2).2.2 l3
    obtain ⟨i1, i2⟩ := st_is l1 l2
    refine ⟨S.1 (sR a) 1, S, S.1 (sR a) 1, wI S 367 0 0, vc_PH_length a ⟨1, S, ph_live1 ea ⟨l1, l2, l3⟩, fun c => absurd c (by decide), fun _ => ⟨by omega, sR a, 12000, by rw [ea]; exact i1, i2, rfl, rfl⟩⟩, vc_MD_length a (fun S1 f => ?_), rfl, rfl⟩
    subst f
    refine ⟨0, _, md_ns0 ea (RS_0 h) (Lv_0.mpr ⟨l1, l2, l3⟩), fun _ => ⟨by omega, ?_, rfl⟩, fun n => absurd rfl n⟩
    rw [ea, r0a 370 a (by decide), g2]
  · refine ⟨-1, S, -1, wI S 367 0 0, vc_PH_length a ⟨0, S, ph_live0 ea h hl, fun _ => ⟨rfl, rfl⟩, fun n => absurd rfl n⟩, vc_MD_length a (fun S1 f => ?_), rfl, rfl⟩
    subst f
    exact ⟨1, _, md_ns1 ea (RS_0 h) (fun z => hl (Lv_0.mp z)), fun c => absurd c (by decide), fun _ => ⟨rfl, rfl⟩⟩
/-- at(stream, i) -/
theorem op7_ok (ha : -2147483648 ≤ a ∧ a < 2147483648) (hb : -2147483648 ≤ b ∧ b < 2147483648) (h : RS S) : op_7 q a b d S (fun T => T = wI S 367 0 0) := by
  have ea : w32 a = a := w32_of ha
  have eb : w32 b = b := w32_of hb
  by_cases hl : Lv S a
  · obtain ⟨l1, l2, l3⟩ := hl
    obtain ⟨g1, g2, g3⟩ := (h a l1 l2).2.2 l3
    obtain ⟨i1, i2⟩ := st_is l1 l2
    have es : w32 (S.1 (sR a) 1) = S.1 (sR a) 1 := w32_of (by omega)
    have e370 : (wI S 367 0 0).1 370 (w32 a) = S.1 (sR a) 1 := by rw [ea, r0a 370 a (by decide), g2]
    have ns := md_ns0 (q := q) ea (RS_0 h) (Lv_0.mpr ⟨l1, l2, l3⟩)
    by_cases c : b < 0
    · refine ⟨-1, S, -1, wI S 367 0 0, vc_PH_at a b ⟨1, S, ph_live1 ea ⟨l1, l2, l3⟩, fun c => absurd c (by decide), fun _ => ⟨fun _ => ⟨rfl, rfl⟩, fun n => absurd (by rw [eb]; exact c) n⟩⟩, vc_MD_at a b (fun S1 f => ?_), rfl, rfl⟩
      subst f
      exact ⟨0, _, ns, fun n => absurd rfl n, fun _ => ⟨fun _ => vc_MD_at_27 a b ⟨rfl, rfl⟩, fun n => absurd (by rw [eb]; exact c) n⟩⟩
    · by_cases c2 : b < S.1 (sR a) 1
      · obtain ⟨k1, k2⟩ := g3 b (by omega) c2
        have ei : w32 (12000 * a + b) = 12000 * a + b := w32_of (by omega)
        refine ⟨S.1 (sR a + 1) b, S, S.1 369 (12000 * a + b) % 256, wI S 367 0 0, vc_PH_at a b ⟨1, S, ph_live1 ea ⟨l1, l2, l3⟩, fun c => absurd c (by decide), fun _ => ⟨fun n => absurd n (by rw [eb]; exact c), fun _ => ⟨by omega, sR a, 12000, by rw [ea]; exact i1, i2, fun _ => ⟨by omega, sR a, 12000, by rw [ea]; exact i1, i2, by omega, by rw [eb], rfl⟩, fun n => absurd (by rw [eb, es]; exact c2) n⟩⟩⟩, vc_MD_at a b (fun S1 f => ?_), by rw [oct_eq k1 k2], rfl⟩
        subst f
        refine ⟨0, _, ns, fun n => absurd rfl n, fun _ => ⟨fun n => absurd n (by rw [eb]; exact c), fun _ => ⟨by omega, fun _ => ⟨by omega, ?_, rfl⟩, fun n => absurd (by rw [e370, eb, es]; exact c2) n⟩⟩⟩
        rw [ei, r0a 369 _ (by decide)]
      · refine ⟨-1, S, -1, wI S 367 0 0, vc_PH_at a b ⟨1, S, ph_live1 ea ⟨l1, l2, l3⟩, fun c => absurd c (by decide), fun _ => ⟨fun n => absurd n (by rw [eb]; exact c), fun _ => ⟨by omega, sR a, 12000, by rw [ea]; exact i1, i2, fun n => absurd (by rw [eb, es] at n; exact n) c2, fun _ => ⟨rfl, rfl⟩⟩⟩⟩, vc_MD_at a b (fun S1 f => ?_), rfl, rfl⟩
        subst f
        exact ⟨0, _, ns, fun n => absurd rfl n, fun _ => ⟨fun n => absurd n (by rw [eb]; exact c), fun _ => ⟨by omega, fun n => absurd (by rw [e370, eb, es] at n; exact n) c2, fun _ => vc_MD_at_27 a b ⟨rfl, rfl⟩⟩⟩⟩
  · refine ⟨-1, S, -1, wI S 367 0 0, vc_PH_at a b ⟨0, S, ph_live0 ea h hl, fun _ => ⟨rfl, rfl⟩, fun n => absurd rfl n⟩, vc_MD_at a b (fun S1 f => ?_), rfl, rfl⟩
    subst f
    exact ⟨1, _, md_ns1 ea (RS_0 h) (fun z => hl (Lv_0.mp z)), fun _ => vc_MD_at_27 a b ⟨rfl, rfl⟩, fun n => absurd (by decide) n⟩
/-- drop(stream) -/
theorem op9_ok (ha : -2147483648 ≤ a ∧ a < 2147483648) (h : RS S) : op_9 q a b d S (fun T => T = wI S 367 0 0 ∨ (Lv S a ∧ T = wI (wI (wI S 4 a 0) 367 0 0) 371 a 0)) := by
  have ea : w32 a = a := w32_of ha
  by_cases hl : Lv S a
  · obtain ⟨l1, l2, l3⟩ := hl
    obtain ⟨g1, g2, -⟩ := (h a l1 l2).2.2 l3
    obtain ⟨i1, i2⟩ := st_is l1 l2
    have hrg := sR_rg l1 l2
    have eR : (wI S 4 a 0).1 (sR a) 1 = S.1 (sR a) 1 := by rw [rI_I, if_neg (by omega)]
    refine ⟨S.1 (sR a) 1, wI S 4 a 0, S.1 (sR a) 1, wI (wI (wI S 4 a 0) 367 0 0) 371 a 0, vc_PH_drop a ⟨1, S, ph_live1 ea ⟨l1, l2, l3⟩, fun _ => ⟨by omega, fun S5 f => ⟨by omega, sR a, 12000, by rw [ea]; exact i1, i2, ?_, ?_⟩⟩, fun n => absurd (by decide) n⟩, vc_MD_drop a (fun S1 f => ?_), rfl, Or.inr ⟨⟨l1, l2, l3⟩, rfl⟩⟩
    · rw [ea] at f
      subst f
      show some (vI (S.1 (sR a) 1)) = some (vI ((wI S 4 a 0).1 (sR a) 1))
      rw [eR]
    · rw [ea] at f
      exact f.symm
    · subst f
      -- the reference looks at its own mark, which stands as it was
      have ns : EV q 271 0 [some (.ref 367), some (vI a)] [] (wI (wI S 4 a 0) 367 0 0) (some (vI 0)) (wI (wI S 4 a 0) 367 0 0) := by
        refine vc_MD_noStream a ⟨1, _, md_in1 (by show 1 ≤ w32 a; omega) (by show w32 a ≤ 12; omega), fun c => absurd c (by decide), fun _ => ⟨by omega, fun _ => ⟨rfl, rfl⟩, fun c => ?_⟩⟩
        rw [ea, r0a 371 a (by decide), rI_I, if_neg (by omega), (h a l1 l2).2.1, l3] at c
        exact absurd (by decide) c
      refine ⟨0, _, ns, fun _ => ⟨by omega, fun S6 f => ⟨by omega, ?_, ?_⟩⟩, fun n => absurd rfl n⟩
      · rw [ea] at f
        subst f
        rw [ea, rI_I, if_neg (by omega), r0a 370 a (by decide), rI_I, if_neg (by omega), g2]
      · rw [ea] at f
        exact f.symm
  · refine ⟨-1, S, -1, wI S 367 0 0, vc_PH_drop a ⟨0, S, ph_live0 ea h hl, fun n => absurd rfl n, fun _ => ⟨rfl, rfl⟩⟩, vc_MD_drop a (fun S1 f => ?_), rfl, Or.inl rfl⟩
    subst f
    exact ⟨1, _, md_ns1 ea (RS_0 h) (fun z => hl (Lv_0.mp z)), fun c => absurd c (by decide), fun _ => ⟨rfl, rfl⟩⟩
/-- the parse that is told -/
def RK (S : ms) : Prop := (0 ≤ S.1 10 12 ∧ S.1 10 12 ≤ 6000) ∧ S.1 367 84 = S.1 10 12 ∧ ∀ k : Int, 0 ≤ k → k < S.1 10 12 → S.1 416 k = S.1 16 k ∧ S.1 417 k = S.1 17 k ∧ S.1 418 k = S.1 18 k
/-- token(i, what) -/
theorem op14_ok (ha : -2147483648 ≤ a ∧ a < 2147483648) (h : RK S) : op_14 q a b d S (fun T => T = wI S 367 0 0) := by
  obtain ⟨h1, h2, h3⟩ := h
  have ea : w32 a = a := w32_of ha
  have e1 : w32 (S.1 10 12) = S.1 10 12 := w32_of (by omega)
  let z : Int := if a = -1 then S.1 10 12 else if a < 0 then -1 else if a < S.1 10 12 then (if w32 b = 0 then S.1 16 a else if w32 b = 1 then S.1 17 a else if w32 b = 2 then S.1 18 a else -2) else -1
  have hz : ∀ v : Int, z = v → some (vI z) = some (vI v) := fun v e => by rw [e]
  refine ⟨z, S, z, wI S 367 0 0, vc_PH_token a b ?_, vc_MD_token a b (fun S1 f => ?_), rfl, rfl⟩
  · rw [ea, e1]
    refine ⟨fun c => ⟨fun c1 => ⟨hz _ ?_, rfl⟩, fun c1 => ⟨fun c2 => ⟨fun c3 => ⟨by omega, hz _ ?_, rfl⟩, fun c3 => ⟨by omega, hz _ ?_, rfl⟩, fun c3 => ⟨by omega, hz _ ?_, rfl⟩, fun c3 c4 c5 => ⟨hz _ ?_, rfl⟩⟩, fun c2 => ⟨hz _ ?_, rfl⟩⟩⟩, fun c => ⟨hz _ ?_, rfl⟩⟩
    · show (if a = -1 then _ else if a < 0 then _ else _) = _
      rw [if_neg c, if_pos c1]
    · show (if a = -1 then _ else if a < 0 then _ else if a < S.1 10 12 then (if w32 b = 0 then _ else _) else _) = _
      rw [if_neg c, if_neg c1, if_pos c2, if_pos c3]
    · show (if a = -1 then _ else if a < 0 then _ else if a < S.1 10 12 then (if w32 b = 0 then _ else if w32 b = 1 then _ else _) else _) = _
      rw [if_neg c, if_neg c1, if_pos c2, if_neg (by omega), if_pos c3]
    · show (if a = -1 then _ else if a < 0 then _ else if a < S.1 10 12 then (if w32 b = 0 then _ else if w32 b = 1 then _ else if w32 b = 2 then _ else _) else _) = _
      rw [if_neg c, if_neg c1, if_pos c2, if_neg (by omega), if_neg (by omega), if_pos c3]
    · show (if a = -1 then _ else if a < 0 then _ else if a < S.1 10 12 then (if w32 b = 0 then _ else if w32 b = 1 then _ else if w32 b = 2 then _ else _) else _) = _
      rw [if_neg c, if_neg c1, if_pos c2, if_neg c3, if_neg c4, if_neg c5]
    · show (if a = -1 then _ else if a < 0 then _ else if a < S.1 10 12 then _ else _) = _
      rw [if_neg c, if_neg c1, if_neg c2]
    · show (if a = -1 then _ else _) = _
      rw [if_pos (Classical.not_not.mp c)]
  · subst f
    rw [r0 84 (by decide), h2, ea, e1]
    refine ⟨fun c => ⟨fun c1 => ⟨hz _ ?_, rfl⟩, fun c1 => ⟨fun c2 => ⟨fun c3 => ⟨fun c4 => ⟨fun c5 => ⟨hz _ ?_, rfl⟩, fun c5 => ⟨by omega, hz _ ?_, rfl⟩⟩, fun c4 => ⟨by omega, hz _ ?_, rfl⟩⟩, fun c3 => ⟨by omega, hz _ ?_, rfl⟩⟩, fun c2 => ⟨hz _ ?_, rfl⟩⟩⟩, fun c => ⟨hz _ ?_, rfl⟩⟩
    · show (if a = -1 then _ else if a < 0 then _ else _) = _
      rw [if_neg c, if_pos c1]
    · show (if a = -1 then _ else if a < 0 then _ else if a < S.1 10 12 then (if w32 b = 0 then _ else if w32 b = 1 then _ else if w32 b = 2 then _ else _) else _) = _
      rw [if_neg c, if_neg c1, if_pos c2, if_neg c3, if_neg c4, if_neg c5]
    · show (if a = -1 then _ else if a < 0 then _ else if a < S.1 10 12 then (if w32 b = 0 then _ else if w32 b = 1 then _ else if w32 b = 2 then _ else _) else _) = _
      rw [if_neg c, if_neg c1, if_pos c2, if_neg c3, if_neg c4, if_pos (Classical.not_not.mp c5), r0a 418 a (by decide), (h3 a (by omega) c2).2.2]
    · show (if a = -1 then _ else if a < 0 then _ else if a < S.1 10 12 then (if w32 b = 0 then _ else if w32 b = 1 then _ else _) else _) = _
      rw [if_neg c, if_neg c1, if_pos c2, if_neg c3, if_pos (Classical.not_not.mp c4), r0a 417 a (by decide), (h3 a (by omega) c2).2.1]
    · show (if a = -1 then _ else if a < 0 then _ else if a < S.1 10 12 then (if w32 b = 0 then _ else _) else _) = _
      rw [if_neg c, if_neg c1, if_pos c2, if_pos (Classical.not_not.mp c3), r0a 416 a (by decide), (h3 a (by omega) c2).1]
    · show (if a = -1 then _ else if a < 0 then _ else if a < S.1 10 12 then _ else _) = _
      rw [if_neg c, if_neg c1, if_neg c2]
    · show (if a = -1 then _ else _) = _
      rw [if_pos (Classical.not_not.mp c)]
end Ops2
