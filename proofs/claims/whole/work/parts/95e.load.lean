/-! rows: clear, addSpan; load and differ on both sides -/
section Load
variable {q : Nat × (Nat → Int32)} {S : ms} {a b d : Int}
/-- a row is emptied -/
def CL (S : ms) (o : Nat) : ms := wI (wI (wI S o 1 0) o 2 0) o 3 0
theorem CL_at (o c : Nat) (k : Int) : (CL S o).1 c k = if c = o ∧ k = 3 then 0 else if c = o ∧ k = 2 then 0 else if c = o ∧ k = 1 then 0 else S.1 c k := rfl
theorem CL_n {o c : Nat} (k : Int) (h : c ≠ o) : (CL S o).1 c k = S.1 c k := by
  rw [CL_at, if_neg (fun z => h z.1), if_neg (fun z => h z.1), if_neg (fun z => h z.1)]
theorem CL_1 {o : Nat} : (CL S o).1 o 1 = 0 := by
  rw [CL_at, if_neg (by omega), if_neg (by omega), if_pos ⟨rfl, rfl⟩]
theorem sp_clear {o N : Nat} (ho : isRow o N) : EV q 37 0 [some (.ref o)] [] S none (CL S o) := by
  refine vc_Row_clear o N ho (fun S1 f1 S2 f2 S3 f3 => ⟨rfl, ?_⟩)
  subst f1 f2 f3
  rfl
/-- addSpan where there is room -/
theorem sp_span {o N c n1 : Nat} (ho : isRow o N) (hc : SH c = (0, n1, [])) (hN : N < 1000000) (hn1 : n1 < 1000000) {p fr to : Int} (hp : S.1 o 1 = p) (h0 : 0 ≤ p) (hf : 0 ≤ fr) (hft : fr ≤ to) (ht : to ≤ n1) (hr : p + (to - fr) ≤ N) : EV q 38 0 [some (.ref o), some (.ref c), some (vI fr), some (vI to), none] [] S none (RW S o p (to - fr) (fun k => S.1 c (fr + k))) := by
  have e1 : w32 fr = fr := w32_of (by omega)
  have e2 : w32 to = to := w32_of (by omega)
  have e3 : w32 (n1 : Nat) = (n1 : Nat) := w32_of (by omega)
  have e4 : min to (n1 : Nat) = to := by omega
  have e5 : w32 (to - fr) = to - fr := w32_of (by omega)
  have e6 : w32 p = p := w32_of (by omega)
  have e7 : w32 (((N : Nat) : Int) - p) = (N : Nat) - p := w32_of (by omega)
  refine vc_Row_addSpan fr to o N ho c n1 hc ?_
  rw [hp, e1, e2, e3, e4, e5, e6, e7]
  refine ⟨fun z => absurd z (by omega), fun _ => ⟨fun _ => ⟨fun _ => ⟨⟨hf, h0, by omega, by omega, by omega⟩, fun S2 f2 S3 f3 => ⟨rfl, ?_⟩⟩, fun z => absurd (by omega) z⟩, fun z => ⟨rfl, ?_⟩⟩⟩
  · subst f2 f3
    have : (wC S (o + 1) p (to - fr) (fun k => S.1 c (fr + k))).1 o 1 = p := by
      rw [rI_C, if_neg (by omega), hp]
    rw [this]
    rfl
  · rw [show to - fr = 0 by omega, RW_0 _ hp]
theorem lp_mdload {n : Int} (h1 : 1 ≤ a) (h2 : a ≤ 12) (hn : n ≤ 6000) {U : ms} (hU : U.1 367 2 = n) : ∀ (t : Nat) (i : Int), 0 ≤ i → i + t = n → EV q 273 42 [some (.ref 367), some (vI a), some (vI i)] [] (wC U 368 0 i (fun k => b8 (U.1 369 (12000 * a + k)))) (some (vI n)) (wC U 368 0 n (fun k => b8 (U.1 369 (12000 * a + k)))) := by
  have e2 : ∀ i : Int, (wC U 368 0 i (fun k => b8 (U.1 369 (12000 * a + k)))).1 367 2 = n := by
    intro i
    rw [rI_C, if_neg (by omega), hU]
  intro t
  induction t with
  | zero =>
    intro i hi ht
    have e : i = n := by omega
    subst e
    refine vc_MD_load_42 _ _ ?_
    rw [e2]
    exact ⟨fun _ => ⟨rfl, rfl⟩, fun c => absurd (Int.le_refl _) c⟩
  | succ t ih =>
    intro i hi ht
    have ei : w32 i = i := w32_of (by omega)
    have en : w32 n = n := w32_of (by omega)
    have ex : w32 (12000 * a + i) = 12000 * a + i := w32_of (by omega)
    refine vc_MD_load_42 _ _ ?_
    rw [e2, ei, en, ex]
    refine ⟨fun c => absurd c (by omega), fun _ => ⟨by omega, by omega, fun S3 f3 => ?_⟩⟩
    have e9 : (wC U 368 0 i (fun k => b8 (U.1 369 (12000 * a + k)))).1 369 (12000 * a + i) = U.1 369 (12000 * a + i) := by
      rw [rI_C, if_neg (by omega)]
    rw [e9] at f3
    have := wC_g U 368 i (fun k => b8 (U.1 369 (12000 * a + k))) hi
    rw [this] at f3
    subst f3
    exact ih (i + 1) (by omega) (by omega)
/-- load(stream) -/
theorem op8_ok (ha : -2147483648 ≤ a ∧ a < 2147483648) (h : RS S) : op_8 q a b d S (fun T => T = wI S 367 0 0 ∨ (Lv S a ∧ S.1 (sR a) 1 ≤ 6000 ∧ T = (let U := wI (wI (RW (CL S 1) 1 0 (S.1 (sR a) 1) (fun k => S.1 (sR a + 1) k)) 367 0 0) 367 2 (S.1 (sR a) 1); wC U 368 0 (S.1 (sR a) 1) (fun k => b8 (U.1 369 (12000 * a + k)))))) := by
  have ea : w32 a = a := w32_of ha
  by_cases hl : Lv S a
  · obtain ⟨l1, l2, l3⟩ := hl
    obtain ⟨g1, g2, -⟩ := (h a l1 l2).2.2 l3
    obtain ⟨i1, i2⟩ := st_is l1 l2
    have hrg := sR_rg l1 l2
    have es : w32 (S.1 (sR a) 1) = S.1 (sR a) 1 := w32_of (by omega)
    have i1' : sh_r (SH 3).2.2 (w32 a).toNat = some (sR a) := by rw [ea]; exact i1
    by_cases c : S.1 (sR a) 1 ≤ 6000
    · have k1 := sp_span (q := q) (S := CL S 1) is_1 i2.2 (by decide) (by decide) (p := 0) (fr := 0) (to := S.1 (sR a) 1) CL_1 (by decide) (by decide) g1.1 (by omega) (by omega)
      have ef : (fun k => (CL S 1).1 (sR a + 1) (0 + k)) = fun k => S.1 (sR a + 1) k := by
        funext k
        rw [CL_n _ (by omega), Int.zero_add]
      rw [ef, Int.sub_zero] at k1
      have e8 : (CL S 1).1 (sR a) 1 = S.1 (sR a) 1 := CL_n _ (by omega)
      refine ⟨S.1 (sR a) 1, RW (CL S 1) 1 0 (S.1 (sR a) 1) (fun k => S.1 (sR a + 1) k), S.1 (sR a) 1, _, vc_PH_load a ⟨1, S, ph_live1 ea ⟨l1, l2, l3⟩, fun _ => ⟨by omega, sR a, 12000, i1', i2, fun _ => ⟨CL S 1, sp_clear is_1, by omega, sR a, 12000, i1', i2, by omega, sR a, 12000, i1', i2, _, ?_, ?_, rfl⟩, fun n => absurd (by rw [es]; exact c) n⟩, fun n => absurd (by decide) n⟩, vc_MD_load a (fun S1 f => ?_), rfl, Or.inr ⟨⟨l1, l2, l3⟩, c, rfl⟩⟩
      · rw [e8]
        exact k1
      · rw [RW_at, if_pos ⟨rfl, rfl⟩, Int.zero_add]
      · subst f
        have o : ∀ (c : Nat) (k : Int), c ≠ 1 → c ≠ 2 → c ≠ 367 → (wI (RW (CL S 1) 1 0 (S.1 (sR a) 1) (fun k => S.1 (sR a + 1) k)) 367 0 0).1 c k = S.1 c k := by
          intro c k c1 c2 c3
          rw [r0a _ _ c3, RW_at, if_neg (by omega), if_neg (by omega), CL_n _ c1]
        have ns : EV q 271 0 [some (.ref 367), some (vI a)] [] (wI (RW (CL S 1) 1 0 (S.1 (sR a) 1) (fun k => S.1 (sR a + 1) k)) 367 0 0) (some (vI 0)) (wI (RW (CL S 1) 1 0 (S.1 (sR a) 1) (fun k => S.1 (sR a + 1) k)) 367 0 0) := by
          refine vc_MD_noStream a ⟨1, _, md_in1 (by show 1 ≤ w32 a; omega) (by show w32 a ≤ 12; omega), fun c => absurd c (by decide), fun _ => ⟨by omega, fun _ => ⟨rfl, rfl⟩, fun c => ?_⟩⟩
          rw [ea, o 371 a (by decide) (by decide) (by decide), (h a l1 l2).2.1, l3] at c
          exact absurd (by decide) c
        refine ⟨0, _, ns, fun _ => ⟨by omega, ?_⟩, fun n => absurd rfl n⟩
        rw [ea, o 370 a (by decide) (by decide) (by decide), g2, es]
        refine ⟨fun _ => ⟨by omega, fun S7 f7 => ?_⟩, fun n => absurd c n⟩
        subst f7
        have key := lp_mdload (q := q) (a := a) (n := S.1 (sR a) 1) l1 l2 c (U := wI (wI (RW (CL S 1) 1 0 (S.1 (sR a) 1) (fun k => S.1 (sR a + 1) k)) 367 0 0) 367 2 (S.1 (sR a) 1)) (by rw [rI_I, if_pos ⟨rfl, rfl⟩]) (S.1 (sR a) 1).toNat 0 (by decide) (by omega)
        rw [wC_0] at key
        exact key
    · refine ⟨-4, S, -4, wI S 367 0 0, vc_PH_load a ⟨1, S, ph_live1 ea ⟨l1, l2, l3⟩, fun _ => ⟨by omega, sR a, 12000, i1', i2, fun n => absurd (by rw [es] at n; exact n) c, fun _ => ⟨rfl, rfl⟩⟩, fun n => absurd (by decide) n⟩, vc_MD_load a (fun S1 f => ?_), rfl, Or.inl rfl⟩
      subst f
      refine ⟨0, _, md_ns0 ea (RS_0 h) (Lv_0.mpr ⟨l1, l2, l3⟩), fun _ => ⟨by omega, ?_⟩, fun n => absurd rfl n⟩
      rw [ea, r0a 370 a (by decide), g2, es]
      exact ⟨fun n => absurd n c, fun _ => ⟨rfl, rfl⟩⟩
  · refine ⟨-1, S, -1, wI S 367 0 0, vc_PH_load a ⟨0, S, ph_live0 ea h hl, fun n => absurd rfl n, fun _ => ⟨rfl, rfl⟩⟩, vc_MD_load a (fun S1 f => ?_), rfl, Or.inl rfl⟩
    subst f
    exact ⟨1, _, md_ns1 ea (RS_0 h) (fun z => hl (Lv_0.mp z)), fun c => absurd c (by decide), fun _ => ⟨rfl, rfl⟩⟩
theorem b8_eq {x y : Int} (hx : 0 ≤ x ∧ x < 256) (hy : 0 ≤ y ∧ y < 256) : b8 x = b8 y ↔ x = y := by
  unfold b8
  omega
/-- differ(stream, other): both look on from place i -/
theorem lp_differ (ea : w32 a = a) (eb : w32 b = b) (h : RS S) (la : Lv S a) (lb : Lv S b) : ∀ (t : Nat) (i : Int), 0 ≤ i → i + t = min (S.1 (sR a) 1) (S.1 (sR b) 1) → ∃ z : Int, EV q 41 50 [some (.ref 0), some (vI a), some (vI b), some (.ref (sR a)), some (.ref (sR b)), some (vI (min (S.1 (sR a) 1) (S.1 (sR b) 1))), some (vI i)] [] S (some (vI z)) S ∧ EV q 275 25 [some (.ref 367), some (vI a), some (vI b), some (vI i)] [] (wI S 367 0 0) (some (vI z)) (wI S 367 0 0) := by
  obtain ⟨l1, l2, l3⟩ := la
  obtain ⟨m1, m2, m3⟩ := lb
  obtain ⟨g1, g2, g3⟩ := (h a l1 l2).2.2 l3
  obtain ⟨f1, f2, f3⟩ := (h b m1 m2).2.2 m3
  have ia := (st_is l1 l2).2
  have ib := (st_is m1 m2).2
  have wa : w32 (S.1 (sR a) 1) = S.1 (sR a) 1 := w32_of (by omega)
  have wb : w32 (S.1 (sR b) 1) = S.1 (sR b) 1 := w32_of (by omega)
  have ra : (wI S 367 0 0).1 370 (w32 a) = S.1 (sR a) 1 := by rw [ea, r0a 370 a (by decide), g2]
  have rb : (wI S 367 0 0).1 370 (w32 b) = S.1 (sR b) 1 := by rw [eb, r0a 370 b (by decide), f2]
  intro t
  induction t with
  | zero =>
    intro i hi ht
    have wi : w32 i = i := w32_of (by omega)
    have wm : w32 (min (S.1 (sR a) 1) (S.1 (sR b) 1)) = min (S.1 (sR a) 1) (S.1 (sR b) 1) := w32_of (by omega)
    by_cases c : S.1 (sR a) 1 = S.1 (sR b) 1
    · refine ⟨-1, vc_PH_differ_50 _ _ _ _ _ _ ia _ _ ib ⟨fun _ => ⟨fun n => absurd (by rw [c]) n, fun _ => ⟨rfl, rfl⟩⟩, fun n => absurd (by rw [wm, wi]; omega) n⟩, vc_MD_differ_25 _ _ _ ⟨by omega, fun _ => vc_MD_differ_78 _ _ _ ⟨by omega, fun n => absurd (by rw [ra, wi, wa]; omega) n, fun _ => ⟨by omega, fun n => absurd (by rw [rb, wi, wb]; omega) n, fun _ => ⟨rfl, rfl⟩⟩⟩, fun n => absurd (by rw [ra, wi, wa]; omega) n⟩⟩
    · have fin : EV q 275 78 [some (.ref 367), some (vI a), some (vI b), some (vI i)] [] (wI S 367 0 0) (some (vI i)) (wI S 367 0 0) := by
        refine vc_MD_differ_78 _ _ _ ?_
        rw [ra, rb, wi, wa, wb]
        exact ⟨by omega, fun _ => ⟨rfl, rfl⟩, fun n1 => ⟨by omega, fun _ => ⟨rfl, rfl⟩, fun n2 => absurd (by have := Classical.not_not.mp n1; have := Classical.not_not.mp n2; omega) c⟩⟩
      refine ⟨i, vc_PH_differ_50 _ _ _ _ _ _ ia _ _ ib ⟨fun _ => ⟨fun _ => ⟨by rw [show min (S.1 (sR a) 1) (S.1 (sR b) 1) = i by omega], rfl⟩, fun n => absurd (by rw [wa, wb] at n; exact Classical.not_not.mp n) c⟩, fun n => absurd (by rw [wm, wi]; omega) n⟩, vc_MD_differ_25 _ _ _ ?_⟩
      rw [ra, rb, wi, wa, wb]
      exact ⟨by omega, fun _ => fin, fun _ => ⟨by omega, fun _ => fin, fun n => absurd (by omega) n⟩⟩
  | succ t ih =>
    intro i hi ht
    have wi : w32 i = i := w32_of (by omega)
    have wm : w32 (min (S.1 (sR a) 1) (S.1 (sR b) 1)) = min (S.1 (sR a) 1) (S.1 (sR b) 1) := w32_of (by omega)
    have xa : w32 (12000 * a + i) = 12000 * a + i := w32_of (by omega)
    have xb : w32 (12000 * b + i) = 12000 * b + i := w32_of (by omega)
    obtain ⟨oa, pa⟩ := g3 i hi (by omega)
    obtain ⟨ob, pb⟩ := f3 i hi (by omega)
    have ya : (wI S 367 0 0).1 369 (12000 * a + i) = b8 (S.1 (sR a + 1) i) := by rw [r0a 369 _ (by decide), pa]
    have yb : (wI S 367 0 0).1 369 (12000 * b + i) = b8 (S.1 (sR b + 1) i) := by rw [r0a 369 _ (by decide), pb]
    have va : w32 (S.1 (sR a + 1) i) = S.1 (sR a + 1) i := w32_of (by omega)
    have vb : w32 (S.1 (sR b + 1) i) = S.1 (sR b + 1) i := w32_of (by omega)
    have ba := b8_rg (S.1 (sR a + 1) i)
    have bb := b8_rg (S.1 (sR b + 1) i)
    have ua : w32 (b8 (S.1 (sR a + 1) i)) = b8 (S.1 (sR a + 1) i) := w32_of (by omega)
    have ub : w32 (b8 (S.1 (sR b + 1) i)) = b8 (S.1 (sR b + 1) i) := w32_of (by omega)
    by_cases c : S.1 (sR a + 1) i = S.1 (sR b + 1) i
    · obtain ⟨z, k1, k2⟩ := ih (i + 1) (by omega) (by omega)
      refine ⟨z, vc_PH_differ_50 _ _ _ _ _ _ ia _ _ ib ?_, vc_MD_differ_25 _ _ _ ?_⟩
      · rw [wm, wi, va, vb]
        exact ⟨fun n => absurd n (by omega), fun _ => ⟨by omega, by omega, fun _ => k1, fun n => absurd c n⟩⟩
      · rw [ra, rb, wi, wa, wb, xa, xb, ya, yb, ua, ub]
        exact ⟨by omega, fun n => absurd n (by omega), fun _ => ⟨by omega, fun n => absurd n (by omega), fun _ => ⟨by omega, by omega, fun n => absurd (by rw [c]) n, fun _ => k2⟩⟩⟩
    · refine ⟨i, vc_PH_differ_50 _ _ _ _ _ _ ia _ _ ib ?_, vc_MD_differ_25 _ _ _ ?_⟩
      · rw [wm, wi, va, vb]
        exact ⟨fun n => absurd n (by omega), fun _ => ⟨by omega, by omega, fun n => absurd n c, fun _ => ⟨rfl, rfl⟩⟩⟩
      · rw [ra, rb, wi, wa, wb, xa, xb, ya, yb, ua, ub]
        refine ⟨by omega, fun n => absurd n (by omega), fun _ => ⟨by omega, fun n => absurd n (by omega), fun _ => ⟨by omega, by omega, fun _ => vc_MD_differ_78 _ _ _ ?_, fun n => absurd ((b8_eq oa ob).mp (Classical.not_not.mp n)) c⟩⟩⟩
        rw [ra, wi, wa]
        exact ⟨by omega, fun _ => ⟨rfl, rfl⟩, fun n => absurd (by omega) n⟩
theorem op10_ok (ha : -2147483648 ≤ a ∧ a < 2147483648) (hb : -2147483648 ≤ b ∧ b < 2147483648) (h : RS S) : op_10 q a b d S (fun T => T = wI S 367 0 0) := by
  have ea : w32 a = a := w32_of ha
  have eb : w32 b = b := w32_of hb
  by_cases la : Lv S a
  · by_cases lb : Lv S b
    · obtain ⟨l1, l2, l3⟩ := la
      obtain ⟨m1, m2, m3⟩ := lb
      have ga := ((h a l1 l2).2.2 l3).1
      have gb := ((h b m1 m2).2.2 m3).1
      obtain ⟨z, k1, k2⟩ := lp_differ (q := q) ea eb h ⟨l1, l2, l3⟩ ⟨m1, m2, m3⟩ (min (S.1 (sR a) 1) (S.1 (sR b) 1)).toNat 0 (by decide) (by omega)
      refine ⟨z, S, z, wI S 367 0 0, vc_PH_differ a b ⟨1, S, ph_live1 ea ⟨l1, l2, l3⟩, fun n => absurd n (by decide), fun _ => ⟨1, S, ph_live1 eb ⟨m1, m2, m3⟩, fun _ => ⟨by omega, sR a, 12000, by rw [ea]; exact (st_is l1 l2).1, (st_is l1 l2).2, by omega, sR b, 12000, by rw [eb]; exact (st_is m1 m2).1, (st_is m1 m2).2, ?_⟩, fun n => absurd (by decide) n⟩⟩, vc_MD_differ a b (fun S1 f => ?_), rfl, rfl⟩
      · rw [w32_of (by omega), w32_of (by omega)]
        exact k1
      · subst f
        exact ⟨0, _, md_ns0 ea (RS_0 h) (Lv_0.mpr ⟨l1, l2, l3⟩), fun n => absurd rfl n, fun _ => ⟨0, _, md_ns0 eb (RS_0 h) (Lv_0.mpr ⟨m1, m2, m3⟩), fun _ => k2, fun n => absurd rfl n⟩⟩
    · refine ⟨-1, S, -1, wI S 367 0 0, vc_PH_differ a b ⟨1, S, ph_live1 ea la, fun n => absurd n (by decide), fun _ => ⟨0, S, ph_live0 eb h lb, fun n => absurd rfl n, fun _ => ⟨rfl, rfl⟩⟩⟩, vc_MD_differ a b (fun S1 f => ?_), rfl, rfl⟩
      subst f
      exact ⟨0, _, md_ns0 ea (RS_0 h) (Lv_0.mpr la), fun n => absurd rfl n, fun _ => ⟨1, _, md_ns1 eb (RS_0 h) (fun z => lb (Lv_0.mp z)), fun n => absurd n (by decide), fun _ => ⟨rfl, rfl⟩⟩⟩
  · refine ⟨-1, S, -1, wI S 367 0 0, vc_PH_differ a b ⟨0, S, ph_live0 ea h la, fun _ => ⟨rfl, rfl⟩, fun n => absurd rfl n⟩, vc_MD_differ a b (fun S1 f => ?_), rfl, rfl⟩
    subst f
    exact ⟨1, _, md_ns1 ea (RS_0 h) (fun z => la (Lv_0.mp z)), fun _ => ⟨rfl, rfl⟩, fun n => absurd (by decide) n⟩
end Load
