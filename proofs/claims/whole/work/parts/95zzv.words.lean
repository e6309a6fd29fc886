/-! open, kind 2: WORDS, all -/
section WordsP
variable {q : Nat × (Nat → Int32)} {en : Int}
def WX (a : Nat) (_ : Int) : Prop := a = 26 ∨ a = 27
def WY (a : Nat) (_ : Int) : Prop := a = 383 ∨ a = 384
/-- both sides, with ne entries: where each begins, how long it is -/
def WCl (S A : ms) (o : Nat) (en : Int) (t : Int → Int) (st : Rd) (h : Int) (ne : Nat) (Pl Le : Nat → Int) : Prop := ∃ S', EY WX S S' ∧ (∀ e : Nat, e < ne → S'.1 26 (258 + e) = Pl e ∧ S'.1 27 (258 + e) = Le e) ∧ CB S' A o en t st h
def WMl (S B : ms) (en : Int) (st : Rd) (h : Int) (ne : Nat) (Pl Le : Nat → Int) : Prop := ∃ S', EY WY S S' ∧ (∀ e : Nat, e < ne → S'.1 383 e = Pl e ∧ S'.1 384 e = Le e) ∧ MB S' B en st h
def wdE (ne : Nat) (Pl Le : Nat → Int) (c : Int) : Prop := ∀ e : Nat, e < ne → 0 ≤ Pl e ∧ 1 ≤ Le e ∧ Pl e + Le e ≤ c
theorem rdEmit_1 {v : Int} {s : Rd} (y : (rdEmit v s).1 = 0) : s.1 = 0 ∧ (rdEmit v s).2.2.2.1 = s.2.2.2.1 + 1 ∧ ∀ k, (rdEmit v s).2.2.2.2 k = if k = s.2.2.2.1 then v % 256 else s.2.2.2.2 k := by
  unfold rdEmit at y ⊢
  by_cases c : s.1 ≠ 0
  · rw [if_pos c] at y
    exact absurd y c
  · rw [if_neg c] at y ⊢
    by_cases d : s.2.2.2.1 = 12000
    · rw [if_pos d] at y
      exact absurd (show (13 : Int) = 0 from y) (by decide)
    · rw [if_neg d]
      exact ⟨by omega, rfl, fun _ => rfl⟩
theorem rdBack_1 {d : Int} : ∀ (n : Nat) {s : Rd}, (rdBack d n s).1 = 0 → s.1 = 0 ∧ (rdBack d n s).2.2.2.1 = s.2.2.2.1 + n
  | 0, s, y => ⟨y, by show s.2.2.2.1 = s.2.2.2.1 + ((0 : Nat) : Int); omega⟩
  | n + 1, s, y => by
    rw [rdBack_s] at y ⊢
    by_cases c : s.1 ≠ 0
    · rw [if_pos c] at y
      exact absurd y c
    · rw [if_neg c] at y ⊢
      obtain ⟨h1, h2⟩ := rdBack_1 n y
      have := (rdEmit_1 h1).2.1
      exact ⟨by omega, by omega⟩
theorem hR_n {st st' : Rd} {h : Int} (hh : hR st h) (f : Fw st st') : hR st' h := ⟨hh.1, fun y => by have := hh.2 y; have := f.2; omega⟩
/-- what the codes give, one after the other -/
theorem jwd {t : Int → Int} (he : 0 ≤ en ∧ en ≤ 6000) (ht : ∀ k : Int, 0 ≤ k → k < en → 0 ≤ t k ∧ t k < 256) : ∀ (m i k : Nat) (bf : Int) (st : Rd) (h : Int) (Pl Le : Nat → Int), 8 * en - rdP st h ≤ m → i + m ≤ 60000 → k ≤ 3839 → rdR en st → hR st h → (1 ≤ k → 0 ≤ bf ∧ bf < st.2.2.2.1) → wdE (k - 1) Pl Le st.2.2.2.1 → ∃ stf : Rd, rdR en stf ∧ (∀ (S A : ms) (o : Nat), S.1 9 7 = 0 → RdC S o en t → WCl S A o en t st h (k - 1) Pl Le → ∃ S' A', EY WX S S' ∧ EV q 122 7 [some (.ref 22), some (.ref 9), some (vI k), some (vI bf), some (vI i), none, none] [] A none A' ∧ CF S' A' o en stf) ∧ ∀ (S B : ms) (x1 x4 : Int), (1 ≤ k → st.1 = 0 → x4 = st.2.2.2.1 - bf) → S.1 367 18 = 0 → RdM S en t → WMl S B en st h (k - 1) Pl Le → ∃ S' B', EY WY S S' ∧ EV q 338 41 [some (.ref 367), some (vI x1), some (vI k), some (vI bf), some (vI x4), some (vI 1), none, none, none, none, none] [] B none B' ∧ MF S' B' en stf := by
  -- a rule is told
  have sC : ∀ (S A : ms) (o : Nat) (st : Rd) (h x2 x3 x4 : Int), st.1 ≠ 0 → rdR en st → (∃ S', EY WX S S' ∧ CB S' A o en t st h) → ∃ S' A', EY WX S S' ∧ EV q 122 7 [some (.ref 22), some (.ref 9), some (vI x2), some (vI x3), some (vI x4), none, none] [] A none A' ∧ CF S' A' o en st := by
    intro S A o st h x2 x3 x4 c hr hA
    obtain ⟨S', i1, i2⟩ := hA
    refine ⟨S', A, i1, vc_Plain_openWords_7 _ _ _ ⟨fun _ => ⟨rfl, rfl⟩, fun _ => ?_⟩, t, h, i2⟩
    rw [i2.2.1.2.1, w32_of (by have := hr.1; omega)]
    exact cY c ⟨rfl, rfl⟩
  have sM : ∀ (S B : ms) (st : Rd) (h x1 x2 x3 x4 : Int), st.1 ≠ 0 → rdR en st → hR st h → (∃ S', EY WY S S' ∧ MB S' B en st h) → ∃ S' B', EY WY S S' ∧ EV q 338 41 [some (.ref 367), some (vI x1), some (vI x2), some (vI x3), some (vI x4), some (vI 1), none, none, none, none, none] [] B none B' ∧ MF S' B' en st := by
    intro S B st h x1 x2 x3 x4 c hr hh hB
    obtain ⟨S', i1, i2⟩ := hB
    obtain ⟨B', k1, k2⟩ := mb_end (q := q) he.2 hr hh i2
    have e : rdEnd en st = st := by
      unfold rdEnd rdTellAt
      by_cases d : en ≤ st.2.2.1
      · rw [if_pos d]
      · rw [if_neg d, if_pos c]
    rw [e] at k2
    have kf := md_fine (q := q) hr i2
    rw [if_neg c] at kf
    exact ⟨S', B', i1, vc_MD_openWords_41 _ _ _ _ _ (cNo (by decide) ⟨0, B, kf, cY (by decide) (vc_MD_openWords_327 _ _ _ _ _ ⟨B', k1, rfl, rfl⟩)⟩), 0, k2⟩
  intro m
  induction m with
  | zero =>
    intro i k bf st h Pl Le hm hi hk hr hh hbf hE
    by_cases c : st.1 ≠ 0
    · exact ⟨st, hr, fun S A o _ _ hA => by
        obtain ⟨S', i1, _, i2⟩ := hA
        exact sC S A o st h k bf i c hr ⟨S', i1, i2⟩, fun S B x1 x4 _ _ _ hB => by
        obtain ⟨S', i1, _, i2⟩ := hB
        exact sM S B st h x1 k bf x4 c hr hh ⟨S', i1, i2⟩⟩
    · -- no bit is left
      have c0 : st.1 = 0 := by omega
      have wr : w32 st.1 = st.1 := w32_of (by omega)
      have wi : Unit → w32 (i : Int) = i := fun _ => w32_of (by omega)
      have wk : Unit → w32 (k : Int) = k := fun _ => w32_of (by omega)
      have i0 : ¬ 1000000 ≤ (i : Int) := by omega
      have wd := wdV_rg k
      obtain ⟨z, z', s1, h1, ⟨g1, g2, g3, g4⟩, g5, g6, g7⟩ := jbits0 (q := q) he.2 ht (hi := 0) (Or.inl rfl) (n := wdV k) (by omega) hr hh
      have c1 : s1.1 ≠ 0 := by
        intro y
        have e := (g5 y).2.2
        have r1 := g1.2.1
        have u1 := g3.1
        unfold rdP at e hm
        omega
      have wr1 : w32 s1.1 = s1.1 := w32_of (by have := g1.1; omega)
      refine ⟨s1, g1, fun S A o hS hC hA => ?_, fun S B x1 x4 _ hS hC hB => ?_⟩
      · obtain ⟨S', i1, i2, i3⟩ := hA
        have hC' := RdC_ey hC i1 (fun _ => by unfold WX; omega)
        obtain ⟨A1, k1, k2⟩ := g6 S' A o (by rw [i1.2 9 7 (by unfold WX; omega)]; exact hS) hC' i3
        refine ⟨S', A1, i1, vc_Plain_openWords_7 _ _ _ ?_, t, h1, k2⟩
        rw [wi (), i3.2.1.2.1, wr, wk ()]
        refine cNo i0 (cNN c0 (cY (by omega) ⟨_, A, cw_width (by omega), vc_Plain_openWords_35 _ _ _ _ ⟨z, A1, k1, o, 12000, by rw [k2.1]; exact hC'.1, hC'.2.1, ?_⟩⟩))
        rw [k2.2.1.2.1, wr1]
        exact cNo c1 ⟨rfl, rfl⟩
      · obtain ⟨S', i1, i2, i3⟩ := hB
        have hC' := RdM_ey hC i1 (fun _ => by unfold WY; omega)
        obtain ⟨B1, k1, k2⟩ := g7 S' B (by rw [i1.2 367 18 (by unfold WY; omega)]; exact hS) hC' i3
        have kf := md_fine (q := q) hr i3
        rw [if_pos c0] at kf
        have kf1 := md_fine (q := q) g1 k2
        rw [if_neg c1] at kf1
        exact ⟨S', B1, i1, vc_MD_openWords_41 _ _ _ _ _ (cNo (by decide) ⟨1, B, kf, cNo (by decide) ⟨_, B, mw_width (by omega), z', B1, k1, 0, B1, kf1, cNN (by decide) ⟨rfl, rfl⟩⟩⟩), h1, k2⟩
  | succ m ih =>
    intro i k bf st h Pl Le hm hi hk hr hh hbf hE
    by_cases c : st.1 ≠ 0
    · exact ⟨st, hr, fun S A o _ _ hA => by
        obtain ⟨S', i1, _, i2⟩ := hA
        exact sC S A o st h k bf i c hr ⟨S', i1, i2⟩, fun S B x1 x4 _ _ _ hB => by
        obtain ⟨S', i1, _, i2⟩ := hB
        exact sM S B st h x1 k bf x4 c hr hh ⟨S', i1, i2⟩⟩
    have c0 : st.1 = 0 := by omega
    have wr : w32 st.1 = st.1 := w32_of (by omega)
    have wi : Unit → w32 (i : Int) = i := fun _ => w32_of (by omega)
    have wk : Unit → w32 (k : Int) = k := fun _ => w32_of (by omega)
    have i0 : ¬ 1000000 ≤ (i : Int) := by omega
    have wd := wdV_rg k
    have ei : ((i + 1 : Nat) : Int) = (i : Int) + 1 := by omega
    obtain ⟨z, z', s1, h1, ⟨g1, g2, g3, g4⟩, g5, g6, g7⟩ := jbits0 (q := q) he.2 ht (hi := 0) (Or.inl rfl) (n := wdV k) (by omega) hr hh
    have wr1 : w32 s1.1 = s1.1 := w32_of (by have := g1.1; omega)
    -- both, as far as the code is known
    have hc : ∀ (S A : ms) (o : Nat), S.1 9 7 = 0 → RdC S o en t → WCl S A o en t st h (k - 1) Pl Le → ∃ A1, WCl S A1 o en t s1 h1 (k - 1) Pl Le ∧ A1.2.2 9 1 = o ∧ A1.1 9 5 = s1.1 ∧ A1.1 o 1 = s1.2.2.2.1 ∧ ∀ S' : ms, (((w32 s1.1 = 0) → ((¬ w32 z = 256) → ((0 ≤ (k : Int)) → ((¬ w32 z = 257) → (((k : Int) ≤ 3838) → ∃ (S7 : ms), EV q 127 0 [some (.ref 22), some (.ref 9), some (vI z), some (vI k), some (vI bf)] [] A1 none S7 ∧ EV q 122 128 [some (.ref 22), some (.ref 9), some (vI ((k : Int) + 1)), some (vI s1.2.2.2.1), some (vI i), some (vI z), some (vI s1.2.2.2.1)] [] S7 none S') ∧ ((¬ (k : Int) ≤ 3838) → ∃ (S9 : ms), EV q 124 0 [some (.ref 9), some (vI 62)] [] A1 none S9 ∧ EV q 122 128 [some (.ref 22), some (.ref 9), some (vI k), some (vI bf), some (vI i), some (vI z), some (vI s1.2.2.2.1)] [] S9 none S')) ∧ ((¬ (¬ w32 z = 257)) → ∃ (S11 : ms), EV q 125 0 [some (.ref 9)] [] A1 none S11 ∧ (none : Option Value) = none ∧ S' = S11)) ∧ ((¬ 0 ≤ (k : Int)) → ∃ (S13 : ms), EV q 124 0 [some (.ref 9), some (vI 60)] [] A1 none S13 ∧ EV q 122 128 [some (.ref 22), some (.ref 9), some (vI k), some (vI bf), some (vI i), some (vI z), some (vI s1.2.2.2.1)] [] S13 none S')) ∧ ((¬ (¬ w32 z = 256)) → EV q 122 128 [some (.ref 22), some (.ref 9), some (vI 0), some (vI bf), some (vI i), some (vI z), some (vI s1.2.2.2.1)] [] A1 none S')) ∧ ((¬ w32 s1.1 = 0) → (none : Option Value) = none ∧ S' = A1)) → EV q 122 7 [some (.ref 22), some (.ref 9), some (vI k), some (vI bf), some (vI i), none, none] [] A none S' := by
      intro S A o hS hC hA
      obtain ⟨S', i1, i2, i3⟩ := hA
      have hC' := RdC_ey hC i1 (fun _ => by unfold WX; omega)
      obtain ⟨A1, k1, k2⟩ := g6 S' A o (by rw [i1.2 9 7 (by unfold WX; omega)]; exact hS) hC' i3
      have ro : A1.2.2 9 1 = o := by rw [k2.1]; exact hC'.1
      refine ⟨A1, ⟨S', i1, i2, k2⟩, ro, k2.2.1.2.1, k2.2.2.1.1, fun T hT => vc_Plain_openWords_7 _ _ _ ?_⟩
      rw [wi (), i3.2.1.2.1, wr, wk ()]
      refine cNo i0 (cNN c0 (cY (by omega) ⟨_, A, cw_width (by omega), vc_Plain_openWords_35 _ _ _ _ ⟨z, A1, k1, o, 12000, ro, hC'.2.1, ?_⟩⟩))
      rw [k2.2.1.2.1, k2.2.2.1.1, wk ()]
      exact hT
    have hm' : ∀ (S B : ms) (x1 x4 : Int), S.1 367 18 = 0 → RdM S en t → WMl S B en st h (k - 1) Pl Le → ∃ B1, WMl S B1 en s1 h1 (k - 1) Pl Le ∧ ∀ T : ms, (s1.1 ≠ 0 → T = B1) → (s1.1 = 0 → ((¬ w32 z' = 257) → ((¬ w32 z' = 256) → ((¬ (k : Int) = 3839) → ((w32 z' ≤ 257) → EV q 338 151 [some (.ref 367), some (vI x1), some (vI k), some (vI bf), some (vI x4), some (vI 1), some (vI z'), none, none, none, none] [] B1 none T) ∧ ((¬ w32 z' ≤ 257) → (((k : Int) = 0) → EV q 338 142 [some (.ref 367), some (vI x1), some (vI k), some (vI bf), some (vI x4), some (vI 1), some (vI z'), none, none, none, none] [] B1 none T) ∧ ((¬ (k : Int) = 0) → ((w32 z' ≤ w32 ((258 + (k : Int)) - 1)) → EV q 338 151 [some (.ref 367), some (vI x1), some (vI k), some (vI bf), some (vI x4), some (vI 1), some (vI z'), none, none, none, none] [] B1 none T) ∧ ((¬ w32 z' ≤ w32 ((258 + (k : Int)) - 1)) → EV q 338 142 [some (.ref 367), some (vI x1), some (vI k), some (vI bf), some (vI x4), some (vI 1), some (vI z'), none, none, none, none] [] B1 none T)))) ∧ ((¬ (¬ (k : Int) = 3839)) → ∃ (S13 : ms), EV q 337 0 [some (.ref 367), some (vI 62)] [] B1 none S13 ∧ EV q 338 324 [some (.ref 367), some (vI x1), some (vI k), some (vI bf), some (vI x4), some (vI 1), some (vI z'), none, none, none, none] [] S13 none T)) ∧ ((¬ (¬ w32 z' = 256)) → EV q 338 324 [some (.ref 367), some (vI x1), some (vI 0), some (vI bf), some (vI 0), some (vI 1), some (vI z'), none, none, none, none] [] B1 none T)) ∧ ((¬ (¬ w32 z' = 257)) → EV q 338 324 [some (.ref 367), some (vI x1), some (vI k), some (vI bf), some (vI x4), some (vI 0), some (vI z'), none, none, none, none] [] B1 none T)) → EV q 338 41 [some (.ref 367), some (vI x1), some (vI k), some (vI bf), some (vI x4), some (vI 1), none, none, none, none, none] [] B none T := by
      intro S B x1 x4 hS hC hB
      obtain ⟨S', i1, i2, i3⟩ := hB
      have hC' := RdM_ey hC i1 (fun _ => by unfold WY; omega)
      obtain ⟨B1, k1, k2⟩ := g7 S' B (by rw [i1.2 367 18 (by unfold WY; omega)]; exact hS) hC' i3
      have kf := md_fine (q := q) hr i3
      rw [if_pos c0] at kf
      have kf1 := md_fine (q := q) g1 k2
      refine ⟨B1, ⟨S', i1, i2, k2⟩, fun T hT1 hT2 => vc_MD_openWords_41 _ _ _ _ _ (cNo (by decide) ⟨1, B, kf, cNo (by decide) ⟨_, B, mw_width (by omega), z', B1, k1, _, B1, kf1, ?_⟩⟩)⟩
      by_cases d : s1.1 = 0
      · rw [if_pos d, wk ()]
        exact cY (by decide) (hT2 d)
      · rw [if_neg d]
        exact cNN (by decide) ⟨rfl, hT1 d⟩
    by_cases c1 : s1.1 ≠ 0
    · refine ⟨s1, g1, fun S A o hS hC hA => ?_, fun S B x1 x4 _ hS hC hB => ?_⟩
      · obtain ⟨A1, ⟨S', i1, _, i2⟩, _, _, _, k⟩ := hc S A o hS hC hA
        refine ⟨S', A1, i1, k A1 ?_, t, h1, i2⟩
        rw [wr1]
        exact cNo c1 ⟨rfl, rfl⟩
      · obtain ⟨B1, ⟨S', i1, _, i2⟩, k⟩ := hm' S B x1 x4 hS hC hB
        exact ⟨S', B1, i1, k B1 (fun _ => rfl) (fun y => absurd y c1), h1, i2⟩
    have c2 : s1.1 = 0 := by omega
    obtain ⟨ez, hz, hp⟩ := g5 c2
    subst ez
    have z12 : z < 4096 := by
      have p12 : (2 : Int) ^ wdV k ≤ (2 : Int) ^ 12 := by
        have := Nat.pow_le_pow_right (n := 2) (by decide) wd.2
        have e1 : ((2 ^ wdV k : Nat) : Int) = (2 : Int) ^ wdV k := by rw [Int.natCast_pow]; rfl
        rw [← e1]
        show ((2 ^ wdV k : Nat) : Int) ≤ ((2 ^ 12 : Nat) : Int)
        omega
      have e4 : (2 : Int) ^ 12 = 4096 := by decide
      omega
    have wz : w32 z = z := w32_of (by omega)
    have hmm : 8 * en - rdP s1 h1 ≤ m := by omega
    have ec : s1.2.2.2.1 = st.2.2.2.1 := by rw [g4]
    by_cases z256 : z = 256
    · -- all begins anew
      obtain ⟨stf, rf, l1, l2⟩ := ih (i + 1) 0 bf s1 h1 Pl Le hmm (by omega) (by omega) g1 g3 (fun y => absurd y (by decide)) (fun e y => absurd y (by omega))
      rw [ei] at l1
      refine ⟨stf, rf, fun S A o hS hC hA => ?_, fun S B x1 x4 _ hS hC hB => ?_⟩
      · obtain ⟨A1, ⟨S1, i1, i2, i3⟩, _, _, _, kk⟩ := hc S A o hS hC hA
        obtain ⟨S', A', j1, j2, j3⟩ := l1 S A1 o hS hC ⟨S1, i1, fun e y => absurd y (by omega), i3⟩
        refine ⟨S', A', j1, kk A' ?_, j3⟩
        rw [wr1, wz]
        exact cY c2 (cNN z256 (vc_Plain_openWords_128 _ _ _ _ _ j2))
      · obtain ⟨B1, ⟨S1, i1, i2, i3⟩, kk⟩ := hm' S B x1 x4 hS hC hB
        obtain ⟨S', B', j1, j2, j3⟩ := l2 S B1 x1 0 (fun y => absurd y (by decide)) hS hC ⟨S1, i1, fun e y => absurd y (by omega), i3⟩
        refine ⟨S', B', j1, kk B' (fun y => absurd c2 y) (fun _ => ?_), j3⟩
        rw [wz]
        exact cY (by omega) (cNN z256 (vc_MD_openWords_324 _ _ _ _ _ _ j2))
    by_cases z257 : z = 257
    · -- the end
      refine ⟨rdEnd en s1, rdR_end g1, fun S A o hS hC hA => ?_, fun S B x1 x4 _ hS hC hB => ?_⟩
      · obtain ⟨A1, ⟨S1, i1, i2, i3⟩, _, _, _, kk⟩ := hc S A o hS hC hA
        obtain ⟨A2, j1, j2⟩ := sb_end (q := q) (RdC_ey hC i1 (fun _ => by unfold WX; omega)) g1 i3
        refine ⟨S1, A2, i1, kk A2 ?_, t, h1, j2⟩
        rw [wr1, wz]
        exact cY c2 (cY z256 (cY (by omega) (cNN z257 ⟨A2, j1, rfl, rfl⟩)))
      · obtain ⟨B1, ⟨S1, i1, i2, i3⟩, kk⟩ := hm' S B x1 x4 hS hC hB
        obtain ⟨B2, j1, j2⟩ := mb_end (q := q) he.2 g1 g3 i3
        refine ⟨S1, B2, i1, kk B2 (fun y => absurd c2 y) (fun _ => ?_), 0, j2⟩
        rw [wz]
        exact cNN z257 (vc_MD_openWords_324 _ _ _ _ _ _ (vc_MD_openWords_41 _ _ _ _ _ (cY (by decide) (vc_MD_openWords_327 _ _ _ _ _ ⟨B2, j1, rfl, rfl⟩))))
    by_cases k38 : k = 3839
    · -- no code is left
      obtain ⟨s2, e2⟩ : ∃ s2, s2 = rdTell 62 s1 := ⟨_, rfl⟩
      have d2 : s2.1 ≠ 0 := by rw [e2]; exact rdTell_1 (by decide)
      have r2 : rdR en s2 ∧ Fw s1 s2 := by rw [e2]; exact ⟨rdR_tell g1 (by decide), Fw_tellAt⟩
      refine ⟨s2, r2.1, fun S A o hS hC hA => ?_, fun S B x1 x4 _ hS hC hB => ?_⟩
      · obtain ⟨A1, ⟨S1, i1, i2, i3⟩, _, _, _, kk⟩ := hc S A o hS hC hA
        obtain ⟨A2, j1, j2⟩ := sb_tell (q := q) (k := 62) g1 hC.2.2.1 i3
        rw [← e2] at j2
        obtain ⟨S', A', j3, j4, j5⟩ := sC S A2 o s2 h1 k bf ((i : Int) + 1) d2 r2.1 ⟨S1, i1, j2⟩
        refine ⟨S', A', j3, kk A' ?_, j5⟩
        rw [wr1, wz]
        exact cY c2 (cY z256 (cY (by omega) (cY z257 (cNo (by omega) ⟨A2, j1, vc_Plain_openWords_128 _ _ _ _ _ j4⟩))))
      · obtain ⟨B1, ⟨S1, i1, i2, i3⟩, kk⟩ := hm' S B x1 x4 hS hC hB
        obtain ⟨B2, j1, j2⟩ := mb_tell (q := q) (k := 62) g1 he.2 g3 i3
        rw [← e2] at j2
        obtain ⟨S', B', j3, j4, j5⟩ := sM S B2 s2 h1 x1 k bf x4 d2 r2.1 (hR_n g3 r2.2) ⟨S1, i1, j2⟩
        refine ⟨S', B', j3, kk B' (fun y => absurd c2 y) (fun _ => ?_), j5⟩
        rw [wz]
        exact cY z257 (cY z256 (cNN (by omega) ⟨B2, j1, vc_MD_openWords_324 _ _ _ _ _ _ j4⟩))
    -- the entry that this code makes
    obtain ⟨Pl', ePl⟩ : ∃ Pl' : Nat → Int, ∀ e, Pl' e = if e = k - 1 then bf else Pl e := ⟨_, fun _ => rfl⟩
    obtain ⟨Le', eLe⟩ : ∃ Le' : Nat → Int, ∀ e, Le' e = if e = k - 1 then s1.2.2.2.1 - bf + 1 else Le e := ⟨_, fun _ => rfl⟩
    have wk1 : Unit → w32 (257 + (k : Int)) = 257 + k := fun _ => w32_of (by omega)
    have entC : ∀ (S A1 : ms) (o : Nat), RdC S o en t → WCl S A1 o en t s1 h1 (k - 1) Pl Le → A1.2.2 9 1 = o → A1.1 o 1 = s1.2.2.2.1 → ∃ A2, WCl S A2 o en t s1 h1 k Pl' Le' ∧ ∀ T : ms, EV q 127 49 [some (.ref 22), some (.ref 9), some (vI z), some (vI k), some (vI bf)] [] A2 none T → EV q 127 0 [some (.ref 22), some (.ref 9), some (vI z), some (vI k), some (vI bf)] [] A1 none T := by
      intro S A1 o hC hW ro eo
      have ho := hC.2.2.1
      by_cases ck : k = 0
      · refine ⟨A1, ?_, fun T kT => vc_Plain_openWord _ _ _ ?_⟩
        · obtain ⟨S1, i1, i2, i3⟩ := hW
          exact ⟨S1, i1, fun e y => absurd y (by omega), i3⟩
        · rw [wk ()]
          exact cY (by omega) kT
      · obtain ⟨S1, i1, i2, i3⟩ := hW
        have j1 := CB_I (a := 26) (257 + (k : Int)) bf (by decide) (by omega) (by omega) ho i3
        have j2 := CB_I (a := 27) (257 + (k : Int)) (s1.2.2.2.1 - bf + 1) (by decide) (by omega) (by omega) ho j1
        refine ⟨wI (wI A1 26 (257 + (k : Int)) bf) 27 (257 + (k : Int)) (s1.2.2.2.1 - bf + 1), ⟨wI (wI S1 26 (257 + (k : Int)) bf) 27 (257 + (k : Int)) (s1.2.2.2.1 - bf + 1), ⟨i1.1, fun a y n => ?_⟩, fun e y => ?_, j2⟩, fun T kT => vc_Plain_openWord _ _ _ ?_⟩
        · unfold WX at n
          rw [rI_I, if_neg (by omega), rI_I, if_neg (by omega)]
          exact i1.2 a y (by unfold WX; omega)
        · rw [rI_I, rI_I, rI_I, rI_I, ePl, eLe]
          by_cases ce : e = k - 1
          · rw [if_neg (by omega), if_pos ⟨rfl, by omega⟩, if_pos ce, if_pos ⟨rfl, by omega⟩, if_pos ce]
            exact ⟨rfl, rfl⟩
          · rw [if_neg (by omega), if_neg (by omega), if_neg ce, if_neg (by omega), if_neg (by omega), if_neg ce]
            exact i2 e (by omega)
        · rw [wk (), wk1 ()]
          refine cNo (by omega) (cNo (by omega) ⟨by omega, fun S2 f2 => ?_⟩)
          subst f2
          refine ⟨o, 12000, ro, hC.2.1, by omega, fun S7 f7 => ?_⟩
          have e1 : (wI A1 26 (257 + (k : Int)) bf).1 o 1 = s1.2.2.2.1 := by rw [rI_I, if_neg (by omega), eo]
          rw [e1] at f7
          subst f7
          exact kT
    by_cases bad : 258 ≤ z ∧ (k = 0 ∨ 257 + (k : Int) < z)
    · -- no such entry
      obtain ⟨s2, e2⟩ : ∃ s2, s2 = rdTell 61 s1 := ⟨_, rfl⟩
      have d2 : s2.1 ≠ 0 := by rw [e2]; exact rdTell_1 (by decide)
      have r2 : rdR en s2 ∧ Fw s1 s2 := by rw [e2]; exact ⟨rdR_tell g1 (by decide), Fw_tellAt⟩
      refine ⟨s2, r2.1, fun S A o hS hC hA => ?_, fun S B x1 x4 _ hS hC hB => ?_⟩
      · obtain ⟨A1, hW, ro, _, eo, kk⟩ := hc S A o hS hC hA
        obtain ⟨A2, ⟨S1, i1, i2, i3⟩, k2⟩ := entC S A1 o hC hW ro eo
        obtain ⟨A3, j1, j2⟩ := sb_tell (q := q) (k := 61) g1 hC.2.2.1 i3
        rw [← e2] at j2
        obtain ⟨S', A', j3, j4, j5⟩ := sC S A3 o s2 h1 ((k : Int) + 1) s1.2.2.2.1 ((i : Int) + 1) d2 r2.1 ⟨S1, i1, j2⟩
        have k77 : EV q 127 77 [some (.ref 22), some (.ref 9), some (vI z), some (vI k), some (vI bf)] [] A2 none A3 := vc_Plain_openWord_77 _ _ _ ⟨A3, j1, rfl, rfl⟩
        have k49 : EV q 127 49 [some (.ref 22), some (.ref 9), some (vI z), some (vI k), some (vI bf)] [] A2 none A3 := by
          refine vc_Plain_openWord_49 _ _ _ ?_
          rw [wz, wk (), wk1 ()]
          exact cY (by omega) ⟨fun _ => k77, fun y => cNo (by omega) k77⟩
        refine ⟨S', A', j3, kk A' ?_, j5⟩
        rw [wr1, wz]
        exact cY c2 (cY z256 (cY (by omega) (cY z257 (cY (by omega) ⟨A3, k2 A3 k49, vc_Plain_openWords_128 _ _ _ _ _ j4⟩))))
      · obtain ⟨B1, ⟨S1, i1, i2, i3⟩, kk⟩ := hm' S B x1 x4 hS hC hB
        obtain ⟨B2, j1, j2⟩ := mb_tell (q := q) (k := 61) g1 he.2 g3 i3
        rw [← e2] at j2
        obtain ⟨S', B', j3, j4, j5⟩ := sM S B2 s2 h1 x1 k bf x4 d2 r2.1 (hR_n g3 r2.2) ⟨S1, i1, j2⟩
        have k142 : EV q 338 142 [some (.ref 367), some (vI x1), some (vI k), some (vI bf), some (vI x4), some (vI 1), some (vI z), none, none, none, none] [] B1 none B' := vc_MD_openWords_142 _ _ _ _ _ _ ⟨B2, j1, vc_MD_openWords_324 _ _ _ _ _ _ j4⟩
        have wk2 : w32 (258 + (k : Int) - 1) = 257 + (k : Int) := by rw [w32_of (by omega)]; omega
        refine ⟨S', B', j3, kk B' (fun y => absurd c2 y) (fun _ => ?_), j5⟩
        rw [wz, wk2]
        exact cY z257 (cY z256 (cY (by omega) (cNo (by omega) ⟨fun _ => k142, fun y => cNo (by omega) k142⟩)))
    -- so many octets come
    obtain ⟨c, hcv⟩ : ∃ c : Int, s1.2.2.2.1 = c := ⟨_, rfl⟩
    have hbf' : 1 ≤ k → 0 ≤ bf ∧ bf < c := fun y => by rw [← hcv, ec]; exact hbf y
    have hE' : wdE (k - 1) Pl Le c := by rw [← hcv, ec]; exact hE
    have cr := g1.2.2.1
    rw [hcv] at cr
    obtain ⟨p, n, s2, hpn, hn1, hs2, hcnt⟩ : ∃ (p : Int) (n : Nat) (s2 : Rd), ((z < 256 ∧ n = 1 ∧ s2 = rdEmit z s1) ∨ (256 ≤ z ∧ 1 ≤ k ∧ (0 ≤ p ∧ p < c) ∧ s2 = rdBack (c - p) n s1 ∧ ((z = 257 + (k : Int) ∧ p = bf ∧ (n : Int) = c - bf + 1) ∨ (z < 257 + (k : Int) ∧ p = Pl (z - 258).toNat ∧ (n : Int) = Le (z - 258).toNat ∧ p + n ≤ c)))) ∧ (1 ≤ n ∧ n ≤ 12001) ∧ (rdR en s2 ∧ Fw s1 s2) ∧ (s2.1 = 0 → s2.2.2.2.1 = c + n) := by
      by_cases zl : z < 256
      · refine ⟨0, 1, rdEmit z s1, Or.inl ⟨zl, rfl, rfl⟩, by decide, ⟨rdR_emit g1, Fw_emit⟩, fun y => ?_⟩
        rw [(rdEmit_1 y).2.1, hcv]
        rfl
      · have k1 : 1 ≤ k := by omega
        have b1 := hbf' k1
        by_cases zo : z = 257 + (k : Int)
        · refine ⟨bf, (c - bf + 1).toNat, rdBack (c - bf) (c - bf + 1).toNat s1, Or.inr ⟨by omega, k1, b1, rfl, Or.inl ⟨zo, rfl, by omega⟩⟩, by omega, ⟨rdR_back _ g1, Fw_back _⟩, fun y => ?_⟩
          rw [(rdBack_1 _ y).2, hcv]
        · have e1 := hE' (z - 258).toNat (by omega)
          refine ⟨Pl (z - 258).toNat, (Le (z - 258).toNat).toNat, rdBack (c - Pl (z - 258).toNat) (Le (z - 258).toNat).toNat s1, Or.inr ⟨by omega, k1, by omega, rfl, Or.inr ⟨by omega, rfl, by omega, by omega⟩⟩, by omega, ⟨rdR_back _ g1, Fw_back _⟩, fun y => ?_⟩
          rw [(rdBack_1 _ y).2, hcv]
    -- the next turn
    have hh2 : hR s2 h1 := hR_n g3 hs2.2
    have nxt : ∃ stf : Rd, rdR en stf ∧ (∀ (S A : ms) (o : Nat), S.1 9 7 = 0 → RdC S o en t → WCl S A o en t s2 h1 k Pl' Le' → ∃ S' A', EY WX S S' ∧ EV q 122 7 [some (.ref 22), some (.ref 9), some (vI ((k : Int) + 1)), some (vI c), some (vI ((i : Int) + 1)), none, none] [] A none A' ∧ CF S' A' o en stf) ∧ ∀ (S B : ms) (x1 : Int), S.1 367 18 = 0 → RdM S en t → WMl S B en s2 h1 k Pl' Le' → ∃ S' B', EY WY S S' ∧ EV q 338 41 [some (.ref 367), some (vI x1), some (vI ((k : Int) + 1)), some (vI c), some (vI n), some (vI 1), none, none, none, none, none] [] B none B' ∧ MF S' B' en stf := by
      by_cases d2 : s2.1 ≠ 0
      · refine ⟨s2, hs2.1, fun S A o _ _ hA => ?_, fun S B x1 _ _ hB => ?_⟩
        · obtain ⟨S', i1, _, i2⟩ := hA
          exact sC S A o s2 h1 _ _ _ d2 hs2.1 ⟨S', i1, i2⟩
        · obtain ⟨S', i1, _, i2⟩ := hB
          exact sM S B s2 h1 x1 _ _ _ d2 hs2.1 hh2 ⟨S', i1, i2⟩
      · have d0 : s2.1 = 0 := by omega
        have ce := hcnt d0
        have ek : ((k + 1 : Nat) : Int) = (k : Int) + 1 := by omega
        have pf := hs2.2.2
        obtain ⟨stf, rf, l1, l2⟩ := ih (i + 1) (k + 1) c s2 h1 Pl' Le' (by unfold rdP at hmm ⊢; omega) (by omega) (by omega) hs2.1 hh2 (fun _ => by omega) (fun e y => by
          rw [ePl, eLe, ce]
          by_cases ce' : e = k - 1
          · rw [if_pos ce', if_pos ce']
            have := hbf' (by omega)
            omega
          · rw [if_neg ce', if_neg ce']
            have := hE' e (by omega)
            omega)
        rw [ek, ei, show k + 1 - 1 = k by omega] at l1
        rw [ek, show k + 1 - 1 = k by omega] at l2
        exact ⟨stf, rf, l1, fun S B x1 hS hC hB => l2 S B x1 n (fun _ _ => by omega) hS hC hB⟩
    obtain ⟨stf, rf, l1, l2⟩ := nxt
    refine ⟨stf, rf, fun S A o hS hC hA => ?_, fun S B x1 x4 hx4 hS hC hB => ?_⟩
    · obtain ⟨A1, hW, ro, _, eo, kk⟩ := hc S A o hS hC hA
      obtain ⟨A2, ⟨S1, i1, i2, i3⟩, k2⟩ := entC S A1 o hC hW ro eo
      have hC1 := RdC_ey hC i1 (fun _ => by unfold WX; omega)
      have ho := hC.2.2.1
      have kword : ∃ A3, EV q 127 49 [some (.ref 22), some (.ref 9), some (vI z), some (vI k), some (vI bf)] [] A2 none A3 ∧ CB S1 A3 o en t s2 h1 := by
        rcases hpn with ⟨y1, y2, y3⟩ | ⟨y1, y2, y3, y4, y5⟩
        · obtain ⟨A3, j1, j2⟩ := sb_emit (q := q) (v := z) hC1 g1 i3
          refine ⟨A3, vc_Plain_openWord_49 _ _ _ ?_, by rw [y3]; exact j2⟩
          rw [wz]
          exact cNo (by omega) ⟨A3, j1, rfl, rfl⟩
        · obtain ⟨A3, j1, j2⟩ := sb_back (q := q) (d := c - p) (by omega) hC1 (n := n) (by omega) n 0 A2 s1 (by omega) (fun _ => by rw [hcv]; omega) g1 i3
          refine ⟨A3, vc_Plain_openWord_49 _ _ _ ?_, by rw [y4]; exact j2⟩
          have ent := i2 (z - 258).toNat (by omega)
          rw [show (258 : Int) + ((z - 258).toNat : Nat) = z by omega, ePl, eLe] at ent
          have e26 : A2.1 26 z = p ∧ A2.1 27 z = n := by
            rw [i3.2.2.2 26 z (by omega) (by omega) (by omega), i3.2.2.2 27 z (by omega) (by omega) (by omega), ent.1, ent.2]
            rcases y5 with ⟨u1, u2, u3⟩ | ⟨u1, u2, u3, u4⟩
            · rw [if_pos (by omega), if_pos (by omega)]
              omega
            · rw [if_neg (by omega), if_neg (by omega)]
              omega
          have w1 : w32 (c - p) = c - p := w32_of (by omega)
          have w2 : Unit → w32 ((n : Nat) : Int) = n := fun _ => w32_of (by omega)
          rw [wz, wk (), wk1 ()]
          refine cY y1 (cNo (by omega) (cY (by omega) ⟨o, 12000, by rw [i3.1]; exact hC1.1, hC1.2.1, by omega, by omega, A3, ?_, rfl, rfl⟩))
          rw [i3.2.2.1.1, hcv, e26.1, e26.2, w1, w2 ()]
          exact vc_Source_emitCopy _ _ j1
      obtain ⟨A3, j1, j2⟩ := kword
      obtain ⟨S', A', j3, j4, j5⟩ := l1 S A3 o hS hC ⟨S1, i1, i2, j2⟩
      refine ⟨S', A', j3, kk A' ?_, j5⟩
      rw [wr1, wz, hcv]
      exact cY c2 (cY z256 (cY (by omega) (cY z257 (cY (by omega) ⟨A3, k2 A3 j1, vc_Plain_openWords_128 _ _ _ _ _ j4⟩))))
    · obtain ⟨B1, ⟨S1, i1, i2, i3⟩, kk⟩ := hm' S B x1 x4 hS hC hB
      have hC1 := RdM_ey hC i1 (fun _ => by unfold WY; omega)
      have ex4 : 1 ≤ k → x4 = c - bf := fun y => by rw [← hcv, ec]; exact hx4 y c0
      have wkk : w32 (258 + ((k : Int) - 1)) = 257 + (k : Int) := by rw [w32_of (by omega)]; omega
      have wk1' : w32 ((k : Int) - 1) = (k : Int) - 1 := w32_of (by omega)
      -- behind the octets
      have fin : ∀ U : ms, MB S1 U en s2 h1 → ∃ S' B', EY WY S S' ∧ ((w32 (k : Int) ≤ 0) → EV q 338 314 [some (.ref 367), some (vI x1), some (vI k), some (vI bf), some (vI x4), some (vI 1), some (vI z), some (vI c), some (vI ((k : Int) - 1)), some (vI n), some (vI n)] [] U none B') ∧ ((¬ w32 (k : Int) ≤ 0) → (0 ≤ w32 ((k : Int) - 1) ∧ w32 ((k : Int) - 1) < (4200 : Nat)) ∧ ∀ S2 : ms, S2 = wI U 383 (w32 ((k : Int) - 1)) bf → (0 ≤ w32 ((k : Int) - 1) ∧ w32 ((k : Int) - 1) < (4200 : Nat)) ∧ ∀ S4 : ms, S4 = wI S2 384 (w32 ((k : Int) - 1)) (x4 + 1) → EV q 338 314 [some (.ref 367), some (vI x1), some (vI k), some (vI bf), some (vI x4), some (vI 1), some (vI z), some (vI c), some (vI ((k : Int) - 1)), some (vI n), some (vI n)] [] S4 none B') ∧ MF S' B' en stf := by
        intro U hU
        rw [wk (), wk1']
        by_cases ck : k = 0
        · obtain ⟨S', B', j3, j4, j5⟩ := l2 S U x1 hS hC ⟨S1, i1, fun e y => absurd y (by omega), hU⟩
          exact ⟨S', B', j3, fun _ => vc_MD_openWords_314 _ _ _ _ _ _ _ _ _ _ (vc_MD_openWords_324 _ _ _ _ _ _ j4), fun y => absurd (by omega) y, j5⟩
        · have e4 := ex4 (by omega)
          have j1 := MB_I (a := 383) ((k : Int) - 1) bf (by decide) (by decide) hU
          have j2 := MB_I (a := 384) ((k : Int) - 1) (x4 + 1) (by decide) (by decide) j1
          obtain ⟨S', B', j3, j4, j5⟩ := l2 S (wI (wI U 383 ((k : Int) - 1) bf) 384 ((k : Int) - 1) (x4 + 1)) x1 hS hC ⟨wI (wI S1 383 ((k : Int) - 1) bf) 384 ((k : Int) - 1) (x4 + 1), ⟨i1.1, fun a y n => by
            unfold WY at n
            rw [rI_I, if_neg (by omega), rI_I, if_neg (by omega)]
            exact i1.2 a y (by unfold WY; omega)⟩, fun e y => by
            rw [rI_I, rI_I, rI_I, rI_I, ePl, eLe, hcv]
            by_cases ce : e = k - 1
            · rw [if_neg (by omega), if_pos ⟨rfl, by omega⟩, if_pos ce, if_pos ⟨rfl, by omega⟩, if_pos ce]
              exact ⟨rfl, by omega⟩
            · rw [if_neg (by omega), if_neg (by omega), if_neg ce, if_neg (by omega), if_neg (by omega), if_neg ce]
              exact i2 e (by omega), j2⟩
          refine ⟨S', B', j3, fun y => absurd y (by omega), fun _ => ⟨by omega, fun S2 f2 => ⟨by omega, fun S4 f4 => ?_⟩⟩, j5⟩
          subst f2 f4
          exact vc_MD_openWords_314 _ _ _ _ _ _ _ _ _ _ (vc_MD_openWords_324 _ _ _ _ _ _ j4)
      -- the octets
      have wn : Unit → w32 ((n : Nat) : Int) = n := fun _ => w32_of (by omega)
      have loop : ∃ S' B', EY WY S S' ∧ EV q 338 208 [some (.ref 367), some (vI x1), some (vI k), some (vI bf), some (vI x4), some (vI 1), some (vI z), some (vI c), some (vI ((k : Int) - 1)), some (vI n), some (vI 0)] [] B1 none B' ∧ MF S' B' en stf := by
        rcases hpn with ⟨y1, y2, y3⟩ | ⟨y1, y2, y3, y4, y5⟩
        · subst y2
          obtain ⟨B2, j1, j2⟩ := mb_emit (q := q) (v := z) g1 he.2 g3 i3
          rw [← y3] at j2
          obtain ⟨S', B', u1, u2, u3, u4⟩ := fin B2 j2
          refine ⟨S', B', u1, vc_MD_openWords_208 _ _ _ _ _ _ _ _ _ _ (cNo (by decide) ?_), u4⟩
          rw [wz]
          exact cNo (by omega) (vc_MD_openWords_282 _ _ _ _ _ _ _ _ _ _ _ ⟨B2, j1, vc_MD_openWords_208 _ _ _ _ _ _ _ _ _ _ (cY (by decide) ⟨u2, u3⟩)⟩)
        · have e4 := ex4 y2
          have wx4 : w32 x4 = x4 := w32_of (by have := hbf' y2; omega)
          have lp : ∀ (m j : Nat) (U : ms) (s : Rd), j + m = n → rdBack (c - p) m s = s2 → rdR en s → Fw s1 s → (s.1 = 0 → s.2.2.2.1 = c + j ∧ (∀ y, 0 ≤ y → y < c → s.2.2.2.2 y = s1.2.2.2.2 y) ∧ (0 < j → s.2.2.2.2 c = s1.2.2.2.2 p)) → MB S1 U en s h1 → ∃ S' B', EY WY S S' ∧ EV q 338 208 [some (.ref 367), some (vI x1), some (vI k), some (vI bf), some (vI x4), some (vI 1), some (vI z), some (vI c), some (vI ((k : Int) - 1)), some (vI n), some (vI j)] [] U none B' ∧ MF S' B' en stf := by
            intro m
            induction m with
            | zero =>
              intro j U s hj hst hrs hfs _ hU
              have ej : j = n := by omega
              subst ej
              have hst' : s = s2 := hst
              obtain ⟨S', B', u1, u2, u3, u4⟩ := fin U (by rw [← hst']; exact hU)
              exact ⟨S', B', u1, vc_MD_openWords_208 _ _ _ _ _ _ _ _ _ _ (cY (Int.le_refl _) ⟨u2, u3⟩), u4⟩
            | succ m ihm =>
              intro j U s hj hst hrs hfs hcnt' hU
              have wj : Unit → w32 ((j : Nat) : Int) = j := fun _ => w32_of (by omega)
              have z0 : ¬ (n : Int) ≤ j := by omega
              -- the octet that the reference takes
              obtain ⟨y, hy, hyv⟩ : ∃ y : Int, (0 ≤ y ∧ y < c) ∧ (if (z = 257 + (k : Int) ∧ c - bf ≤ (j : Int)) then y = bf else y = p + j) := by
                by_cases cc : z = 257 + (k : Int) ∧ c - bf ≤ (j : Int)
                · refine ⟨bf, hbf' y2, ?_⟩
                  rw [if_pos cc]
                · refine ⟨p + j, ?_, by rw [if_neg cc]⟩
                  rcases y5 with ⟨u1, u2, u3⟩ | ⟨u1, u2, u3, u4⟩
                  · have : ¬ c - bf ≤ (j : Int) := fun u => cc ⟨u1, u⟩
                    omega
                  · omega
              obtain ⟨v, hv⟩ : ∃ v : Int, U.1 375 y = v := ⟨_, rfl⟩
              have step : rdBack (c - p) m (rdEmit v s) = s2 ∧ ((rdEmit v s).1 = 0 → (rdEmit v s).2.2.2.1 = c + ((j + 1 : Nat) : Int) ∧ (∀ y, 0 ≤ y → y < c → (rdEmit v s).2.2.2.2 y = s1.2.2.2.2 y) ∧ (0 < j + 1 → (rdEmit v s).2.2.2.2 c = s1.2.2.2.2 p)) := by
                by_cases cs : s.1 ≠ 0
                · rw [rdEmit_r cs]
                  rw [rdBack_r cs] at hst
                  exact ⟨by rw [rdBack_r cs]; exact hst, fun y => absurd y cs⟩
                · have s0 : s.1 = 0 := by omega
                  obtain ⟨q1, q2, q3⟩ := hcnt' s0
                  have ev : v = b8 (s.2.2.2.2 y) := by
                    rw [← hv]
                    exact hU.2.2.1.2 y hy.1 (by omega)
                  have eq1 : s.2.2.2.2 y = s.2.2.2.2 (s.2.2.2.1 - (c - p)) := by
                    rw [q1, show c + (j : Int) - (c - p) = p + j by omega]
                    by_cases cc : z = 257 + (k : Int) ∧ c - bf ≤ (j : Int)
                    · rw [if_pos cc] at hyv
                      rcases y5 with ⟨u1, u2, u3⟩ | ⟨u1, _⟩
                      · have ej : p + (j : Int) = c := by omega
                        rw [ej, q3 (by have := hbf' y2; omega), hyv, q2 bf (hbf' y2).1 (hbf' y2).2, u2]
                      · omega
                    · rw [if_neg cc] at hyv
                      rw [hyv]
                  have em : rdEmit v s = rdEmit (s.2.2.2.2 (s.2.2.2.1 - (c - p))) s := by
                    refine rdEmit_m ?_ s
                    rw [ev, eq1]
                    unfold b8
                    omega
                  rw [rdBack_s, if_neg cs, ← em] at hst
                  refine ⟨hst, fun y' => ?_⟩
                  obtain ⟨w1, w2, w3⟩ := rdEmit_1 y'
                  refine ⟨by rw [w2, q1]; omega, fun y'' a1 a2 => by rw [w3, if_neg (by omega)]; exact q2 y'' a1 a2, fun _ => ?_⟩
                  rw [w3]
                  by_cases j0 : j = 0
                  · rw [if_pos (by omega), ev]
                    have y1' : y = p := by
                      by_cases cc : z = 257 + (k : Int) ∧ c - bf ≤ (j : Int)
                      · have := hbf' y2
                        omega
                      · rw [if_neg cc] at hyv
                        omega
                    rw [y1', q2 p y3.1 y3.2]
                    have rg := g1.2.2.2.1 p y3.1 (by omega)
                    unfold b8
                    omega
                  · rw [if_neg (by omega)]
                    exact q3 (by omega)
              obtain ⟨U1, j1, j2⟩ := mb_emit (q := q) (v := v) hrs he.2 (hR_n g3 hfs) hU
              obtain ⟨S', B', u1, u2, u3⟩ := ihm (j + 1) U1 (rdEmit v s) (by omega) step.1 (rdR_emit hrs) (Fw_t hfs Fw_emit) (fun y' => ⟨(step.2 y').1, (step.2 y').2.1, fun _ => (step.2 y').2.2 (by omega)⟩) j2
              rw [show ((j + 1 : Nat) : Int) = (j : Int) + 1 by omega] at u2
              have k282 := vc_MD_openWords_282 _ _ _ _ _ _ _ _ _ _ _ ⟨U1, j1, u2⟩
              refine ⟨S', B', u1, vc_MD_openWords_208 _ _ _ _ _ _ _ _ _ _ ?_, u3⟩
              rw [wn (), wj (), wz, wkk, wx4]
              refine cNo z0 (cY y1 ?_)
              rcases y5 with ⟨v1, v2, v3⟩ | ⟨v1, v2, v3, v4⟩
              · refine cNN v1 ?_
                by_cases cc : c - bf ≤ (j : Int)
                · rw [if_pos ⟨v1, cc⟩] at hyv
                  refine cY (by omega) (vc_MD_openWords_259 _ _ _ _ _ _ _ _ _ _ _ ?_)
                  have wbf : w32 bf = bf := w32_of (by have := hbf' y2; omega)
                  have e5 : U.1 375 (w32 bf) = v := by
                    rw [wbf, ← hyv]
                    exact hv
                  rw [e5]
                  exact ⟨by rw [wbf]; have := hbf' y2; omega, k282⟩
                · rw [if_neg (fun u => cc u.2)] at hyv
                  refine cNo (by omega) (vc_MD_openWords_259 _ _ _ _ _ _ _ _ _ _ _ ?_)
                  have wbf : w32 (bf + (j : Int)) = bf + (j : Int) := w32_of (by have := hbf' y2; omega)
                  rw [wbf, show bf + (j : Int) = y by omega, hv]
                  exact ⟨by omega, k282⟩
              · rw [if_neg (by omega)] at hyv
                have ent := (i2 (z - 258).toNat (by omega)).1
                rw [show (((z - 258).toNat : Nat) : Int) = z - 258 by omega] at ent
                have w8 : w32 (z - 258) = z - 258 := w32_of (by omega)
                have e383 : U.1 383 (z - 258) = p := by
                  rw [hU.2.2.2 383 (z - 258) (by omega) (by decide), ent, v2]
                have wpy : w32 (p + (j : Int)) = p + (j : Int) := w32_of (by omega)
                rw [w8, e383, wpy, ← hyv, hv]
                exact cY (by omega) ⟨by omega, by omega, k282⟩
          exact lp n 0 B1 s1 (by omega) y4.symm g1 (Fw_r _) (fun _ => ⟨by rw [hcv]; omega, fun _ _ _ => rfl, fun y => absurd y (by decide)⟩) i3
      obtain ⟨S', B', u1, u2, u3⟩ := loop
      have k203 := vc_MD_openWords_203 _ _ _ _ _ _ _ _ _ u2
      have k151 : EV q 338 151 [some (.ref 367), some (vI x1), some (vI k), some (vI bf), some (vI x4), some (vI 1), some (vI z), none, none, none, none] [] B1 none B' := by
        refine vc_MD_openWords_151 _ _ _ _ _ _ ?_
        rw [wz, wkk, i3.2.2.1.1, hcv]
        rcases hpn with ⟨y1, y2, y3⟩ | ⟨y1, y2, y3, y4, y5⟩
        · subst y2
          exact cNo (by omega) k203
        · have e4 := ex4 y2
          refine cY y1 ?_
          rcases y5 with ⟨v1, v2, v3⟩ | ⟨v1, v2, v3, v4⟩
          · rw [show x4 + 1 = (n : Int) by omega]
            exact cNN v1 k203
          · have ent := (i2 (z - 258).toNat (by omega)).2
            rw [show (((z - 258).toNat : Nat) : Int) = z - 258 by omega] at ent
            have w8 : w32 (z - 258) = z - 258 := w32_of (by omega)
            have e384 : B1.1 384 (z - 258) = n := by
              rw [i3.2.2.2 384 (z - 258) (by omega) (by decide), ent, ← v3]
            rw [w8, e384]
            exact cY (by omega) ⟨by omega, k203⟩
      have wk2 : w32 (258 + (k : Int) - 1) = 257 + (k : Int) := by rw [w32_of (by omega)]; omega
      refine ⟨S', B', u1, kk B' (fun y => absurd c2 y) (fun _ => ?_), u3⟩
      rw [wz, wk2]
      refine cY z257 (cY z256 (cY (by omega) ⟨fun _ => k151, fun y => cNo (by omega) (cY (by omega) k151)⟩))
/-- open(2) -/
theorem oj_words {t : Int → Int} (he : 0 ≤ en ∧ en ≤ 6000) (ht : ∀ k : Int, 0 ≤ k → k < en → 0 ≤ t k ∧ t k < 256) : ∃ stf : Rd, rdR en stf ∧ (∀ (S A : ms) (o : Nat), S.1 9 7 = 0 → RdC S o en t → CR S A o en st0 → ∃ S' A', EY WX S S' ∧ EV q 122 0 [some (.ref 22), some (.ref 9), none, none, none, none, none] [] A none A' ∧ CF S' A' o en stf) ∧ ∀ S B : ms, S.1 367 18 = 0 → RdM S en t → MR S B en st0 → ∃ S' B', EY WY S S' ∧ EV q 338 0 [some (.ref 367), none, none, none, none, none, none, none, none, none, none] [] B none B' ∧ MF S' B' en stf := by
  obtain ⟨z, z', s1, h1, ⟨g1, g2, g3, g4⟩, g5, g6, g7⟩ := jbits0 (q := q) he.2 ht (hi := 0) (Or.inl rfl) (n := 9) (by omega) (rdR_0 he.1) (hR_0 st0)
  have wr1 : w32 s1.1 = s1.1 := w32_of (by have := g1.1; omega)
  -- the class as far as the first code
  have hc : ∀ (S A : ms) (o : Nat), S.1 9 7 = 0 → RdC S o en t → CR S A o en st0 → ∃ A1, CB S A1 o en t s1 h1 ∧ ∀ S' : ms, (((w32 s1.1 = 0) → ((¬ w32 z = 256) → ∃ (S13 : ms), EV q 124 0 [some (.ref 9), some (vI 60)] [] A1 none S13 ∧ EV q 122 128 [some (.ref 22), some (.ref 9), some (vI (-1)), some (vI 0), some (vI 0), some (vI z), some (vI s1.2.2.2.1)] [] S13 none S') ∧ ((¬ (¬ w32 z = 256)) → EV q 122 128 [some (.ref 22), some (.ref 9), some (vI 0), some (vI 0), some (vI 0), some (vI z), some (vI s1.2.2.2.1)] [] A1 none S')) ∧ ((¬ w32 s1.1 = 0) → (none : Option Value) = none ∧ S' = A1)) → EV q 122 0 [some (.ref 22), some (.ref 9), none, none, none, none, none] [] A none S' := by
    intro S A o hS hC hA
    obtain ⟨A1, k1, k2⟩ := g6 S A o hS hC (CB_0 t hA)
    have ro : A1.2.2 9 1 = o := by rw [k2.1]; exact hC.1
    refine ⟨A1, k2, fun T hT => vc_Plain_openWords (vc_Plain_openWords_7 _ _ _ (cNo (by decide) ?_))⟩
    have e5 : A.1 9 5 = 0 := hA.2.1.2.1
    rw [e5]
    refine cNN (by decide) (cNo (by decide) (vc_Plain_openWords_35 _ _ _ _ ⟨z, A1, k1, o, 12000, ro, hC.2.1, ?_⟩))
    rw [k2.2.1.2.1, k2.2.2.1.1]
    exact ⟨fun y => ⟨fun y2 => cNo (by decide) ((hT.1 y).1 y2), (hT.1 y).2⟩, hT.2⟩
  have dead : ∀ (A : ms) (s : Rd) (S : ms) (o : Nat) (x2 x3 x4 : Int), s.1 ≠ 0 → rdR en s → CB S A o en t s h1 → EV q 122 7 [some (.ref 22), some (.ref 9), some (vI x2), some (vI x3), some (vI x4), none, none] [] A none A := fun A s S o x2 x3 x4 c hr hA => vc_Plain_openWords_7 _ _ _ ⟨fun _ => ⟨rfl, rfl⟩, fun _ => by
    rw [hA.2.1.2.1, w32_of (by have := hr.1; omega)]
    exact cY c ⟨rfl, rfl⟩⟩
  -- the reference behind a rule
  have mdead : ∀ (S B : ms) (s : Rd) (x1 : Int), s.1 ≠ 0 → rdR en s → hR s h1 → MB S B en s h1 → ∃ B', EV q 338 28 [some (.ref 367), some (vI x1), none, none, none, none, none, none, none, none, none] [] B none B' ∧ MF S B' en s := by
    intro S B s x1 c hr hh hB
    obtain ⟨B', k1, k2⟩ := mb_end (q := q) he.2 hr hh hB
    have e : rdEnd en s = s := by
      unfold rdEnd rdTellAt
      by_cases d : en ≤ s.2.2.1
      · rw [if_pos d]
      · rw [if_neg d, if_pos c]
    rw [e] at k2
    have kf := md_fine (q := q) hr hB
    rw [if_neg c] at kf
    exact ⟨B', vc_MD_openWords_28 _ ⟨0, B, kf, vc_MD_openWords_41 _ _ _ _ _ (cY (by decide) (vc_MD_openWords_327 _ _ _ _ _ ⟨B', k1, rfl, rfl⟩))⟩, 0, k2⟩
  by_cases c : s1.1 ≠ 0
  · refine ⟨s1, g1, fun S A o hS hC hA => ?_, fun S B hS hC hB => ?_⟩
    · obtain ⟨A1, k1, k2⟩ := hc S A o hS hC hA
      refine ⟨S, A1, EY.refl _ _, k2 A1 ?_, t, h1, k1⟩
      rw [wr1]
      exact cNo c ⟨rfl, rfl⟩
    · obtain ⟨B1, k1, k2⟩ := g7 S B hS hC hB
      obtain ⟨B', k3, k4⟩ := mdead S B1 s1 z' c g1 g3 k2
      have kf := md_fine (q := q) g1 k2
      rw [if_neg c] at kf
      exact ⟨S, B', EY.refl _ _, vc_MD_openWords ⟨z', B1, k1, 0, B1, kf, cY (by decide) k3⟩, k4⟩
  · have c0 : s1.1 = 0 := by omega
    obtain ⟨ez, hz, hp⟩ := g5 c0
    subst ez
    have wz : w32 z = z := w32_of (by have : z < 512 := hz.2; omega)
    by_cases z2 : z = 256
    · obtain ⟨stf, rf, l1, l2⟩ := jwd (q := q) he ht 48000 1 0 0 s1 h1 (fun _ => 0) (fun _ => 0) (by
        have := g1.2.1
        have e0 : rdP st0 0 = 0 := rfl
        omega) (by omega) (by omega) g1 g3 (fun y => absurd y (by decide)) (fun e y => absurd y (by omega))
      refine ⟨stf, rf, fun S A o hS hC hA => ?_, fun S B hS hC hB => ?_⟩
      · obtain ⟨A1, k1, k2⟩ := hc S A o hS hC hA
        obtain ⟨S', A', j1, j2, j3⟩ := l1 S A1 o hS hC ⟨S, EY.refl _ _, fun e y => absurd y (by omega), k1⟩
        refine ⟨S', A', j1, k2 A' ?_, j3⟩
        rw [wr1, wz]
        exact cY c0 (cNN z2 (vc_Plain_openWords_128 _ _ _ _ _ j2))
      · obtain ⟨B1, k1, k2⟩ := g7 S B hS hC hB
        obtain ⟨S', B', j1, j2, j3⟩ := l2 S B1 z 0 (fun y => absurd y (by decide)) hS hC ⟨S, EY.refl _ _, fun e y => absurd y (by omega), k2⟩
        have kf := md_fine (q := q) g1 k2
        rw [if_pos c0] at kf
        refine ⟨S', B', j1, vc_MD_openWords ⟨z, B1, k1, 1, B1, kf, cNo (by decide) ?_⟩, j3⟩
        rw [wz]
        exact cY z2 (vc_MD_openWords_28 _ ⟨1, B1, kf, j2⟩)
    · obtain ⟨s2, e2⟩ : ∃ s2, s2 = rdTell 60 s1 := ⟨_, rfl⟩
      have d2 : s2.1 ≠ 0 := by rw [e2]; exact rdTell_1 (by decide)
      have r2 : rdR en s2 ∧ Fw s1 s2 := by rw [e2]; exact ⟨rdR_tell g1 (by decide), Fw_tellAt⟩
      refine ⟨s2, r2.1, fun S A o hS hC hA => ?_, fun S B hS hC hB => ?_⟩
      · obtain ⟨A1, k1, k2⟩ := hc S A o hS hC hA
        obtain ⟨A2, j1, j2⟩ := sb_tell (q := q) (k := 60) g1 hC.2.2.1 k1
        rw [← e2] at j2
        refine ⟨S, A2, EY.refl _ _, k2 A2 ?_, t, h1, j2⟩
        rw [wr1, wz]
        exact cY c0 (cY z2 ⟨A2, j1, vc_Plain_openWords_128 _ _ _ _ _ (dead A2 s2 S o _ _ _ d2 r2.1 j2)⟩)
      · obtain ⟨B1, k1, k2⟩ := g7 S B hS hC hB
        obtain ⟨B2, j1, j2⟩ := mb_tell (q := q) (k := 60) g1 he.2 g3 k2
        rw [← e2] at j2
        obtain ⟨B', k3, k4⟩ := mdead S B2 s2 z d2 r2.1 (hR_n g3 r2.2) j2
        have kf := md_fine (q := q) g1 k2
        rw [if_pos c0] at kf
        refine ⟨S, B', EY.refl _ _, vc_MD_openWords ⟨z, B1, k1, 1, B1, kf, cNo (by decide) ?_⟩, k4⟩
        rw [wz]
        exact cNo z2 ⟨B2, j1, k3⟩
end WordsP
