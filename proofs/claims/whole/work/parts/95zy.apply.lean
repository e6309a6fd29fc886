/-! apply: the loop over the pieces of a DELTA, on both sides -/
section Apply1
variable {q : Nat × (Nat → Int32)} {en : Int} {S A B : ms} {o : Nat} {st : Rd}
/-- the reference: fine() and not c tells rule k -/
theorem gTellM {k : Int} {C : ms → Prop} {c : Prop} [Decidable c] {X : ms → ms → Prop} {P : ms → Prop} (hr : rdR en st) (he : en ≤ 6000) (h : MR S B en st) (hc : C B ↔ c) (kx : ∀ B', MR S B' en (if c then st else rdTell k st) → ∃ S', X B' S' ∧ P S') : ∃ S', (∃ (z : Int) (S1 : ms), EV q 333 0 [some (.ref 367)] [] B (some (vI z)) S1 ∧ ((w32 z = 0) → X S1 S') ∧ ((¬ w32 z = 0) → (C S1 → X S1 S') ∧ (¬ C S1 → ∃ S4 : ms, EV q 337 0 [some (.ref 367), some (vI k)] [] S1 none S4 ∧ X S4 S'))) ∧ P S' := by
  have kf := md_fine (q := q) hr h
  by_cases d : st.1 = 0
  · rw [if_pos d] at kf
    by_cases e : c
    · rw [if_pos e] at kx
      obtain ⟨S', x, p⟩ := kx B h
      exact ⟨S', ⟨1, B, kf, cNo (by decide) (cY (hc.2 e) x)⟩, p⟩
    · rw [if_neg e] at kx
      obtain ⟨B1, k1, k2⟩ := md_tell (q := q) (k := k) hr he h
      obtain ⟨S', x, p⟩ := kx B1 k2
      exact ⟨S', ⟨1, B, kf, cNo (by decide) (cNo (fun y => e (hc.1 y)) ⟨B1, k1, x⟩)⟩, p⟩
  · have e1 : (if c then st else rdTell k st) = st := by
      split
      · rfl
      · unfold rdTell rdTellAt
        rw [if_pos d]
    rw [e1] at kx
    rw [if_neg d] at kf
    obtain ⟨S', x, p⟩ := kx B h
    exact ⟨S', ⟨0, B, kf, cY (by decide) x⟩, p⟩
/-- the reference: what follows fine() over B itself -/
theorem gTellB {k : Int} {c : Prop} [Decidable c] {X : ms → ms → Prop} {P : ms → Prop} (hr : rdR en st) (he : en ≤ 6000) (h : MR S B en st) (kx : ∀ B', MR S B' en (if c then st else rdTell k st) → ∃ S', X B' S' ∧ P S') : ∃ S', ((w32 (if st.1 = 0 then (1 : Int) else 0) = 0 → X B S') ∧ (¬ w32 (if st.1 = 0 then (1 : Int) else 0) = 0 → (c → X B S') ∧ (¬ c → ∃ S4 : ms, EV q 337 0 [some (.ref 367), some (vI k)] [] B none S4 ∧ X S4 S'))) ∧ P S' := by
  by_cases d : st.1 = 0
  · rw [if_pos d]
    by_cases e : c
    · rw [if_pos e] at kx
      obtain ⟨S', x, p⟩ := kx B h
      exact ⟨S', cNo (by decide) (cY e x), p⟩
    · rw [if_neg e] at kx
      obtain ⟨B1, k1, k2⟩ := md_tell (q := q) (k := k) hr he h
      obtain ⟨S', x, p⟩ := kx B1 k2
      exact ⟨S', cNo (by decide) (cNo e ⟨B1, k1, x⟩), p⟩
  · have e1 : (if c then st else rdTell k st) = st := by
      split
      · rfl
      · unfold rdTell rdTellAt
        rw [if_pos d]
    rw [e1] at kx
    rw [if_neg d]
    obtain ⟨S', x, p⟩ := kx B h
    exact ⟨S', cY (by decide) x, p⟩
/-- the class: not c tells rule k -/
theorem gTellC {k : Int} {c : Prop} [Decidable c] {X : ms → ms → Prop} {P : ms → Prop} (hr : rdR en st) (ho : (300 < o ∨ o = 7)) (h : CR S A o en st) (kx : ∀ A', CR S A' o en (if c then st else rdTell k st) → ∃ S', X A' S' ∧ P S') : ∃ S', ((c → X A S') ∧ (¬ c → ∃ S4 : ms, EV q 124 0 [some (.ref 9), some (vI k)] [] A none S4 ∧ X S4 S')) ∧ P S' := by
  by_cases e : c
  · rw [if_pos e] at kx
    obtain ⟨S', x, p⟩ := kx A h
    exact ⟨S', cY e x, p⟩
  · rw [if_neg e] at kx
    obtain ⟨A1, k1, k2⟩ := sp_tell (q := q) (k := k) hr ho h
    obtain ⟨S', x, p⟩ := kx A1 k2
    exact ⟨S', cNo e ⟨A1, k1, x⟩, p⟩
theorem rd_gt {c : Prop} [Decidable c] {k : Int} (hk : 1 ≤ k ∧ k < 1000) (hr : rdR en st) : rdR en (if c then st else rdTell k st) ∧ Fw st (if c then st else rdTell k st) := by
  split
  · exact ⟨hr, Fw_r st⟩
  · exact ⟨rdR_tell hr hk, Fw_tellAt⟩
theorem rdTell_r {k : Int} (h : st.1 ≠ 0) : rdTell k st = st := by
  unfold rdTell rdTellAt
  rw [if_pos h]
theorem rdTell_1 {k : Int} (hk : k ≠ 0) : (rdTell k st).1 ≠ 0 := by
  unfold rdTell rdTellAt
  by_cases c : st.1 ≠ 0
  · rw [if_pos c]
    exact c
  · rw [if_neg c]
    exact hk
theorem Fw_copy {t : Int → Int} : ∀ (n : Nat) {st : Rd}, Fw st (rdCopy t en n st)
  | 0, st => Fw_r st
  | n + 1, st => by
    rw [rdCopy_s]
    split
    · exact Fw_r st
    · exact Fw_t (Fw_t Fw_take Fw_emit) (Fw_copy n)
theorem Fw_put {g : Int → Int} : ∀ (n : Nat) (p : Int) {st : Rd}, Fw st (rdPut g n p st)
  | 0, _, st => Fw_r st
  | n + 1, p, st => by
    rw [rdPut_s]
    split
    · exact Fw_r st
    · exact Fw_t Fw_emit (Fw_put n (p + 1))
/-- the standing text, on both sides -/
def FiC (S : ms) (o a : Nat) (sz : Int) (g : Int → Int) : Prop := isRow a 12000 ∧ (a ≠ o ∧ a + 1 ≠ o ∧ a ≠ o + 1 ∧ a + 1 ≠ 9) ∧ a ≠ 9 ∧ S.1 a 1 = sz ∧ ∀ k : Int, 0 ≤ k → k < sz → S.1 (a + 1) k = g k
def FiM (S : ms) (x1 sz : Int) (g : Int → Int) : Prop := (1 ≤ x1 ∧ x1 ≤ 12) ∧ S.1 370 x1 = sz ∧ ∀ k : Int, 0 ≤ k → k < sz → (0 ≤ g k ∧ g k < 256) ∧ S.1 369 (12000 * x1 + k) = b8 (g k)
/-- what stands behind the loop -/
def apE (D en : Int) (st : Rd) : Rd := if w64 D ≤ w64 (w32 st.2.2.2.1) then st else rdTellAt 135 en st
theorem ap_endC {t : Int → Int} {a2 : Nat} (ha : isRow a2 12000) {D x5 x7 : Int} (hC : RdC S o en t) (hr : rdR en st) (h : CR S A o en st) : ∃ A', EV q 221 186 [some (.ref 29), some (.ref 9), some (.ref a2), some (vL D), none, some (vL x5), none, some (vI x7), none, none, none] [] A none A' ∧ CR S A' o en (apE D en st) := by
  have eo : A.2.2 9 1 = o := by rw [h.1]; exact hC.1
  have ec : A.1 o 1 = st.2.2.2.1 := h.2.2.1.1
  unfold apE
  by_cases c : w64 D ≤ w64 (w32 st.2.2.2.1)
  · rw [if_pos c]
    exact ⟨A, vc_Copies_openDelta_186 _ _ _ _ _ ha ⟨o, 12000, eo, hC.2.1, by rw [ec]; exact cY c ⟨rfl, rfl⟩⟩, h⟩
  · rw [if_neg c]
    obtain ⟨A1, k1, k2⟩ := sp_tellAt (q := q) (k := 135) (p := A.1 9 2) hr hC.2.2.1 h
    have ep : rdTellAt 135 (A.1 9 2) st = rdTellAt 135 en st := by
      unfold rdTellAt
      by_cases d : st.1 ≠ 0
      · rw [if_pos d, if_pos d]
      · rw [h.2.1.1 (by omega)]
    rw [ep] at k2
    exact ⟨A1, vc_Copies_openDelta_186 _ _ _ _ _ ha ⟨o, 12000, eo, hC.2.1, by rw [ec]; exact cNo c ⟨A1, k1, rfl, rfl⟩⟩, k2⟩
theorem ap_stopC {t : Int → Int} {a2 : Nat} (ha : isRow a2 12000) {D x5 : Int} (i : Nat) (hC : RdC S o en t) (hr : rdR en st) (h : CR S A o en st) (hs : st.1 ≠ 0 ∨ en ≤ st.2.2.1) : ∃ A', EV q 221 59 [some (.ref 29), some (.ref 9), some (.ref a2), some (vL D), none, some (vL x5), none, some (vI i), none, none, none] [] A none A' ∧ CR S A' o en (apE D en st) := by
  obtain ⟨A', k1, k2⟩ := ap_endC (q := q) (D := D) (x5 := x5) (x7 := i) ha hC hr h
  have wr : w32 st.1 = st.1 := w32_of (by have := hr.1; omega)
  have we : w32 en = en := w32_of (by have := hC.2.2.2.1; omega)
  have wn : w32 st.2.2.1 = st.2.2.1 := w32_of (by have := hr.2.1; have := hC.2.2.2.1; omega)
  refine ⟨A', vc_Copies_openDelta_59 _ _ _ _ _ ha ⟨fun _ => k1, fun _ => ?_⟩, k2⟩
  rw [h.2.1.2.1, wr]
  refine ⟨fun _ => k1, fun n => ?_⟩
  have d : st.1 = 0 := by omega
  rw [h.2.1.1 d, we, h.2.1.2.2.2.1 d, wn]
  exact cY (by rcases hs with y | y; exact absurd y n; exact y) k1
theorem ap_endM {x1 x4 D : Int} {rr : Option Value} {P : ms → Prop} (hr : rdR en st) (h : MR S B en st) (nx : ∀ B, MR S B en (apE D en st) → ∃ B', EV q 406 387 [some (.ref 367), some (vI x1), some (vL D), none, some (vL x4), none, none, none, none, none, none, none, none] [] B rr B' ∧ P B') : ∃ B', EV q 406 359 [some (.ref 367), some (vI x1), some (vL D), none, some (vL x4), none, none, none, none, none, none, none, none] [] B rr B' ∧ P B' := by
  have kf := md_fine (q := q) hr h
  have ec : B.1 367 22 = st.2.2.2.1 := h.2.2.1.1
  unfold apE at nx
  by_cases d : st.1 = 0
  · have ee : B.1 367 15 = en := h.2.1.1 d
    rw [if_pos d] at kf
    by_cases c : w64 D ≤ w64 (w32 st.2.2.2.1)
    · rw [if_pos c] at nx
      obtain ⟨B', k1, k2⟩ := nx B h
      exact ⟨B', vc_MD_apply_359 _ _ _ ⟨1, B, kf, cNo (by decide) (by rw [ec]; exact cY c k1)⟩, k2⟩
    · rw [if_neg c] at nx
      obtain ⟨B1, j1, j2⟩ := md_tellAt (q := q) (k := 135) (p := en) hr h
      obtain ⟨B', k1, k2⟩ := nx B1 j2
      exact ⟨B', vc_MD_apply_359 _ _ _ ⟨1, B, kf, cNo (by decide) (by rw [ec, ee]; exact cNo c ⟨B1, j1, k1⟩)⟩, k2⟩
  · have e1 : (if w64 D ≤ w64 (w32 st.2.2.2.1) then st else rdTellAt 135 en st) = st := by
      split
      · rfl
      · unfold rdTellAt
        rw [if_pos d]
    rw [e1] at nx
    rw [if_neg d] at kf
    obtain ⟨B', k1, k2⟩ := nx B h
    exact ⟨B', vc_MD_apply_359 _ _ _ ⟨0, B, kf, cY (by decide) k1⟩, k2⟩
theorem ap_stopM {x1 x4 D : Int} {rr : Option Value} {P : ms → Prop} (he : en ≤ 6000) (hr : rdR en st) (h : MR S B en st) (hs : st.1 ≠ 0 ∨ en ≤ st.2.2.1) (nx : ∀ B, MR S B en (apE D en st) → ∃ B', EV q 406 387 [some (.ref 367), some (vI x1), some (vL D), none, some (vL x4), none, none, none, none, none, none, none, none] [] B rr B' ∧ P B') : ∃ B', EV q 406 106 [some (.ref 367), some (vI x1), some (vL D), none, some (vL x4), none, none, none, none, none, none, none, none] [] B rr B' ∧ P B' := by
  obtain ⟨B', k1, k2⟩ := ap_endM (q := q) hr h nx
  have kf := md_fine (q := q) hr h
  have we : w32 en = en := w32_of (by have := hr.2.1; omega)
  have wn : w32 st.2.2.1 = st.2.2.1 := w32_of (by have := hr.2.1; omega)
  refine ⟨B', vc_MD_apply_106 _ _ _ ⟨_, B, kf, fun _ => k1, fun n => ?_⟩, k2⟩
  have d : st.1 = 0 := by
    apply Classical.byContradiction
    intro d
    rw [if_neg d] at n
    exact n (by decide)
  rw [h.2.1.1 d, we, h.2.1.2.2.2.2 d, if_pos rfl, Int.sub_zero, wn]
  exact cY (by rcases hs with y | y; exact absurd d y; exact y) k1
/-- openFromFirst, when a rule is told already -/
theorem sp_ff0 {t : Int → Int} {a1 : Nat} {z : Int} (ha : isRow a1 12000) (ht : ∀ k : Int, 0 ≤ k → k < en → 0 ≤ t k ∧ t k < 256) (hC : RdC S o en t) (hr : rdR en st) (h : CR S A o en st) (d : st.1 ≠ 0) : ∃ A', EV q 222 0 [some (.ref 9), some (.ref a1), some (vL z), none, none, none, none] [] A none A' ∧ CR S A' o en st := by
  obtain ⟨pl, s2, ⟨g1, g2⟩, g3, g4, g5⟩ := jsev (q := q) (by have := hC.2.2.2.1; omega) ht 5 0 0 st (by omega) hr (by decide)
  obtain ⟨A1, k1, k2⟩ := g4 S A o hC h
  have e2 : s2 = st := g2.1 d
  subst e2
  have wr : w32 s2.1 = s2.1 := w32_of (by have := hr.1; omega)
  have e29 : ∀ A1, CR S A1 o en s2 → EV q 222 29 [some (.ref 9), some (.ref a1), some (vL z), none, some (vL pl), none, some (vI 0)] [] A1 none A1 := fun A1 h1 => vc_Copies_openFromFirst_29 _ _ _ _ _ ha ⟨fun _ => ⟨rfl, rfl⟩, fun _ => by rw [h1.2.1.2.1, wr]; exact cY d ⟨rfl, rfl⟩⟩
  have k1' : EV q 158 0 [some (.ref 9), none, none, none, none] [] A (some (vL pl)) A1 := vc_Source_takeSevens k1
  obtain ⟨A', f, p⟩ := gTellC (q := q) (k := 133) (c := w64 (z + pl) ≤ w64 (w32 (A1.1 a1 1))) (X := fun U V => EV q 222 26 [some (.ref 9), some (.ref a1), some (vL z), none, some (vL pl), none, none] [] U none V) (P := fun U => CR S U o en s2) g1 hC.2.2.1 k2 (fun A2 h2 => by
    have e3 : (if w64 (z + pl) ≤ w64 (w32 (A1.1 a1 1)) then s2 else rdTell 133 s2) = s2 := by
      split
      · rfl
      · exact rdTell_r d
    rw [e3] at h2
    exact ⟨A2, vc_Copies_openFromFirst_26 _ _ _ _ ha (e29 A2 h2), h2⟩)
  exact ⟨A', vc_Copies_openFromFirst _ _ _ ha ⟨pl, A1, k1', f⟩, p⟩
end Apply1
