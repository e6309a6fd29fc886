/-! open, kind 2: WORDS -/
section WordsO
variable {q : Nat × (Nat → Int32)} {en : Int}
theorem CB_0 {S A : ms} {o : Nat} {st : Rd} (t : Int → Int) (h : CR S A o en st) : CB S A o en t st 0 := ⟨h.1, ⟨h.2.1.1, h.2.1.2.1, h.2.1.2.2.1, h.2.1.2.2.2.1, fun y => ⟨(h.2.1.2.2.2.2 y).1, (h.2.1.2.2.2.2 y).2.1, fun z => absurd z (by decide)⟩⟩, h.2.2⟩
theorem CB_I {S A : ms} {o a : Nat} {t : Int → Int} {u : Int} {st : Rd} (k v : Int) (h9 : a ≠ 9) (ho : a ≠ o) (ho1 : a ≠ o + 1) (o9 : (300 < o ∨ o = 7)) (h : CB S A o en t st u) : CB (wI S a k v) (wI A a k v) o en t st u := by
  obtain ⟨h1, ⟨a1, a2, a3, a4, a5⟩, ⟨a6, a7⟩, h4⟩ := h
  have q2 : ∀ (b : Nat) (j : Int), b ≠ a → (wI A a k v).1 b j = A.1 b j := fun b j n => by rw [rI_I, if_neg (fun y => n y.1)]
  refine ⟨h1, ⟨fun y => by rw [q2 _ _ (by omega)]; exact a1 y, by rw [q2 _ _ (by omega)]; exact a2, by rw [q2 _ _ (by omega)]; exact a3, fun y => by rw [q2 _ _ (by omega)]; exact a4 y, fun y => by rw [q2 _ _ (by omega), q2 _ _ (by omega), q2 _ _ (by omega)]; exact a5 y⟩, ⟨by rw [q2 _ _ (by omega)]; exact a6, fun j j0 j1 => by rw [q2 _ _ (by omega)]; exact a7 j j0 j1⟩, fun b j n1 n2 n3 => ?_⟩
  rw [rI_I, rI_I]
  split
  · rfl
  · exact h4 b j n1 n2 n3
theorem MB_I {S B : ms} {a : Nat} {u : Int} {st : Rd} (k v : Int) (h9 : a ≠ 367) (ho : a ≠ 375) (h : MB S B en st u) : MB (wI S a k v) (wI B a k v) en st u := by
  obtain ⟨h1, ⟨a1, a0, a2, a3, a4⟩, ⟨a6, a7⟩, h4⟩ := h
  have q2 : ∀ (b : Nat) (j : Int), b ≠ a → (wI B a k v).1 b j = B.1 b j := fun b j n => by rw [rI_I, if_neg (fun y => n y.1)]
  refine ⟨h1, ⟨fun y => by rw [q2 _ _ (by omega)]; exact a1 y, fun y => by rw [q2 _ _ (by omega)]; exact a0 y, by rw [q2 _ _ (by omega)]; exact a2, by rw [q2 _ _ (by omega)]; exact a3, fun y => by rw [q2 _ _ (by omega)]; exact a4 y⟩, ⟨by rw [q2 _ _ (by omega)]; exact a6, fun j j0 j1 => by rw [q2 _ _ (by omega)]; exact a7 j j0 j1⟩, fun b j n1 n2 => ?_⟩
  rw [rI_I, rI_I]
  split
  · rfl
  · exact h4 b j n1 n2
/-- mustEnd() and end(), wherever the bits stand -/
theorem sb_end {S A : ms} {o : Nat} {t t' : Int → Int} {u : Int} {st : Rd} (hC : RdC S o en t) (hr : rdR en st) (h : CB S A o en t' st u) : ∃ A', EV q 125 0 [some (.ref 9)] [] A none A' ∧ CB S A' o en t' (rdEnd en st) u := by
  by_cases c : st.1 = 0
  · have we : w32 en = en := w32_of (by have := hC.2.2.2.1; omega)
    have wn : w32 st.2.2.1 = st.2.2.1 := w32_of (by have := hr.2.1; have := hC.2.2.2.1; omega)
    unfold rdEnd
    by_cases d : en ≤ st.2.2.1
    · rw [if_pos d]
      refine ⟨A, vc_Source_mustEnd ?_, h⟩
      rw [h.2.1.1 c, we, h.2.1.2.2.2.1 c, wn]
      exact cY d ⟨rfl, rfl⟩
    · rw [if_neg d]
      obtain ⟨A1, k1, k2⟩ := sb_tellAt (q := q) (k := 14) (p := st.2.2.1) hr hC.2.2.1 h
      refine ⟨A1, vc_Source_mustEnd ?_, k2⟩
      rw [h.2.1.1 c, we, h.2.1.2.2.2.1 c, wn]
      exact cNo d ⟨A1, k1, rfl, rfl⟩
  · have e : rdEnd en st = st := by
      unfold rdEnd rdTellAt
      by_cases d : en ≤ st.2.2.1
      · rw [if_pos d]
      · rw [if_neg d, if_pos c]
    rw [e]
    obtain ⟨A1, k1, k2⟩ := sb_tellAt (q := q) (k := 14) (p := A.1 9 3) hr hC.2.2.1 h
    have e2 : rdTellAt 14 (A.1 9 3) st = st := by
      unfold rdTellAt
      rw [if_pos c]
    rw [e2] at k2
    by_cases d : w32 (A.1 9 2) ≤ w32 (A.1 9 3)
    · exact ⟨A, vc_Source_mustEnd (cY d ⟨rfl, rfl⟩), h⟩
    · exact ⟨A1, vc_Source_mustEnd (cNo d ⟨A1, k1, rfl, rfl⟩), k2⟩
theorem mb_whole {S B : ms} {u : Int} {st : Rd} (hh : hR st u) (h : MB S B en st u) : ∃ B', EV q 342 0 [some (.ref 367)] [] B none B' ∧ MR S B' en st := by
  obtain ⟨h1, ⟨a1, a0, a2, a3, a4⟩, ⟨a6, a7⟩, h4⟩ := id h
  have up : ∀ x : Int, (st.1 = 0 → x = st.2.2.1) → MR S (wI (wI B 367 17 0) 367 16 x) en st := by
    intro x hx
    have q2 : ∀ (c : Nat) (k : Int), (wI (wI B 367 17 0) 367 16 x).1 c k = if c = 367 ∧ k = 16 then x else if c = 367 ∧ k = 17 then 0 else B.1 c k := fun _ _ => rfl
    refine ⟨h1, ⟨fun y => ?_, fun y => ?_, ?_, ?_, fun y => ?_⟩, ⟨?_, fun k k0 k1 => ?_⟩, fun b k n1 n2 => ?_⟩
    · rw [q2, if_neg (by decide), if_neg (by decide), a1 y]
    · rw [q2, if_neg (by decide), if_pos ⟨rfl, rfl⟩]
    · rw [q2, if_neg (by decide), if_neg (by decide), a2]
    · rw [q2, if_neg (by decide), if_neg (by decide), a3]
    · rw [q2, if_pos ⟨rfl, rfl⟩, if_pos rfl, Int.sub_zero, hx y]
    · rw [q2, if_neg (by decide), if_neg (by decide), a6]
    · rw [q2, if_neg (by omega), if_neg (by omega), a7 k k0 k1]
    · rw [q2, if_neg (by omega), if_neg (by omega), h4 b k n1 n2]
  by_cases d : w32 (B.1 367 17) ≤ 0
  · refine ⟨B, vc_MD_nextWhole (cY d ⟨rfl, rfl⟩), ?_⟩
    refine ⟨h1, ⟨a1, fun y => ?_, a2, a3, fun y => ?_⟩, ⟨a6, a7⟩, h4⟩
    · rw [a0 y, w32_of (by have := hh.1; omega)] at d
      rw [a0 y]
      have := hh.1
      omega
    · rw [a0 y, w32_of (by have := hh.1; omega)] at d
      have u0 : u = 0 := by have := hh.1; omega
      rw [a4 y, if_pos u0, if_pos rfl]
  · refine ⟨wI (wI B 367 17 0) 367 16 ((wI B 367 17 0).1 367 16 + 1), vc_MD_nextWhole (cNo d (fun S1 f1 S2 f2 => ⟨rfl, by subst f1 f2; rfl⟩)), up _ (fun y => ?_)⟩
    rw [a0 y, w32_of (by have := hh.1; omega)] at d
    rw [rI_I, if_neg (by decide), a4 y, if_neg (by omega)]
    omega
theorem mb_end {S B : ms} {u : Int} {st : Rd} (he : en ≤ 6000) (hr : rdR en st) (hh : hR st u) (h : MB S B en st u) : ∃ B', EV q 341 0 [some (.ref 367)] [] B none B' ∧ MR S B' en (rdEnd en st) := by
  obtain ⟨B1, k1, k2⟩ := mb_whole (q := q) hh h
  obtain ⟨B', k3, k4⟩ := md_end (q := q) he hr k2
  -- end() begins with nextWhole() again: it does nothing there
  have wr : w32 st.1 = st.1 := w32_of (by have := hr.1; omega)
  by_cases c : st.1 = 0
  · have we : w32 en = en := w32_of (by have := hr.2.1; omega)
    have wn : w32 st.2.2.1 = st.2.2.1 := w32_of (by have := hr.2.1; omega)
    unfold rdEnd
    by_cases d : en ≤ st.2.2.1
    · rw [if_pos d]
      refine ⟨B1, vc_MD_end ⟨B1, k1, ?_⟩, k2⟩
      rw [k2.2.1.2.2.1, wr, k2.2.1.1 c, we, k2.2.1.2.2.2.2 c, if_pos rfl, Int.sub_zero, wn]
      exact cNN c (cY d ⟨rfl, rfl⟩)
    · rw [if_neg d]
      obtain ⟨B2, j1, j2⟩ := md_tellAt (q := q) (k := 14) (p := st.2.2.1) hr k2
      refine ⟨B2, vc_MD_end ⟨B1, k1, ?_⟩, j2⟩
      rw [k2.2.1.2.2.1, wr, k2.2.1.1 c, we, k2.2.1.2.2.2.2 c, if_pos rfl, Int.sub_zero, wn]
      exact cNN c (cNo d ⟨B2, j1, rfl, rfl⟩)
  · have e : rdEnd en st = st := by
      unfold rdEnd rdTellAt
      by_cases d : en ≤ st.2.2.1
      · rw [if_pos d]
      · rw [if_neg d, if_pos c]
    rw [e]
    refine ⟨B1, vc_MD_end ⟨B1, k1, ?_⟩, k2⟩
    rw [k2.2.1.2.2.1, wr]
    exact cY c ⟨rfl, rfl⟩
/-- how wide code number k is -/
def wdV (k : Int) : Nat := if 2048 ≤ 257 + k then 12 else if 1024 ≤ 257 + k then 11 else if 512 ≤ 257 + k then 10 else 9
theorem cw_width {A : ms} {k : Int} (hk : 0 ≤ k ∧ k ≤ 3839) : EV q 52 0 [some (vI k), none] [] A (some (vI (wdV k))) A := by
  have w : w32 (257 + k) = 257 + k := w32_of (by omega)
  refine vc_Plain_width _ ?_
  rw [w]
  unfold wdV
  by_cases c1 : 512 ≤ 257 + k
  · by_cases c2 : 1024 ≤ 257 + k
    · by_cases c3 : 2048 ≤ 257 + k
      · rw [if_pos c3]
        exact cY c1 (cY c2 (cY c3 ⟨rfl, rfl⟩))
      · rw [if_neg c3, if_pos c2]
        exact cY c1 (cY c2 (cNo c3 ⟨rfl, rfl⟩))
    · rw [if_neg (by omega), if_neg c2, if_pos c1]
      exact cY c1 (cNo c2 ⟨rfl, rfl⟩)
  · rw [if_neg (by omega), if_neg (by omega), if_neg c1]
    exact cNo c1 ⟨rfl, rfl⟩
theorem mw_width {B : ms} {k : Int} (hk : 0 ≤ k ∧ k ≤ 3839) : EV q 286 0 [some (vI k), none] [] B (some (vI (wdV k))) B := by
  have w : w32 (257 + k) = 257 + k := w32_of (by omega)
  have k12 : EV q 286 3 [some (vI k), some (vI 12)] [] B (some (vI 12)) B := vc_MD_widthOf_3 _ _ (cY (by decide) ⟨rfl, rfl⟩)
  refine vc_MD_widthOf _ (vc_MD_widthOf_3 _ _ (cNo (by decide) ?_))
  rw [w]
  unfold wdV
  by_cases c1 : 512 ≤ 257 + k
  · refine cNo (show ¬ 257 + k < 512 by omega) (vc_MD_widthOf_3 _ _ (cNo (by decide) ?_))
    rw [w]
    by_cases c2 : 1024 ≤ 257 + k
    · refine cNo (show ¬ 257 + k < 1024 by omega) (vc_MD_widthOf_3 _ _ (cNo (by decide) ?_))
      rw [w]
      by_cases c3 : 2048 ≤ 257 + k
      · rw [if_pos c3]
        exact cNo (show ¬ 257 + k < 2048 by omega) k12
      · rw [if_neg c3, if_pos c2]
        exact cY (show 257 + k < 2048 by omega) ⟨rfl, rfl⟩
    · rw [if_neg (by omega), if_neg c2, if_pos c1]
      exact cY (show 257 + k < 1024 by omega) ⟨rfl, rfl⟩
  · rw [if_neg (by omega), if_neg (by omega), if_neg c1]
    exact cY (show 257 + k < 512 by omega) ⟨rfl, rfl⟩
theorem wdV_rg (k : Int) : 9 ≤ wdV k ∧ wdV k ≤ 12 := by
  unfold wdV
  split
  · omega
  · split
    · omega
    · split <;> omega
end WordsO
