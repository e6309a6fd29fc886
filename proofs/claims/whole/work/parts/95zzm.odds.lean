/-! open, kind 10: ODDS -/
section OddsO
variable {q : Nat × (Nat → Int32)} {en : Int}
theorem lO_by {k b : Int} (hk : 0 ≤ k ∧ k < 1099511627776) (hb : 0 ≤ b ∧ b < 256) : lO (k * 256) b = k * 256 + b := by
  obtain ⟨k', ek⟩ : ∃ k' : Nat, k = k' := ⟨k.toNat, by omega⟩
  obtain ⟨b', eb⟩ : ∃ b' : Nat, b = b' := ⟨b.toNat, by omega⟩
  subst ek eb
  unfold lO
  have h := Nat.two_pow_add_eq_or_of_lt (i := 8) (b := b') (by show b' < 256; omega) k'
  rw [show (((k' : Int) * 256) % 18446744073709551616).toNat = 2 ^ 8 * k' by omega, show ((b' : Int) % 18446744073709551616).toNat = b' by omega, ← h]
  omega
/-- takeHigh(n), highNumber(n) -/
theorem jhigh {t : Int → Int} (ht : ∀ k : Int, 0 ≤ k → k < en → 0 ≤ t k ∧ t k < 256) {n : Nat} (hn : n ≤ 4) : ∀ (m i : Nat) (v : Int) (st : Rd), i + m = n → rdR en st → (0 ≤ v ∧ v < (256 : Int) ^ i) → ∃ (z : Int) (st' : Rd), (rdR en st' ∧ Fw st st') ∧ (0 ≤ z ∧ z < (256 : Int) ^ n) ∧ JL q en t st st' z 143 5 352 5 [some (vI n), some (vL v), none, some (vI i)] [some (vI n), some (vL v), none, some (vI i)] := by
  intro m
  induction m with
  | zero =>
    intro i v st hi hr hv
    have e : i = n := by omega
    subst e
    exact ⟨v, st, ⟨hr, Fw_r st⟩, hv, fun S A o _ h => ⟨A, vc_Source_takeHigh_5 _ _ _ (cY (Int.le_refl _) ⟨rfl, rfl⟩), h⟩, fun S B _ h => ⟨B, vc_MD_highNumber_5 _ _ _ (cY (Int.le_refl _) ⟨rfl, rfl⟩), h⟩⟩
  | succ m ih =>
    intro i v st hi hr hv
    have tr := rdTake_rg hr ht
    obtain ⟨x, ex⟩ : ∃ x : Int, x = (rdTake t en st).1 := ⟨_, rfl⟩
    rw [← ex] at tr
    have wt : w32 x = x := w32_of (by omega)
    have p4 : (256 : Int) ^ i ≤ 16777216 := by
      have hi4 : i = 0 ∨ i = 1 ∨ i = 2 ∨ i = 3 := by omega
      rcases hi4 with e | e | e | e <;> subst e <;> decide
    have el : lO (v * 256) x = v * 256 + x := lO_by (by omega) tr
    have ps : (256 : Int) ^ (i + 1) = (256 : Int) ^ i * 256 := Int.pow_succ _ _
    obtain ⟨z, st', ⟨g1, g1'⟩, g2, g3, g4⟩ := ih (i + 1) (v * 256 + x) (rdTake t en st).2 (by omega) (rdR_take hr) (by rw [ps]; omega)
    have ek : ((i + 1 : Nat) : Int) = (i : Int) + 1 := by omega
    rw [ek] at g3 g4
    have z0 : ¬ (n : Int) ≤ i := by omega
    have wn : Unit → w32 (n : Int) = n := fun _ => w32_of (by omega)
    have wi : Unit → w32 (i : Int) = i := fun _ => w32_of (by omega)
    refine ⟨z, st', ⟨g1, Fw_t Fw_take g1'⟩, g2, fun S A o hC h => ?_, fun S B hC h => ?_⟩
    · obtain ⟨A1, k1, k2⟩ := sp_take (q := q) hC hr h
      obtain ⟨A2, k3, k4⟩ := g3 S A1 o hC k2
      rw [← ex] at k1
      refine ⟨A2, vc_Source_takeHigh_5 _ _ _ ?_, k4⟩
      rw [wn (), wi ()]
      refine cNo z0 ⟨_, A1, k1, ?_⟩
      rw [wt, el]
      exact k3
    · obtain ⟨B1, k1, k2⟩ := md_take (q := q) hC hr h
      obtain ⟨B2, k3, k4⟩ := g4 S B1 hC k2
      rw [← ex] at k1
      refine ⟨B2, vc_MD_highNumber_5 _ _ _ ?_, k4⟩
      rw [wn (), wi ()]
      refine cNo z0 ⟨_, B1, k1, ?_⟩
      rw [wt, el]
      exact k3
theorem jhigh0 {t : Int → Int} (ht : ∀ k : Int, 0 ≤ k → k < en → 0 ≤ t k ∧ t k < 256) {n : Nat} (hn : n ≤ 4) {st : Rd} (hr : rdR en st) : ∃ (z : Int) (st' : Rd), (rdR en st' ∧ Fw st st') ∧ (0 ≤ z ∧ z < (256 : Int) ^ n) ∧ (∀ (S A : ms) (o : Nat), RdC S o en t → CR S A o en st → ∃ A', EV q 143 0 [some (.ref 9), some (vI n), none, none, none] [] A (some (vL z)) A' ∧ CR S A' o en st') ∧ ∀ S B : ms, RdM S en t → MR S B en st → ∃ B', EV q 352 0 [some (.ref 367), some (vI n), none, none, none] [] B (some (vL z)) B' ∧ MR S B' en st' := by
  obtain ⟨z, st', g1, g2, g3, g4⟩ := jhigh (q := q) ht hn n 0 0 st (by omega) hr (by show (0 : Int) ≤ 0 ∧ (0 : Int) < 1; decide)
  refine ⟨z, st', g1, g2, fun S A o hC h => ?_, fun S B hC h => ?_⟩
  · obtain ⟨A', k1, k2⟩ := g3 S A o hC h
    exact ⟨A', vc_Source_takeHigh _ k1, k2⟩
  · obtain ⟨B', k1, k2⟩ := g4 S B hC h
    exact ⟨B', vc_MD_highNumber _ k1, k2⟩
/-- the memory under a reader may change elsewhere -/
theorem CR_J {S A : ms} {o : Nat} {st : Rd} (a : Nat) (k v : Int) (h : CR S A o en st) : CR (wJ S a k v) (wJ A a k v) o en st := by
  refine ⟨?_, h.2⟩
  have := h.1
  show ((fun b j => if b = a ∧ j = k then v else A.2.1 b j), A.2.2) = ((fun b j => if b = a ∧ j = k then v else S.2.1 b j), S.2.2)
  rw [this]
theorem CR_I {S A : ms} {o a : Nat} {st : Rd} (k v : Int) (h9 : a ≠ 9) (ho : a ≠ o) (ho1 : a ≠ o + 1) (o9 : (300 < o ∨ o = 7)) (h : CR S A o en st) : CR (wI S a k v) (wI A a k v) o en st := by
  obtain ⟨h1, ⟨a1, a2, a3, a4, a5⟩, ⟨a6, a7⟩, h4⟩ := h
  have q2 : ∀ (b : Nat) (j : Int), b ≠ a → (wI A a k v).1 b j = A.1 b j := fun b j n => by rw [rI_I, if_neg (fun y => n y.1)]
  refine ⟨h1, ⟨fun y => by rw [q2 _ _ (by omega)]; exact a1 y, by rw [q2 _ _ (by omega)]; exact a2, by rw [q2 _ _ (by omega)]; exact a3, fun y => by rw [q2 _ _ (by omega)]; exact a4 y, fun y => by rw [q2 _ _ (by omega), q2 _ _ (by omega), q2 _ _ (by omega)]; exact a5 y⟩, ⟨by rw [q2 _ _ (by omega)]; exact a6, fun j j0 j1 => by rw [q2 _ _ (by omega)]; exact a7 j j0 j1⟩, fun b j n1 n2 n3 => ?_⟩
  rw [rI_I, rI_I]
  split
  · rfl
  · exact h4 b j n1 n2 n3
theorem MR_J {S B : ms} {st : Rd} (a : Nat) (k v : Int) (h : MR S B en st) : MR (wJ S a k v) (wJ B a k v) en st := by
  refine ⟨?_, h.2⟩
  have := h.1
  show ((fun b j => if b = a ∧ j = k then v else B.2.1 b j), B.2.2) = ((fun b j => if b = a ∧ j = k then v else S.2.1 b j), S.2.2)
  rw [this]
theorem MR_I {S B : ms} {a : Nat} {st : Rd} (k v : Int) (h9 : a ≠ 367) (ho : a ≠ 375) (h : MR S B en st) : MR (wI S a k v) (wI B a k v) en st := by
  obtain ⟨h1, ⟨a1, a0, a2, a3, a4⟩, ⟨a6, a7⟩, h4⟩ := h
  have q2 : ∀ (b : Nat) (j : Int), b ≠ a → (wI B a k v).1 b j = B.1 b j := fun b j n => by rw [rI_I, if_neg (fun y => n y.1)]
  refine ⟨h1, ⟨fun y => by rw [q2 _ _ (by omega)]; exact a1 y, fun y => by rw [q2 _ _ (by omega)]; exact a0 y, by rw [q2 _ _ (by omega)]; exact a2, by rw [q2 _ _ (by omega)]; exact a3, fun y => by rw [q2 _ _ (by omega)]; exact a4 y⟩, ⟨by rw [q2 _ _ (by omega)]; exact a6, fun j j0 j1 => by rw [q2 _ _ (by omega)]; exact a7 j j0 j1⟩, fun b j n1 n2 => ?_⟩
  rw [rI_I, rI_I]
  split
  · rfl
  · exact h4 b j n1 n2
theorem RdC_ey {X : Nat → Int → Prop} {S S' : ms} {o : Nat} {t : Int → Int} (h : RdC S o en t) (e : EY X S S') (hx : ∀ k, ¬ X 2 k) : RdC S' o en t := ⟨by rw [e.1]; exact h.1, h.2.1, h.2.2.1, h.2.2.2.1, fun k k0 k1 => by rw [e.2 _ _ (hx k)]; exact h.2.2.2.2 k k0 k1⟩
theorem RdM_ey {X : Nat → Int → Prop} {S S' : ms} {t : Int → Int} (h : RdM S en t) (e : EY X S S') (hx : ∀ k, ¬ X 368 k) : RdM S' en t := ⟨by rw [e.1]; exact h.1, h.2.1, fun k k0 k1 => by rw [e.2 _ _ (hx k)]; exact h.2.2 k k0 k1⟩
/-- mustEnd() and end() -/
def rdEnd (en : Int) (st : Rd) : Rd := if en ≤ st.2.2.1 then st else rdTellAt 14 st.2.2.1 st
theorem rdR_end {st : Rd} (h : rdR en st) : rdR en (rdEnd en st) := by
  unfold rdEnd
  split
  · exact h
  · exact rdR_tellAt h (by decide)
theorem sp_end {S A : ms} {o : Nat} {t : Int → Int} {st : Rd} (hC : RdC S o en t) (hr : rdR en st) (h : CR S A o en st) : ∃ A', EV q 125 0 [some (.ref 9)] [] A none A' ∧ CR S A' o en (rdEnd en st) := by
  by_cases c : st.1 = 0
  · have we : w32 en = en := w32_of (by have := hC.2.2.2.1; omega)
    have wn : w32 st.2.2.1 = st.2.2.1 := w32_of (by have := hr.2.1; have := hC.2.2.2.1; omega)
    unfold rdEnd
    by_cases d : en ≤ st.2.2.1
    · rw [if_pos d]
      refine ⟨A, vc_Source_mustEnd ?_, h⟩
      rw [h.2.1.1 c, we, h.2.1.2.2.2.1 c, wn]
      exact cY d ⟨rfl, rfl⟩
    · rw [if_neg d]
      obtain ⟨A1, k1, k2⟩ := sp_tellAt (q := q) (k := 14) (p := st.2.2.1) hr hC.2.2.1 h
      refine ⟨A1, vc_Source_mustEnd ?_, k2⟩
      rw [h.2.1.1 c, we, h.2.1.2.2.2.1 c, wn]
      exact cNo d ⟨A1, k1, rfl, rfl⟩
  · have e : rdEnd en st = st := by
      unfold rdEnd rdTellAt
      by_cases d : en ≤ st.2.2.1
      · rw [if_pos d]
      · rw [if_neg d, if_pos c]
    rw [e]
    obtain ⟨A1, k1, k2⟩ := sp_tellAt (q := q) (k := 14) (p := A.1 9 3) hr hC.2.2.1 h
    have e2 : rdTellAt 14 (A.1 9 3) st = st := by
      unfold rdTellAt
      rw [if_pos c]
    rw [e2] at k2
    by_cases d : w32 (A.1 9 2) ≤ w32 (A.1 9 3)
    · exact ⟨A, vc_Source_mustEnd (cY d ⟨rfl, rfl⟩), h⟩
    · exact ⟨A1, vc_Source_mustEnd (cNo d ⟨A1, k1, rfl, rfl⟩), k2⟩
theorem md_end {S B : ms} {st : Rd} (he : en ≤ 6000) (hr : rdR en st) (h : MR S B en st) : ∃ B', EV q 341 0 [some (.ref 367)] [] B none B' ∧ MR S B' en (rdEnd en st) := by
  have wr : w32 st.1 = st.1 := w32_of (by have := hr.1; omega)
  by_cases c : st.1 = 0
  · have we : w32 en = en := w32_of (by have := hr.2.1; omega)
    have wn : w32 st.2.2.1 = st.2.2.1 := w32_of (by have := hr.2.1; omega)
    have kw : EV q 342 0 [some (.ref 367)] [] B none B := vc_MD_nextWhole (by rw [h.2.1.2.1 c]; exact cY (by decide) ⟨rfl, rfl⟩)
    unfold rdEnd
    by_cases d : en ≤ st.2.2.1
    · rw [if_pos d]
      refine ⟨B, vc_MD_end ⟨B, kw, ?_⟩, h⟩
      rw [h.2.1.2.2.1, wr, h.2.1.1 c, we, h.2.1.2.2.2.2 c, if_pos rfl, Int.sub_zero, wn]
      exact cNN c (cY d ⟨rfl, rfl⟩)
    · rw [if_neg d]
      obtain ⟨B1, k1, k2⟩ := md_tellAt (q := q) (k := 14) (p := st.2.2.1) hr h
      refine ⟨B1, vc_MD_end ⟨B, kw, ?_⟩, k2⟩
      rw [h.2.1.2.2.1, wr, h.2.1.1 c, we, h.2.1.2.2.2.2 c, if_pos rfl, Int.sub_zero, wn]
      exact cNN c (cNo d ⟨B1, k1, rfl, rfl⟩)
  · have e : rdEnd en st = st := by
      unfold rdEnd rdTellAt
      by_cases d : en ≤ st.2.2.1
      · rw [if_pos d]
      · rw [if_neg d, if_pos c]
    rw [e]
    obtain ⟨B1, k1, k2⟩ : ∃ B1, EV q 342 0 [some (.ref 367)] [] B none B1 ∧ MR S B1 en st := by
      by_cases d : w32 (B.1 367 17) ≤ 0
      · exact ⟨B, vc_MD_nextWhole (cY d ⟨rfl, rfl⟩), h⟩
      · refine ⟨wI (wI B 367 17 0) 367 16 ((wI B 367 17 0).1 367 16 + 1), vc_MD_nextWhole (cNo d (fun S1 f1 S2 f2 => ⟨rfl, by subst f1 f2; rfl⟩)), ?_⟩
        obtain ⟨h1, ⟨a1, a0, a2, a3, a4⟩, ⟨a6, a7⟩, h4⟩ := h
        refine ⟨h1, ⟨fun y => absurd y c, fun y => absurd y c, ?_, ?_, fun y => absurd y c⟩, ⟨?_, fun k k0 k1 => ?_⟩, fun b k n1 n2 => ?_⟩
        · rw [rI_I, if_neg (by decide), rI_I, if_neg (by decide), a2]
        · rw [rI_I, if_neg (by decide), rI_I, if_neg (by decide), a3]
        · rw [rI_I, if_neg (by decide), rI_I, if_neg (by decide), a6]
        · rw [rI_I, if_neg (by omega), rI_I, if_neg (by omega), a7 k k0 k1]
        · rw [rI_I, if_neg (by omega), rI_I, if_neg (by omega), h4 b k n1 n2]
    refine ⟨B1, vc_MD_end ⟨B1, k1, ?_⟩, k2⟩
    rw [k2.2.1.2.2.1, wr]
    exact cY c ⟨rfl, rfl⟩
/-- the state of ODDS: the reader, the code, the range, the odds -/
abbrev Ob := Rd × Int × Int × (Int → Int)
def obd (s : Ob) (w : Int) : Int := s.2.2.1 / 2048 * s.2.2.2 w
def obt (s : Ob) (w : Int) : Int := if obd s w ≤ s.2.1 then 1 else 0
def oc1 (s : Ob) (w : Int) : Int := if obd s w ≤ s.2.1 then s.2.1 - obd s w else s.2.1
def or1 (s : Ob) (w : Int) : Int := if obd s w ≤ s.2.1 then s.2.2.1 - obd s w else obd s w
def ov (s : Ob) (w : Int) : Int := if obd s w ≤ s.2.1 then s.2.2.2 w - s.2.2.2 w / 32 else s.2.2.2 w + (2048 - s.2.2.2 w) / 32
def oo (s : Ob) (w : Int) : Int → Int := fun k => if k = w then ov s w else s.2.2.2 k
def onx (t : Int → Int) (en : Int) (s : Ob) (w : Int) : Ob := if or1 s w < 16777216 then ((rdTake t en s.1).2, (oc1 s w * 256 + (rdTake t en s.1).1) % 4294967296, or1 s w * 256, oo s w) else (s.1, oc1 s w, or1 s w, oo s w)
def obR (s : Ob) : Prop := (0 ≤ s.2.1 ∧ s.2.1 < 4294967296) ∧ (16777216 ≤ s.2.2.1 ∧ s.2.2.1 < 4294967296) ∧ ∀ k, 31 ≤ s.2.2.2 k ∧ s.2.2.2 k ≤ 2017
theorem ob_rg {s : Ob} {w : Int} (h : obR s) : (131072 ≤ or1 s w ∧ or1 s w < 4294967296) ∧ (0 ≤ oc1 s w ∧ oc1 s w < 4294967296) ∧ (131072 ≤ obd s w ∧ obd s w < 4294967296) := by
  obtain ⟨h1, h2, h3⟩ := h
  have h4 := h3 w
  have e1 : 31 * (s.2.2.1 / 2048) ≤ obd s w := by
    unfold obd
    rw [Int.mul_comm]
    exact Int.mul_le_mul_of_nonneg_left h4.1 (by omega)
  have e2 : obd s w ≤ 2017 * (s.2.2.1 / 2048) := by
    unfold obd
    rw [Int.mul_comm 2017]
    exact Int.mul_le_mul_of_nonneg_left h4.2 (by omega)
  unfold or1 oc1
  split
  · omega
  · omega
theorem obR_nx {t : Int → Int} {s : Ob} {w : Int} (h : obR s) (hr : rdR en s.1) (ht : ∀ k : Int, 0 ≤ k → k < en → 0 ≤ t k ∧ t k < 256) : obR (onx t en s w) ∧ rdR en (onx t en s w).1 ∧ Fw s.1 (onx t en s w).1 := by
  obtain ⟨g1, g2, g3⟩ := ob_rg (w := w) h
  have ho : ∀ k, 31 ≤ oo s w k ∧ oo s w k ≤ 2017 := by
    intro k
    unfold oo
    split
    · have h4 := h.2.2 w
      unfold ov
      split
      · omega
      · omega
    · exact h.2.2 k
  have tr := rdTake_rg hr ht
  unfold onx
  by_cases c : or1 s w < 16777216
  · rw [if_pos c]
    refine ⟨⟨?_, ?_, ho⟩, rdR_take hr, Fw_take⟩
    · show 0 ≤ (oc1 s w * 256 + (rdTake t en s.1).1) % 4294967296 ∧ (oc1 s w * 256 + (rdTake t en s.1).1) % 4294967296 < 4294967296
      omega
    · show 16777216 ≤ or1 s w * 256 ∧ or1 s w * 256 < 4294967296
      omega
  · rw [if_neg c]
    refine ⟨⟨g2, ?_, ho⟩, hr, Fw_r _⟩
    show 16777216 ≤ or1 s w ∧ or1 s w < 4294967296
    omega
end OddsO
