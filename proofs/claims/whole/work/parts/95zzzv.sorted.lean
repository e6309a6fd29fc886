/-! SORTED: the steps of a length, both sides at once -/
section Srt2
variable {q : Nat × (Nat → Int32)} {en : Int}
theorem rdBit_0 {t : Int → Int} {hi h : Int} {st : Rd} (hc : (rdBit t en hi st h).2.1.1 ≠ 0) : (rdBit t en hi st h).1 = 0 := by
  unfold rdBit at hc ⊢
  by_cases c : st.1 ≠ 0
  · rw [if_pos c]
  · rw [if_neg c] at hc ⊢
    by_cases d : h = 0
    · rw [if_pos d] at hc ⊢
      by_cases e : st.2.2.1 < en
      · rw [if_pos e] at hc
        exfalso
        apply hc
        show (rdTake t en st).2.1 = 0
        unfold rdTake
        rw [if_neg c, if_pos e]
        show st.1 = 0
        omega
      · rw [if_neg e]
    · rw [if_neg d] at hc
      exact absurd hc c
def LsC (q : Nat × (Nat → Int32)) (en : Int) (t : Int → Int) (i : Nat) (l : Int) (st : Rd) (h l' : Int) (i' : Nat) (st' : Rd) (h' : Int) : Prop := ∀ (S A : ms) (o a2 : Nat) (x4 : Int), isCode a2 → S.1 9 7 = 1 → RdC S o en t → CB S A o en t st h → ∃ A', CB S A' o en t st' h' ∧ ∀ (r : Option Value) (T : ms), EV q 165 72 [some (.ref 94), some (.ref 9), some (.ref a2), some (vI l'), some (vI x4), some (vI i')] [] A' r T → EV q 165 31 [some (.ref 94), some (.ref 9), some (.ref a2), some (vI l), some (vI x4), some (vI i)] [] A r T
def LsM (q : Nat × (Nat → Int32)) (en : Int) (t : Int → Int) (l : Int) (st : Rd) (h l' : Int) (st' : Rd) (h' : Int) : Prop := ∀ (S B : ms) (x1 x2 x4 x5 x6 x7 x8 x9 x11 : Int), S.1 367 18 = 1 → RdM S en t → MB S B en st h → ∃ B', MB S B' en st' h' ∧ ∀ (r : Option Value) (T : ms), EV q 363 418 [some (.ref 367), some (vI x1), some (vL x2), none, some (vI x4), some (vI x5), some (vI x6), some (vI x7), some (vI x8), some (vI x9), some (vI l'), some (vI x11)] [] B' r T → EV q 363 383 [some (.ref 367), some (vI x1), some (vL x2), none, some (vI x4), some (vI x5), some (vI x6), some (vI x7), some (vI x8), some (vI x9), some (vI l), some (vI x11)] [] B r T
theorem jln1 {t : Int → Int} (he : 0 ≤ en ∧ en ≤ 6000) (ht : ∀ k : Int, 0 ≤ k → k < en → 0 ≤ t k ∧ t k < 256) : ∀ (m i : Nat) (l : Int) (st : Rd) (h : Int), 8 * en - rdP st h < m → i + m ≤ 60000 → (-200000 + (m : Int) ≤ l ∧ l ≤ 200000 - m) → rdR en st → hR st h → ∃ (l' : Int) (i' : Nat) (st' : Rd) (h' : Int), (rdR en st' ∧ Fw st st' ∧ hR st' h' ∧ st'.2.2.2 = st.2.2.2) ∧ (-200000 ≤ l' ∧ l' ≤ 200000) ∧ (st'.1 = 0 → rdP st h ≤ rdP st' h') ∧ LsC q en t i l st h l' i' st' h' ∧ LsM q en t l st h l' st' h' := by
  have w0 : w64 0 = 0 := by decide
  have w1 : w64 1 = 1 := by decide
  -- one bit of both
  have bit : ∀ (st : Rd) (h : Int), rdR en st → hR st h → ∃ (z : Int) (st' : Rd) (h' : Int), (rdR en st' ∧ Fw st st' ∧ hR st' h' ∧ st'.2.2.2 = st.2.2.2) ∧ (0 ≤ z ∧ z < 2) ∧ (st'.1 = 0 → rdP st' h' = rdP st h + 1) ∧ (st'.1 ≠ 0 → z = 0) ∧ (∀ (S A : ms) (o : Nat), S.1 9 7 = 1 → RdC S o en t → CB S A o en t st h → ∃ A', EV q 123 0 [some (.ref 9), some (vI 1), none, none, none] [] A (some (vL z)) A' ∧ CB S A' o en t st' h') ∧ ∀ S B : ms, S.1 367 18 = 1 → RdM S en t → MB S B en st h → ∃ B', EV q 340 0 [some (.ref 367), none] [] B (some (vI z)) B' ∧ MB S B' en st' h' := by
    intro st h hr hh
    obtain ⟨g1, g2, g3, g4, g5, g6⟩ := rdBit_s (t := t) (hi := 1) hr hh
    refine ⟨(rdBit t en 1 st h).1, (rdBit t en 1 st h).2.1, (rdBit t en 1 st h).2.2, ⟨g1, g2, g3, g4⟩, by omega, fun y => g6 y, fun y => rdBit_0 y, fun S A o hS hC hA => ?_, fun S B hS hC hB => mb_bit (q := q) ⟨hS, Or.inr rfl⟩ he.2 hC hr hh hB⟩
    by_cases c : (rdBit t en 1 st h).2.1.1 = 0
    · have e : nvV 1 0 (rdBit t en 1 st h).1 0 = (rdBit t en 1 st h).1 := by
        have g : (rdBit t en 1 st h).1 = 0 ∨ (rdBit t en 1 st h).1 = 1 := by omega
        rcases g with y | y
        · rw [y]; decide
        · rw [y]; decide
      obtain ⟨A1, k1, k2⟩ := (sb_bit (q := q) (v := 0) (n := 1) (i := 0) ⟨hS, Or.inr rfl⟩ hC ht hr hh (by decide) hA).2 c
      rw [e] at k2
      exact ⟨A1, vc_Source_takeBits _ (k2 _ _ (vc_Source_takeBits_5 _ _ _ (cY (by decide) ⟨rfl, rfl⟩))), k1⟩
    · obtain ⟨A1, k1, k2⟩ := (sb_bit (q := q) (v := 0) (n := 1) (i := 0) ⟨hS, Or.inr rfl⟩ hC ht hr hh (by decide) hA).1 c
      rw [rdBit_0 c]
      exact ⟨A1, vc_Source_takeBits _ k1, k2⟩
  have told : ∀ (i : Nat) (l : Int) (st : Rd) (h : Int), i ≤ 60000 → st.1 ≠ 0 → rdR en st → hR st h → LsC q en t i l st h l i st h ∧ LsM q en t l st h l st h := by
    intro i l st h hi c hr hh
    obtain ⟨z, st', h', ⟨g1, g2, g3, _⟩, g4, g5, g6, g7, g8⟩ := bit st h hr hh
    have e' := g2.1 c
    subst e'
    have ez := g6 c
    subst ez
    have wi : Unit → w32 ((i : Nat) : Int) = i := fun _ => w32_of (by omega)
    refine ⟨fun S A o a2 x4 ha hS hC hA => ?_, fun S B x1 x2 x4 x5 x6 x7 x8 x9 x11 hS hC hB => ?_⟩
    · obtain ⟨A1, k1, k2⟩ := g7 S A o hS hC hA
      refine ⟨A1, CB_told c k2, fun r T y => vc_Sorted_openLengths_31 _ _ _ _ ha ?_⟩
      rw [wi ()]
      exact cNo (by omega) ⟨0, A1, k1, cY (by decide) y⟩
    · have kf := md_fine (q := q) hr hB
      rw [if_neg c] at kf
      exact ⟨B, hB, fun r T y => vc_MD_sortedBlock_383 _ _ _ _ _ _ _ _ _ _ ⟨0, B, kf, cY (by decide) y⟩⟩
  intro m
  induction m with
  | zero =>
    intro i l st h hm _ _ hr hh
    have a1 := hr.2.1
    have a2 := hh.1
    unfold rdP at hm
    omega
  | succ m ih =>
    intro i l st h hm hi hl hr hh
    by_cases c : st.1 = 0
    case neg =>
      obtain ⟨k1, k2⟩ := told i l st h (by omega) c hr hh
      exact ⟨l, i, st, h, ⟨hr, Fw_r st, hh, rfl⟩, by omega, fun _ => Int.le_refl _, k1, k2⟩
    have wi : Unit → w32 ((i : Nat) : Int) = i := fun _ => w32_of (by omega)
    have ei : ((i + 1 : Nat) : Int) = (i : Int) + 1 := by omega
    obtain ⟨z, st1, h1, ⟨g1, g2, g3, gE⟩, g4, g5, g6, g7, g8⟩ := bit st h hr hh
    have wz : w64 z = z := w64_of (by omega)
    have wz' : w32 z = z := w32_of (by omega)
    by_cases z1 : z = 1
    case neg =>
      refine ⟨l, i, st1, h1, ⟨g1, g2, g3, gE⟩, by omega, fun y => by have := g5 y; omega, fun S A o a2 x4 ha hS hC hA => ?_, fun S B x1 x2 x4 x5 x6 x7 x8 x9 x11 hS hC hB => ?_⟩
      · obtain ⟨A1, k1, k2⟩ := g7 S A o hS hC hA
        refine ⟨A1, k2, fun r T y => vc_Sorted_openLengths_31 _ _ _ _ ha ?_⟩
        rw [wi ()]
        refine cNo (by omega) ⟨z, A1, k1, ?_⟩
        rw [wz, w1]
        exact cY z1 y
      · have kf := md_fine (q := q) hr hB
        rw [if_pos c] at kf
        obtain ⟨B1, k1, k2⟩ := g8 S B hS hC hB
        refine ⟨B1, k2, fun r T y => vc_MD_sortedBlock_383 _ _ _ _ _ _ _ _ _ _ ⟨1, B, kf, cNo (by decide) ⟨z, B1, k1, ?_⟩⟩⟩
        rw [wz']
        exact cY z1 y
    have c1 : st1.1 = 0 := Classical.not_not.mp (fun y => by have := g6 y; omega)
    obtain ⟨v, st2, h2, ⟨i1, i2, i3, iE⟩, i4, i5, i6, i7, i8⟩ := bit st1 h1 g1 g3
    have wv : w64 v = v := w64_of (by omega)
    have wv' : w32 v = v := w32_of (by omega)
    obtain ⟨d, hd⟩ : ∃ d : Int, (v = 0 → d = 1) ∧ (v ≠ 0 → d = -1) := by
      by_cases y : v = 0
      · exact ⟨1, fun _ => rfl, fun w => absurd y w⟩
      · exact ⟨-1, fun w => absurd w y, fun _ => rfl⟩
    have hd1 : -1 ≤ d ∧ d ≤ 1 := by
      by_cases y : v = 0
      · have := hd.1 y; omega
      · have := hd.2 y; omega
    obtain ⟨l', i', st', h', ⟨f1, f2, f3, fE⟩, f4, f5, f6, f7⟩ : ∃ (l' : Int) (i' : Nat) (st' : Rd) (h' : Int), (rdR en st' ∧ Fw st2 st' ∧ hR st' h' ∧ st'.2.2.2 = st2.2.2.2) ∧ (-200000 ≤ l' ∧ l' ≤ 200000) ∧ (st'.1 = 0 → rdP st h ≤ rdP st' h') ∧ LsC q en t (i + 1) (l + d) st2 h2 l' i' st' h' ∧ LsM q en t (l + d) st2 h2 l' st' h' := by
      by_cases c2 : st2.1 = 0
      · have p1 := g5 c1
        have p2 := i5 c2
        obtain ⟨l', i', st', h', f1, f2, f3, f4, f5⟩ := ih (i + 1) (l + d) st2 h2 (by omega) (by omega) (by omega) i1 i3
        exact ⟨l', i', st', h', f1, f2, fun y => by have := f3 y; omega, f4, f5⟩
      · obtain ⟨k1, k2⟩ := told (i + 1) (l + d) st2 h2 (by omega) c2 i1 i3
        exact ⟨l + d, i + 1, st2, h2, ⟨i1, Fw_r st2, i3, rfl⟩, by omega, fun y => absurd y c2, k1, k2⟩
    refine ⟨l', i', st', h', ⟨f1, Fw_t g2 (Fw_t i2 f2), f3, fE.trans (iE.trans gE)⟩, f4, f5, fun S A o a2 x4 ha hS hC hA => ?_, fun S B x1 x2 x4 x5 x6 x7 x8 x9 x11 hS hC hB => ?_⟩
    · obtain ⟨A1, k1, k2⟩ := g7 S A o hS hC hA
      obtain ⟨A2, k3, k4⟩ := i7 S A1 o hS hC k2
      obtain ⟨A3, k5, k6⟩ := f6 S A2 o a2 x4 ha hS hC k4
      refine ⟨A3, k5, fun r T y => vc_Sorted_openLengths_31 _ _ _ _ ha ?_⟩
      have k7 := k6 r T y
      rw [ei] at k7
      have k64 : EV q 165 64 [some (.ref 94), some (.ref 9), some (.ref a2), some (vI l), some (vI x4), some (vI i)] [vI d, vI l] A2 r T := vc_Sorted_openLengths_64 _ _ _ _ _ _ ha k7
      rw [wi ()]
      refine cNo (by omega) ⟨z, A1, k1, ?_⟩
      rw [wz, w1]
      refine cNN z1 ⟨v, A2, k3, ?_⟩
      rw [wv, w0]
      by_cases y : v = 0
      · rw [hd.1 y] at k64; exact cNN y k64
      · rw [hd.2 y] at k64; exact cY y k64
    · have kf := md_fine (q := q) hr hB
      rw [if_pos c] at kf
      obtain ⟨B1, k1, k2⟩ := g8 S B hS hC hB
      obtain ⟨B2, k3, k4⟩ := i8 S B1 hS hC k2
      obtain ⟨B3, k5, k6⟩ := f7 S B2 x1 x2 x4 x5 x6 x7 x8 x9 x11 hS hC k4
      refine ⟨B3, k5, fun r T y => vc_MD_sortedBlock_383 _ _ _ _ _ _ _ _ _ _ ⟨1, B, kf, cNo (by decide) ⟨z, B1, k1, ?_⟩⟩⟩
      have k7 := k6 r T y
      have k412 := vc_MD_sortedBlock_412 (q := q) x1 x2 x4 x5 x6 x7 x8 x9 l x11 d l k7
      rw [wz']
      refine cNN z1 ⟨v, B2, k3, ?_⟩
      rw [wv']
      by_cases y : v = 0
      · rw [hd.1 y] at k412; exact cNN y k412
      · rw [hd.2 y] at k412; exact cY y k412
end Srt2
