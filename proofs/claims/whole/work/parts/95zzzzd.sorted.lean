/-! SORTED: all codes, both sides at once -/
section SrtA
variable {q : Nat × (Nat → Int32)} {en : Int}
theorem cA_is {c : Nat} (hc : c < 6) : isCode (107 + 11 * c) ∧ sh_r (SH 105).2.2 c = some (107 + 11 * c) := by
  have h : c = 0 ∨ c = 1 ∨ c = 2 ∨ c = 3 ∨ c = 4 ∨ c = 5 := by omega
  rcases h with rfl | rfl | rfl | rfl | rfl | rfl
  · exact ⟨is_107, by decide⟩
  · exact ⟨is_118, by decide⟩
  · exact ⟨is_129, by decide⟩
  · exact ⟨is_140, by decide⟩
  · exact ⟨is_151, by decide⟩
  · exact ⟨is_162, by decide⟩
theorem CodS_ex {X : Nat → Int → Prop} {S S1 : ms} {c n : Nat} {l : Int → Int} (h : CodS S c n l) (e : EX X S S1) (hx : ∀ a k, X a k → ¬ (a = 413 ∧ 260 * (c : Int) ≤ k ∧ k < 260 * (c : Int) + 260) ∧ ¬ (a = 414 ∧ 260 * (c : Int) ≤ k ∧ k < 260 * (c : Int) + 260)) : CodS S1 c n l := ⟨h.1, h.2.1, fun t ht => by rw [e.2 413 _ (fun z => (hx _ _ z).1 ⟨rfl, by omega, by have := h.2.1; omega⟩)]; exact h.2.2.1 t ht, fun t ht hl => by rw [e.2 414 _ (fun z => (hx _ _ z).2 ⟨rfl, by omega, by have := h.2.1; omega⟩)]; exact h.2.2.2 t ht hl⟩
theorem jcds {t : Int → Int} {cnt n : Nat} (he : 0 ≤ en ∧ en ≤ 6000) (ht : ∀ k : Int, 0 ≤ k → k < en → 0 ≤ t k ∧ t k < 256) (hc : cnt ≤ 6) (hn : n ≤ 258) : ∀ (d c : Nat) (ls : Nat → Int → Int) (st : Rd) (h : Int), c + d = cnt → (∀ i : Nat, i < c → ∀ k : Nat, k < n → 1 ≤ ls i k ∧ ls i k ≤ 20) → rdR en st → hR st h → ∃ (lf : Nat → Int → Int) (st' : Rd) (h' : Int), (rdR en st' ∧ Fw st st' ∧ hR st' h' ∧ st'.2.2.2 = st.2.2.2) ∧ (st'.1 = 0 → rdP st h ≤ rdP st' h' ∧ ∀ i : Nat, i < cnt → ∀ k : Nat, k < n → 1 ≤ lf i k ∧ lf i k ≤ 20) ∧ (∀ (S A : ms) (o : Nat), S.1 9 7 = 1 → S.1 94 9 + 2 = n → RdC S o en t → (∀ i : Nat, i < c → CodC S (107 + 11 * i) n (ls i)) → CB S A o en t st h → ∃ S1 A1, EX (fun a _ => 107 ≤ a ∧ a ≤ 172) S S1 ∧ CB S1 A1 o en t st' h' ∧ (st'.1 = 0 → ∀ i : Nat, i < cnt → CodC S1 (107 + 11 * i) n (lf i)) ∧ ∀ (x2 x3 : Int) (r : Option Value) (T : ms), (∀ x5 : Int, EV q 162 130 [some (.ref 94), some (.ref 9), some (vI x2), some (vI x3), some (vI cnt), some (vI x5)] [] A1 r T) → EV q 162 98 [some (.ref 94), some (.ref 9), some (vI x2), some (vI x3), some (vI cnt), some (vI c)] [] A r T) ∧ ∀ (S B : ms) (x1 x2 x4 x5 x7 : Int), S.1 367 18 = 1 → RdM S en t → (∀ i : Nat, i < c → CodS S i n (ls i)) → MB S B en st h → ∃ S1 B1, EX (fun a _ => a = 413 ∨ a = 414) S S1 ∧ MB S1 B1 en st' h' ∧ (st'.1 = 0 → ∀ i : Nat, i < cnt → CodS S1 i n (lf i)) ∧ ∀ (r : Option Value) (T : ms), (∀ x9 : Int, EV q 363 508 [some (.ref 367), some (vI x1), some (vL x2), none, some (vI x4), some (vI x5), some (vI cnt), some (vI x7), some (vI n), some (vI x9), none, none] [] B1 r T) → EV q 363 344 [some (.ref 367), some (vI x1), some (vL x2), none, some (vI x4), some (vI x5), some (vI cnt), some (vI x7), some (vI n), some (vI c), none, none] [] B r T := by
  have wn : Unit → w32 ((cnt : Nat) : Int) = cnt := fun _ => w32_of (by omega)
  intro d
  induction d with
  | zero =>
    intro c ls st h hd hl hr hh
    have e : c = cnt := by omega
    subst e
    exact ⟨ls, st, h, ⟨hr, Fw_r st, hh, rfl⟩, fun _ => ⟨Int.le_refl _, hl⟩, fun S A o hS hG hC hL hA => ⟨S, A, EX.refl _ S, hA, fun _ => hL, fun x2 x3 r T k => vc_Sorted_openBlock_98 _ _ _ _ (cY (Int.le_refl _) (k _))⟩, fun S B x1 x2 x4 x5 x7 hS hC hL hB => ⟨S, B, EX.refl _ S, hB, fun _ => hL, fun r T k => vc_MD_sortedBlock_344 _ _ _ _ _ _ _ _ (cY (Int.le_refl _) (k _))⟩⟩
  | succ d ih =>
    intro c ls st h hd hl hr hh
    have wc : Unit → w32 ((c : Nat) : Int) = c := fun _ => w32_of (by omega)
    have ec : ((c + 1 : Nat) : Int) = (c : Int) + 1 := by omega
    by_cases c0 : st.1 = 0
    case neg =>
      refine ⟨ls, st, h, ⟨hr, Fw_r st, hh, rfl⟩, fun y => absurd y c0, fun S A o hS hG hC hL hA => ⟨S, A, EX.refl _ S, hA, fun y => absurd y c0, fun x2 x3 r T k => vc_Sorted_openBlock_98 _ _ _ _ ⟨fun _ => k _, fun _ => ?_⟩⟩, fun S B x1 x2 x4 x5 x7 hS hC hL hB => ⟨S, B, EX.refl _ S, hB, fun y => absurd y c0, fun r T k => ?_⟩⟩
      · have wr : w32 st.1 = st.1 := w32_of (by have := hr.1; omega)
        rw [hA.2.1.2.1, wr]
        exact cY c0 (k _)
      · have kf := md_fine (q := q) hr hB
        rw [if_neg c0] at kf
        exact vc_MD_sortedBlock_344 _ _ _ _ _ _ _ _ ⟨fun _ => k _, fun _ => ⟨0, B, kf, cY (by decide) (k _)⟩⟩
    obtain ⟨st1, h1, l, ⟨g1, g2, g3, g4⟩, g5, g6, g7⟩ := jlnC (q := q) he ht hn hr hh c0
    by_cases c1 : st1.1 = 0
    · obtain ⟨p1, hl1⟩ := g5 c1
      obtain ⟨l1, el⟩ : ∃ l1 : Nat → Int → Int, l1 = fun i => if i = c then l else ls i := ⟨_, rfl⟩
      have a1 : l1 c = l := by rw [el]; exact if_pos rfl
      have a2 : ∀ i : Nat, i ≠ c → l1 i = ls i := fun i hi => by rw [el]; exact if_neg hi
      obtain ⟨lf, st', h', ⟨j1, j2, j3, j4⟩, j5, j6, j7⟩ := ih (c + 1) l1 st1 h1 (by omega) (fun i hi => by
        by_cases e : i = c
        · subst e; rw [a1]; exact hl1
        · rw [a2 i e]; exact hl i (by omega)) g1 g3
      refine ⟨lf, st', h', ⟨j1, Fw_t g2 j2, j3, j4.trans g4⟩, fun y => ⟨by have := (j5 y).1; omega, (j5 y).2⟩, fun S A o hS hG hC hL hA => ?_, fun S B x1 x2 x4 x5 x7 hS hC hL hB => ?_⟩
      · obtain ⟨i1, i2⟩ := cA_is (show c < 6 by omega)
        obtain ⟨S1, A1, k1, k2, k3, k4⟩ := g6 S A o (107 + 11 * c) i1 (by omega) hS hG hC hA
        have k1' : EX (fun a _ => 107 ≤ a ∧ a ≤ 172) S S1 := EX.mono k1 (fun a k y => by omega)
        obtain ⟨S2, A2, k5, k6, k7, k8⟩ := j6 S1 A1 o (by rw [k1'.2 9 7 (by omega)]; exact hS) (by rw [k1'.2 94 9 (by omega)]; exact hG) (RdC_ey hC k1'.ey (fun k => show ¬ (107 ≤ 2 ∧ 2 ≤ 172) by omega)) (fun i hi => by
          by_cases e : i = c
          · subst e; rw [a1]; exact k4 c1
          · rw [a2 i e]; exact CodC_ex (hL i (by omega)) k1 (fun a k y => by omega)) k3
        refine ⟨S2, A2, EX.trans k1' k5, k6, k7, fun x2 x3 r T k => vc_Sorted_openBlock_98 _ _ _ _ ?_⟩
        have k9 := k8 x2 x3 r T k
        rw [ec] at k9
        have h5 : A.1 9 5 = 0 := by rw [hA.2.1.2.1]; exact c0
        rw [wn (), wc (), h5]
        exact cNo (by omega) (cNN (by decide) ⟨by omega, 107 + 11 * c, by rw [Int.toNat_natCast]; exact i2, i1, A1, k2, k9⟩)
      · obtain ⟨S1, B1, k1, k2, k3, k4⟩ := g7 S B c x1 x2 x4 x5 cnt x7 (by omega) (by rw [wn ()]; omega) hS hC hB
        have k1' : EX (fun a _ => a = 413 ∨ a = 414) S S1 := EX.mono k1 (fun a k y => y.1)
        obtain ⟨S2, B2, k5, k6, k7, k8⟩ := j7 S1 B1 x1 x2 x4 x5 x7 (by rw [k1'.2 367 18 (show ¬ ((367 : Nat) = 413 ∨ (367 : Nat) = 414) by decide)]; exact hS) (RdM_ey hC k1'.ey (fun k => show ¬ ((368 : Nat) = 413 ∨ (368 : Nat) = 414) by decide)) (fun i hi => by
          by_cases e : i = c
          · subst e; rw [a1]; exact k3 c1
          · rw [a2 i e]; exact CodS_ex (hL i (by omega)) k1 (fun a k y => by omega)) k2
        rw [ec] at k8
        exact ⟨S2, B2, EX.trans k1' k5, k6, k7, fun r T k => k4 r T (k8 r T k)⟩
    · refine ⟨ls, st1, h1, ⟨g1, g2, g3, g4⟩, fun y => absurd y c1, fun S A o hS hG hC hL hA => ?_, fun S B x1 x2 x4 x5 x7 hS hC hL hB => ?_⟩
      · obtain ⟨i1, i2⟩ := cA_is (show c < 6 by omega)
        obtain ⟨S1, A1, k1, k2, k3, k4⟩ := g6 S A o (107 + 11 * c) i1 (by omega) hS hG hC hA
        refine ⟨S1, A1, EX.mono k1 (fun a k y => by omega), k3, fun y => absurd y c1, fun x2 x3 r T k => vc_Sorted_openBlock_98 _ _ _ _ ?_⟩
        have h5 : A.1 9 5 = 0 := by rw [hA.2.1.2.1]; exact c0
        have wr : w32 st1.1 = st1.1 := w32_of (by have := g1.1; omega)
        rw [wn (), wc (), h5]
        refine cNo (by omega) (cNN (by decide) ⟨by omega, 107 + 11 * c, by rw [Int.toNat_natCast]; exact i2, i1, A1, k2, vc_Sorted_openBlock_98 _ _ _ _ ⟨fun _ => k _, fun _ => ?_⟩⟩)
        rw [k3.2.1.2.1, wr]
        exact cY c1 (k _)
      · obtain ⟨S1, B1, k1, k2, k3, k4⟩ := g7 S B c x1 x2 x4 x5 cnt x7 (by omega) (by rw [wn ()]; omega) hS hC hB
        have kf := md_fine (q := q) g1 k2
        rw [if_neg c1] at kf
        exact ⟨S1, B1, EX.mono k1 (fun a k y => y.1), k2, fun y => absurd y c1, fun r T k => k4 r T (vc_MD_sortedBlock_344 _ _ _ _ _ _ _ _ ⟨fun _ => k _, fun _ => ⟨0, B1, kf, cY (by decide) (k _)⟩⟩)⟩
end SrtA
