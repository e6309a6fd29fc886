/-! SORTED: the lengths of a code, both sides at once -/
section Srt3
variable {q : Nat × (Nat → Int32)} {en : Int}
theorem jlnL {t : Int → Int} {n : Nat} (he : 0 ≤ en ∧ en ≤ 6000) (ht : ∀ k : Int, 0 ≤ k → k < en → 0 ≤ t k ∧ t k < 256) (hn : n ≤ 258) : ∀ (m s : Nat) (l : Int) (L : Int → Int) (st : Rd) (h : Int), s + m = n → (0 ≤ l ∧ l < 32) → rdR en st → hR st h → (∀ k : Nat, k < s → 1 ≤ L k ∧ L k ≤ 20) → ∃ (lf : Int) (stf : Rd) (hf : Int) (Lf : Int → Int), (rdR en stf ∧ Fw st stf ∧ hR stf hf ∧ stf.2.2.2 = st.2.2.2) ∧ (stf.1 = 0 → rdP st h ≤ rdP stf hf ∧ ∀ k : Nat, k < n → 1 ≤ Lf k ∧ Lf k ≤ 20) ∧ (∀ (S A : ms) (o a2 : Nat), isCode a2 → (94 < a2 ∧ a2 + 10 < 300) → S.1 9 7 = 1 → S.1 94 9 + 2 = n → RdC S o en t → (∀ k : Nat, k < s → S.1 (a2 + 1) k = L k) → CB S A o en t st h → ∃ S1 A1, EX (fun a _ => a = a2 + 1) S S1 ∧ CB S1 A1 o en t stf hf ∧ (stf.1 = 0 → ∀ k : Nat, k < n → S1.1 (a2 + 1) k = Lf k) ∧ ∀ T : ms, (stf.1 = 0 → EV q 165 104 [some (.ref 94), some (.ref 9), some (.ref a2), some (vI lf), some (vI n), none] [] A1 none T) → (stf.1 ≠ 0 → T = A1) → EV q 165 10 [some (.ref 94), some (.ref 9), some (.ref a2), some (vI l), some (vI s), none] [] A none T) ∧ ∀ (S B : ms) (cc : Nat) (x1 x2 x4 x5 x6 x7 : Int), cc < 6 → S.1 367 18 = 1 → RdM S en t → (∀ k : Nat, k < s → S.1 413 (260 * (cc : Int) + k) = L k) → MB S B en st h → ∃ S1 B1, EX (fun a k => a = 413 ∧ 260 * (cc : Int) ≤ k ∧ k < 260 * (cc : Int) + 260) S S1 ∧ MB S1 B1 en stf hf ∧ (stf.1 = 0 → ∀ k : Nat, k < n → S1.1 413 (260 * (cc : Int) + k) = Lf k) ∧ ∀ (r : Option Value) (T : ms), (∀ x10 x11 : Int, EV q 363 464 [some (.ref 367), some (vI x1), some (vL x2), none, some (vI x4), some (vI x5), some (vI x6), some (vI x7), some (vI n), some (vI cc), some (vI x10), some (vI x11)] [] B1 r T) → EV q 363 369 [some (.ref 367), some (vI x1), some (vL x2), none, some (vI x4), some (vI x5), some (vI x6), some (vI x7), some (vI n), some (vI cc), some (vI l), some (vI s)] [] B r T := by
  have wn : Unit → w32 ((n : Nat) : Int) = n := fun _ => w32_of (by omega)
  -- a rule told
  have tc : ∀ (S A : ms) (o a2 : Nat) (st : Rd) (h x3 x4 : Int), isCode a2 → st.1 ≠ 0 → rdR en st → CB S A o en t st h → EV q 165 10 [some (.ref 94), some (.ref 9), some (.ref a2), some (vI x3), some (vI x4), none] [] A none A := by
    intro S A o a2 st h x3 x4 ha c hr hA
    have wr : w32 st.1 = st.1 := w32_of (by have := hr.1; omega)
    have k104 : EV q 165 104 [some (.ref 94), some (.ref 9), some (.ref a2), some (vI x3), some (vI x4), none] [] A none A := by
      refine vc_Sorted_openLengths_104 _ _ _ ha ?_
      rw [hA.2.1.2.1, wr]
      exact cY c ⟨rfl, rfl⟩
    refine vc_Sorted_openLengths_10 _ _ _ ha ⟨fun _ => k104, fun _ => ?_⟩
    rw [hA.2.1.2.1, wr]
    exact cY c k104
  have tm : ∀ (S B : ms) (st : Rd) (h x1 x2 x4 x5 x6 x7 x8 x9 x10 x11 : Int) (r : Option Value) (T : ms), st.1 ≠ 0 → rdR en st → MB S B en st h → EV q 363 464 [some (.ref 367), some (vI x1), some (vL x2), none, some (vI x4), some (vI x5), some (vI x6), some (vI x7), some (vI x8), some (vI x9), some (vI x10), some (vI x11)] [] B r T → EV q 363 369 [some (.ref 367), some (vI x1), some (vL x2), none, some (vI x4), some (vI x5), some (vI x6), some (vI x7), some (vI x8), some (vI x9), some (vI x10), some (vI x11)] [] B r T := by
    intro S B st h x1 x2 x4 x5 x6 x7 x8 x9 x10 x11 r T c hr hB y
    have kf := md_fine (q := q) hr hB
    rw [if_neg c] at kf
    exact vc_MD_sortedBlock_369 _ _ _ _ _ _ _ _ _ _ ⟨fun _ => y, fun _ => ⟨0, B, kf, cY (by decide) y⟩⟩
  intro m
  induction m with
  | zero =>
    intro s l L st h hs hl hr hh hL
    have e : s = n := by omega
    subst e
    refine ⟨l, st, h, L, ⟨hr, Fw_r st, hh, rfl⟩, fun _ => ⟨Int.le_refl _, hL⟩, fun S A o a2 ha hb hS hG hC h8 hA => ⟨S, A, EX.refl _ S, hA, fun _ => h8, fun T y1 y2 => ?_⟩, fun S B cc x1 x2 x4 x5 x6 x7 hcc hS hC h4 hB => ⟨S, B, EX.refl _ S, hB, fun _ => h4, fun r T y => vc_MD_sortedBlock_369 _ _ _ _ _ _ _ _ _ _ (cY (Int.le_refl _) (y _ _))⟩⟩
    by_cases c : st.1 = 0
    · have ho := hC.2.2.1
      have eg : A.1 94 9 + 2 = s := by rw [hA.2.2.2 94 9 (by omega) (by omega) (by omega)]; exact hG
      refine vc_Sorted_openLengths_10 _ _ _ ha ?_
      rw [eg]
      exact cY (Int.le_refl _) (y1 c)
    · rw [y2 c]
      exact tc S A o a2 st h l s ha c hr hA
  | succ m ih =>
    intro s l L st h hs hl hr hh hL
    by_cases c : st.1 = 0
    case neg =>
      refine ⟨l, st, h, L, ⟨hr, Fw_r st, hh, rfl⟩, fun y => absurd y c, fun S A o a2 ha hb hS hG hC h8 hA => ⟨S, A, EX.refl _ S, hA, fun y => absurd y c, fun T y1 y2 => ?_⟩, fun S B cc x1 x2 x4 x5 x6 x7 hcc hS hC h4 hB => ⟨S, B, EX.refl _ S, hB, fun y => absurd y c, fun r T y => tm S B st h x1 x2 x4 x5 x6 x7 n cc l s r T c hr hB (y _ _)⟩⟩
      rw [y2 c]
      exact tc S A o a2 st h l s ha c hr hA
    have ws : Unit → w32 ((s : Nat) : Int) = s := fun _ => w32_of (by omega)
    have es : ((s + 1 : Nat) : Int) = (s : Int) + 1 := by omega
    obtain ⟨l', i', st1, h1, ⟨f1, f2, f3, fE⟩, f4, f5, f6, f7⟩ := jln1 (q := q) he ht 50000 0 l st h (by
      have q1 := hr.2.1
      have q2 := hh.1
      unfold rdP
      omega) (by decide) (by omega) hr hh
    have wl : w32 l' = l' := w32_of (by omega)
    -- as far as 72, as far as 418
    have hcl : ∀ (S A : ms) (o a2 : Nat), isCode a2 → S.1 9 7 = 1 → S.1 94 9 + 2 = n → RdC S o en t → CB S A o en t st h → ∃ A', CB S A' o en t st1 h1 ∧ ∀ T : ms, EV q 165 72 [some (.ref 94), some (.ref 9), some (.ref a2), some (vI l'), some (vI s), some (vI i')] [] A' none T → EV q 165 10 [some (.ref 94), some (.ref 9), some (.ref a2), some (vI l), some (vI s), none] [] A none T := by
      intro S A o a2 ha hS hG hC hA
      have ho := hC.2.2.1
      have h5 : A.1 9 5 = 0 := by rw [hA.2.1.2.1]; exact c
      have eg : A.1 94 9 + 2 = n := by rw [hA.2.2.2 94 9 (by omega) (by omega) (by omega)]; exact hG
      obtain ⟨A', k1, k2⟩ := f6 S A o a2 s ha hS hC hA
      refine ⟨A', k1, fun T y => vc_Sorted_openLengths_10 _ _ _ ha ?_⟩
      rw [eg, wn (), ws (), h5]
      exact cNo (by omega) (cNN (by decide) (k2 none T y))
    have hml : ∀ (S B : ms) (cc : Nat) (x1 x2 x4 x5 x6 x7 : Int), S.1 367 18 = 1 → RdM S en t → MB S B en st h → ∃ B', MB S B' en st1 h1 ∧ ∀ (r : Option Value) (T : ms), EV q 363 418 [some (.ref 367), some (vI x1), some (vL x2), none, some (vI x4), some (vI x5), some (vI x6), some (vI x7), some (vI n), some (vI cc), some (vI l'), some (vI s)] [] B' r T → EV q 363 369 [some (.ref 367), some (vI x1), some (vL x2), none, some (vI x4), some (vI x5), some (vI x6), some (vI x7), some (vI n), some (vI cc), some (vI l), some (vI s)] [] B r T := by
      intro S B cc x1 x2 x4 x5 x6 x7 hS hC hB
      have kf := md_fine (q := q) hr hB
      rw [if_pos c] at kf
      obtain ⟨B', k1, k2⟩ := f7 S B x1 x2 x4 x5 x6 x7 n cc s hS hC hB
      refine ⟨B', k1, fun r T y => vc_MD_sortedBlock_369 _ _ _ _ _ _ _ _ _ _ ?_⟩
      rw [wn (), ws ()]
      exact cNo (by omega) ⟨1, B, kf, cNo (by decide) (k2 r T y)⟩
    by_cases ok : st1.1 = 0 ∧ 1 ≤ l' ∧ l' ≤ 20
    · obtain ⟨o1, o2, o3⟩ := ok
      obtain ⟨L1, eL⟩ : ∃ L1 : Int → Int, L1 = fun k => if k = (s : Int) then l' else L k := ⟨_, rfl⟩
      have a1 : L1 s = l' := by rw [eL]; exact if_pos rfl
      have a2 : ∀ k : Nat, k ≠ s → L1 k = L k := fun k hk => by rw [eL]; exact if_neg (by omega)
      obtain ⟨lf, stf, hf, Lf, ⟨g1, g2, g3, gE⟩, g4, g5, g6⟩ := ih (s + 1) l' L1 st1 h1 (by omega) (by omega) f1 f3 (fun k hk => by
        by_cases d : k = s
        · subst d; rw [a1]; omega
        · rw [a2 k d]; exact hL k (by omega))
      refine ⟨lf, stf, hf, Lf, ⟨g1, Fw_t f2 g2, g3, gE.trans fE⟩, fun y => ⟨by have := (g4 y).1; have := f5 o1; omega, (g4 y).2⟩, fun S A o c2 ha hb hS hG hC h8 hA => ?_, fun S B cc x1 x2 x4 x5 x6 x7 hcc hS hC h4 hB => ?_⟩
      · have ho := hC.2.2.1
        obtain ⟨A', k1, k2⟩ := hcl S A o c2 ha hS hG hC hA
        have k3 := CB_I (s : Int) l' (show c2 + 1 ≠ 9 by omega) (show c2 + 1 ≠ o by omega) (show c2 + 1 ≠ o + 1 by omega) ho k1
        have ex : EX (fun a _ => a = c2 + 1) S (wI S (c2 + 1) s l') := EX.wr (EX.refl _ S) rfl
        obtain ⟨S1, A1, m1, m2, m3, m4⟩ := g5 (wI S (c2 + 1) s l') (wI A' (c2 + 1) s l') o c2 ha hb (by rw [wI_no _ (by omega)]; exact hS) (by rw [wI_no _ (by omega)]; exact hG) (RdC_ey hC ex.ey (fun k => show ¬ (2 : Nat) = c2 + 1 by omega)) (fun k hk => by
          by_cases d : k = s
          · subst d; rw [wI_at, a1]
          · rw [wI_no _ (by omega), a2 k d]; exact h8 k (by omega)) k3
        refine ⟨S1, A1, EX.trans ex m1, m2, m3, fun T y1 y2 => k2 T (vc_Sorted_openLengths_72 _ _ _ _ ha ?_)⟩
        have k4 := m4 T y1 y2
        rw [es] at k4
        rw [wl, ws ()]
        exact cNo (by omega) (cY o3 ⟨by omega, fun S2 e => by rw [e]; exact k4⟩)
      · obtain ⟨B', k1, k2⟩ := hml S B cc x1 x2 x4 x5 x6 x7 hS hC hB
        have kf := md_fine (q := q) f1 k1
        rw [if_pos o1] at kf
        have wcs : Unit → w32 (260 * (cc : Int) + s) = 260 * (cc : Int) + s := fun _ => w32_of (by omega)
        have k3 := MB_I (260 * (cc : Int) + s) l' (show 413 ≠ 367 by decide) (by decide) k1
        have ex : EX (fun a k => a = 413 ∧ 260 * (cc : Int) ≤ k ∧ k < 260 * (cc : Int) + 260) S (wI S 413 (260 * (cc : Int) + s) l') := EX.wr (EX.refl _ S) ⟨rfl, by omega, by omega⟩
        obtain ⟨S1, B1, m1, m2, m3, m4⟩ := g6 (wI S 413 (260 * (cc : Int) + s) l') (wI B' 413 (260 * (cc : Int) + s) l') cc x1 x2 x4 x5 x6 x7 hcc (by rw [wI_no _ (by omega)]; exact hS) (RdM_ey hC ex.ey (fun k z => absurd z.1 (by decide))) (fun k hk => by
          by_cases d : k = s
          · subst d; rw [wI_at, a1]
          · rw [wI_no _ (by omega), a2 k d]; exact h4 k (by omega)) k3
        refine ⟨S1, B1, EX.trans ex m1, m2, m3, fun r T y => k2 r T (vc_MD_sortedBlock_418 _ _ _ _ _ _ _ _ _ _ ⟨1, B', kf, cNo (by decide) ⟨1, B', vc_MD_in _ _ _ ?_, cY (by decide) (vc_MD_sortedBlock_442 _ _ _ _ _ _ _ _ _ _ ?_)⟩⟩)⟩
        · rw [wl]
          exact cNo (show ¬ l' < w32 1 by rw [show w32 1 = 1 by decide]; omega) (cNo (show ¬ w32 20 < l' by rw [show w32 20 = 20 by decide]; omega) ⟨rfl, rfl⟩)
        · have k4 := m4 r T y
          rw [es] at k4
          rw [wcs ()]
          exact ⟨by omega, fun S2 e => by rw [e]; exact k4⟩
    · -- told, or no length
      have ct : (rdTell 87 st1).1 ≠ 0 := rdTell_1 (by decide)
      have hrt : rdR en (rdTell 87 st1) := rdR_tell f1 (by decide)
      refine ⟨l', rdTell 87 st1, h1, L, ⟨hrt, Fw_t f2 Fw_tellAt, hR_n f3 Fw_tellAt, by rw [rdTell_2]; exact fE⟩, fun y => absurd y ct, fun S A o c2 ha hb hS hG hC h8 hA => ?_, fun S B cc x1 x2 x4 x5 x6 x7 hcc hS hC h4 hB => ?_⟩
      · have ho := hC.2.2.1
        obtain ⟨A', k1, k2⟩ := hcl S A o c2 ha hS hG hC hA
        by_cases d : 1 ≤ l' ∧ l' ≤ 20
        · have c1 : st1.1 ≠ 0 := fun y => ok ⟨y, d⟩
          have k3 := CB_I (s : Int) l' (show c2 + 1 ≠ 9 by omega) (show c2 + 1 ≠ o by omega) (show c2 + 1 ≠ o + 1 by omega) ho k1
          have ex : EX (fun a _ => a = c2 + 1) S (wI S (c2 + 1) s l') := EX.wr (EX.refl _ S) rfl
          refine ⟨wI S (c2 + 1) s l', wI A' (c2 + 1) s l', ex, by rw [rdTell_r c1]; exact k3, fun y => absurd y ct, fun T y1 y2 => k2 T (vc_Sorted_openLengths_72 _ _ _ _ ha ?_)⟩
          rw [wl, ws (), y2 ct]
          exact cNo (by omega) (cY d.2 ⟨by omega, fun S2 e => by rw [e]; exact tc _ _ o c2 st1 h1 _ _ ha c1 f1 k3⟩)
        · obtain ⟨A2, k3, k4⟩ := sb_tell (q := q) (k := 87) f1 ho k1
          refine ⟨S, A2, EX.refl _ S, k4, fun y => absurd y ct, fun T y1 y2 => k2 T (vc_Sorted_openLengths_72 _ _ _ _ ha ?_)⟩
          have k83 : EV q 165 83 [some (.ref 94), some (.ref 9), some (.ref c2), some (vI l'), some (vI s), some (vI i')] [] A' none A2 := vc_Sorted_openLengths_83 _ _ _ _ ha ⟨A2, k3, rfl, rfl⟩
          rw [wl, y2 ct]
          by_cases e : l' < 1
          · exact cY e k83
          · exact cNo e (cNo (fun z => d ⟨by omega, z⟩) k83)
      · obtain ⟨B', k1, k2⟩ := hml S B cc x1 x2 x4 x5 x6 x7 hS hC hB
        have kf := md_fine (q := q) f1 k1
        have wcs : Unit → w32 (260 * (cc : Int) + s) = 260 * (cc : Int) + s := fun _ => w32_of (by omega)
        have ex : EX (fun a k => a = 413 ∧ 260 * (cc : Int) ≤ k ∧ k < 260 * (cc : Int) + 260) S (wI S 413 (260 * (cc : Int) + s) l') := EX.wr (EX.refl _ S) ⟨rfl, by omega, by omega⟩
        have k442 : ∀ B2 : ms, MB S B2 en (rdTell 87 st1) h1 → ∀ (r : Option Value) (T : ms), (∀ x10 x11 : Int, EV q 363 464 [some (.ref 367), some (vI x1), some (vL x2), none, some (vI x4), some (vI x5), some (vI x6), some (vI x7), some (vI n), some (vI cc), some (vI x10), some (vI x11)] [] (wI B2 413 (260 * (cc : Int) + s) l') r T) → EV q 363 442 [some (.ref 367), some (vI x1), some (vL x2), none, some (vI x4), some (vI x5), some (vI x6), some (vI x7), some (vI n), some (vI cc), some (vI l'), some (vI s)] [] B2 r T := by
          intro B2 hB2 r T y
          have k3 := MB_I (260 * (cc : Int) + s) l' (show 413 ≠ 367 by decide) (by decide) hB2
          refine vc_MD_sortedBlock_442 _ _ _ _ _ _ _ _ _ _ ?_
          rw [wcs ()]
          exact ⟨by omega, fun S2 e => by rw [e]; exact tm _ _ _ h1 x1 x2 x4 x5 x6 x7 n cc _ _ r T ct hrt k3 (y _ _)⟩
        by_cases c1 : st1.1 = 0
        · rw [if_pos c1] at kf
          obtain ⟨B2, k3, k4⟩ := mb_tell (q := q) (k := 87) f1 he.2 f3 k1
          refine ⟨wI S 413 (260 * (cc : Int) + s) l', wI B2 413 (260 * (cc : Int) + s) l', ex, MB_I _ _ (by decide) (by decide) k4, fun y => absurd y ct, fun r T y => k2 r T (vc_MD_sortedBlock_418 _ _ _ _ _ _ _ _ _ _ ⟨1, B', kf, cNo (by decide) ⟨0, B', vc_MD_in _ _ _ ?_, cNN (by decide) ⟨B2, k3, k442 B2 k4 r T y⟩⟩⟩)⟩
          rw [wl, show w32 1 = 1 by decide, show w32 20 = 20 by decide]
          by_cases e : l' < 1
          · exact cY e ⟨rfl, rfl⟩
          · exact cNo e (cY (by
              have : ¬ l' ≤ 20 := fun z => ok ⟨c1, by omega, z⟩
              omega) ⟨rfl, rfl⟩)
        · rw [if_neg c1] at kf
          have k4 : MB S B' en (rdTell 87 st1) h1 := by rw [rdTell_r c1]; exact k1
          exact ⟨wI S 413 (260 * (cc : Int) + s) l', wI B' 413 (260 * (cc : Int) + s) l', ex, MB_I _ _ (by decide) (by decide) k4, fun y => absurd y ct, fun r T y => k2 r T (vc_MD_sortedBlock_418 _ _ _ _ _ _ _ _ _ _ ⟨0, B', kf, cY (by decide) (k442 B' k4 r T y)⟩)⟩
end Srt3
