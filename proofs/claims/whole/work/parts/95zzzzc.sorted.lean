/-! SORTED: the choices, both sides at once -/
section Srt9
variable {q : Nat × (Nat → Int32)} {en : Int}
theorem jchP {t : Int → Int} {cnt : Nat} (he : 0 ≤ en ∧ en ≤ 6000) (ht : ∀ k : Int, 0 ≤ k → k < en → 0 ≤ t k ∧ t k < 256) (hc : cnt ≤ 6) : ∀ (d p : Nat) (st : Rd) (h : Int), p + d + 1 = cnt → rdR en st → hR st h → st.1 = 0 → ∃ (p' : Nat) (st1 : Rd) (h1 : Int), (rdR en st1 ∧ Fw st st1 ∧ hR st1 h1 ∧ st1.2.2.2 = st.2.2.2) ∧ p' ≤ cnt ∧ (p' = cnt → st1.1 = 0) ∧ (st1.1 = 0 → rdP st h ≤ rdP st1 h1) ∧ (∀ (S A : ms) (o : Nat), S.1 9 7 = 1 → RdC S o en t → CB S A o en t st h → ∃ A1, CB S A1 o en t st1 h1 ∧ ∀ (x3 x4 : Int) (r : Option Value) (T : ms), EV q 164 47 [some (.ref 94), some (.ref 9), some (vI cnt), some (vI x3), some (vI x4), some (vI p'), none, none, none] [] A1 r T → EV q 164 25 [some (.ref 94), some (.ref 9), some (vI cnt), some (vI x3), some (vI x4), some (vI p), none, none, none] [] A r T) ∧ ∀ S B : ms, S.1 367 18 = 1 → RdM S en t → MB S B en st h → ∃ B1, MB S B1 en (if p' = cnt then rdTell 86 st1 else st1) h1 ∧ ∀ (x1 x2 x4 x5 x7 x8 : Int) (r : Option Value) (T : ms), EV q 363 303 [some (.ref 367), some (vI x1), some (vL x2), none, some (vI x4), some (vI x5), some (vI cnt), some (vI x7), some (vI x8), some (vI p'), none, none] [] B1 r T → EV q 363 269 [some (.ref 367), some (vI x1), some (vL x2), none, some (vI x4), some (vI x5), some (vI cnt), some (vI x7), some (vI x8), some (vI p), none, none] [] B r T := by
  have w1 : w64 1 = 1 := by decide
  have wc : Unit → w32 ((cnt : Nat) : Int) = cnt := fun _ => w32_of (by omega)
  intro d
  induction d with
  | zero =>
    intro p st h hp hr hh c0
    have wp : Unit → w32 ((p : Nat) : Int) = p := fun _ => w32_of (by omega)
    have wp1 : Unit → w32 ((p : Int) + 1) = (p : Int) + 1 := fun _ => w32_of (by omega)
    have ep : ((p + 1 : Nat) : Int) = (p : Int) + 1 := by omega
    obtain ⟨z, st1, h1, ⟨g1, g2, g3, g4⟩, g5, g6, g7, g8, g9⟩ := jbZ (q := q) he ht hr hh
    have wz : w64 z = z := w64_of (by omega)
    have wz' : w32 z = z := w32_of (by omega)
    by_cases z1 : z = 1
    · have c1 : st1.1 = 0 := Classical.not_not.mp (fun y => by have := g7 y; omega)
      have eP : p + 1 = cnt := by omega
      refine ⟨cnt, st1, h1, ⟨g1, g2, g3, g4⟩, Nat.le_refl _, fun _ => c1, fun y => by have := g6 y; omega, fun S A o hS hC hA => ?_, fun S B hS hC hB => ?_⟩
      · obtain ⟨A1, k1, k2⟩ := g8 S A o hS hC hA
        refine ⟨A1, k2, fun x3 x4 r T k => vc_Sorted_openChoices_25 _ _ _ _ ?_⟩
        have k25 : EV q 164 25 [some (.ref 94), some (.ref 9), some (vI cnt), some (vI x3), some (vI x4), some (vI ((p : Int) + 1)), none, none, none] [] A1 r T := by
          rw [← ep, eP]
          exact vc_Sorted_openChoices_25 _ _ _ _ (cY (Int.le_refl _) k)
        rw [wc (), wp ()]
        refine cNo (by omega) ⟨z, A1, k1, ?_⟩
        rw [wz, w1]
        exact cNN z1 k25
      · obtain ⟨B1, k1, k2⟩ := g9 S B hS hC hB
        have kf := md_fine (q := q) hr hB
        rw [if_pos c0] at kf
        obtain ⟨B2, k3, k4⟩ := mb_tell (q := q) (k := 86) g1 he.2 g3 k2
        have kg := md_fine (q := q) (rdR_tell g1 (by decide)) k4
        rw [if_neg (rdTell_1 (by decide))] at kg
        rw [if_pos rfl]
        refine ⟨B2, k4, fun x1 x2 x4 x5 x7 x8 r T k => vc_MD_sortedBlock_269 _ _ _ _ _ _ _ _ ⟨1, B, kf, cNo (by decide) ⟨z, B1, k1, ?_⟩⟩⟩
        have k269 : EV q 363 269 [some (.ref 367), some (vI x1), some (vL x2), none, some (vI x4), some (vI x5), some (vI cnt), some (vI x7), some (vI x8), some (vI ((p : Int) + 1)), none, none] [] B2 r T := by
          rw [← ep, eP]
          exact vc_MD_sortedBlock_269 _ _ _ _ _ _ _ _ ⟨0, B2, kg, cY (by decide) k⟩
        rw [wz', wp1 (), wc ()]
        exact cNN z1 (cNN (by omega) ⟨B2, k3, k269⟩)
    · refine ⟨p, st1, h1, ⟨g1, g2, g3, g4⟩, by omega, fun y => absurd y (by omega), fun y => by have := g6 y; omega, fun S A o hS hC hA => ?_, fun S B hS hC hB => ?_⟩
      · obtain ⟨A1, k1, k2⟩ := g8 S A o hS hC hA
        refine ⟨A1, k2, fun x3 x4 r T k => vc_Sorted_openChoices_25 _ _ _ _ ?_⟩
        rw [wc (), wp ()]
        refine cNo (by omega) ⟨z, A1, k1, ?_⟩
        rw [wz, w1]
        exact cY z1 k
      · obtain ⟨B1, k1, k2⟩ := g9 S B hS hC hB
        have kf := md_fine (q := q) hr hB
        rw [if_pos c0] at kf
        rw [if_neg (by omega)]
        refine ⟨B1, k2, fun x1 x2 x4 x5 x7 x8 r T k => vc_MD_sortedBlock_269 _ _ _ _ _ _ _ _ ⟨1, B, kf, cNo (by decide) ⟨z, B1, k1, ?_⟩⟩⟩
        rw [wz']
        exact cY z1 k
  | succ d ih =>
    intro p st h hp hr hh c0
    have wp : Unit → w32 ((p : Nat) : Int) = p := fun _ => w32_of (by omega)
    have wp1 : Unit → w32 ((p : Int) + 1) = (p : Int) + 1 := fun _ => w32_of (by omega)
    have ep : ((p + 1 : Nat) : Int) = (p : Int) + 1 := by omega
    obtain ⟨z, st1, h1, ⟨g1, g2, g3, g4⟩, g5, g6, g7, g8, g9⟩ := jbZ (q := q) he ht hr hh
    have wz : w64 z = z := w64_of (by omega)
    have wz' : w32 z = z := w32_of (by omega)
    by_cases z1 : z = 1
    · have c1 : st1.1 = 0 := Classical.not_not.mp (fun y => by have := g7 y; omega)
      obtain ⟨p', st2, h2, ⟨i1, i2, i3, i4⟩, i5, i6, i7, i8, i9⟩ := ih (p + 1) st1 h1 (by omega) g1 g3 c1
      refine ⟨p', st2, h2, ⟨i1, Fw_t g2 i2, i3, i4.trans g4⟩, i5, i6, fun y => by have := g6 c1; have := i7 y; omega, fun S A o hS hC hA => ?_, fun S B hS hC hB => ?_⟩
      · obtain ⟨A1, k1, k2⟩ := g8 S A o hS hC hA
        obtain ⟨A2, k3, k4⟩ := i8 S A1 o hS hC k2
        refine ⟨A2, k3, fun x3 x4 r T k => vc_Sorted_openChoices_25 _ _ _ _ ?_⟩
        have k5 := k4 x3 x4 r T k
        rw [ep] at k5
        rw [wc (), wp ()]
        refine cNo (by omega) ⟨z, A1, k1, ?_⟩
        rw [wz, w1]
        exact cNN z1 k5
      · obtain ⟨B1, k1, k2⟩ := g9 S B hS hC hB
        obtain ⟨B2, k3, k4⟩ := i9 S B1 hS hC k2
        have kf := md_fine (q := q) hr hB
        rw [if_pos c0] at kf
        refine ⟨B2, k3, fun x1 x2 x4 x5 x7 x8 r T k => vc_MD_sortedBlock_269 _ _ _ _ _ _ _ _ ⟨1, B, kf, cNo (by decide) ⟨z, B1, k1, ?_⟩⟩⟩
        have k5 := k4 x1 x2 x4 x5 x7 x8 r T k
        rw [ep] at k5
        rw [wz', wp1 (), wc ()]
        exact cNN z1 (cY (by omega) k5)
    · refine ⟨p, st1, h1, ⟨g1, g2, g3, g4⟩, by omega, fun y => absurd y (by omega), fun y => by have := g6 y; omega, fun S A o hS hC hA => ?_, fun S B hS hC hB => ?_⟩
      · obtain ⟨A1, k1, k2⟩ := g8 S A o hS hC hA
        refine ⟨A1, k2, fun x3 x4 r T k => vc_Sorted_openChoices_25 _ _ _ _ ?_⟩
        rw [wc (), wp ()]
        refine cNo (by omega) ⟨z, A1, k1, ?_⟩
        rw [wz, w1]
        exact cY z1 k
      · obtain ⟨B1, k1, k2⟩ := g9 S B hS hC hB
        have kf := md_fine (q := q) hr hB
        rw [if_pos c0] at kf
        rw [if_neg (by omega)]
        refine ⟨B1, k2, fun x1 x2 x4 x5 x7 x8 r T k => vc_MD_sortedBlock_269 _ _ _ _ _ _ _ _ ⟨1, B, kf, cNo (by decide) ⟨z, B1, k1, ?_⟩⟩⟩
        rw [wz']
        exact cY z1 k
/-- the choices, from the i-th on -/
theorem jchL {t : Int → Int} {cnt n : Nat} (he : 0 ≤ en ∧ en ≤ 6000) (ht : ∀ k : Int, 0 ≤ k → k < en → 0 ≤ t k ∧ t k < 256) (hc : 1 ≤ cnt ∧ cnt ≤ 6) (hn : n ≤ 32767) : ∀ (d i : Nat) (g f : Int → Int) (st : Rd) (h : Int), i + d = n → (∀ k : Nat, k < 6 → 0 ≤ g k ∧ g k < 8) → (∀ k : Nat, k < cnt → 0 ≤ g k ∧ g k < cnt) → (∀ k : Nat, k < i → 0 ≤ f k ∧ f k < cnt) → rdR en st → hR st h → ∃ (f' : Int → Int) (st' : Rd) (h' : Int), (rdR en st' ∧ Fw st st' ∧ hR st' h' ∧ st'.2.2.2 = st.2.2.2) ∧ (st'.1 = 0 → rdP st h ≤ rdP st' h' ∧ ∀ k : Nat, k < n → 0 ≤ f' k ∧ f' k < cnt) ∧ (∀ (S A : ms) (o : Nat), S.1 9 7 = 1 → S.1 94 15 = n → RdC S o en t → (∀ k : Nat, k < i → S.1 106 k = f k) → CB S A o en t st h → ∃ S1 A1, EX (fun a _ => a = 106) S S1 ∧ CB S1 A1 o en t st' h' ∧ (st'.1 = 0 → ∀ k : Nat, k < n → S1.1 106 k = f' k) ∧ EV q 164 6 [some (.ref 94), some (.ref 9), some (vI cnt), some (vI (sx6 g)), some (vI i), none, none, none, none] [] A none A1) ∧ ∀ S B : ms, S.1 367 18 = 1 → RdM S en t → (∀ k : Nat, k < 6 → S.1 410 k = b8 (g k)) → (∀ k : Nat, k < i → S.1 415 k = f k) → MB S B en st h → ∃ S1 B1, EX (fun a _ => a = 410 ∨ a = 415) S S1 ∧ MB S1 B1 en st' h' ∧ (st'.1 = 0 → ∀ k : Nat, k < n → S1.1 415 k = f' k) ∧ ∀ (x1 x2 x4 x5 : Int) (r : Option Value) (T : ms), (∀ x8 : Int, EV q 363 335 [some (.ref 367), some (vI x1), some (vL x2), none, some (vI x4), some (vI x5), some (vI cnt), some (vI n), some (vI x8), none, none, none] [] B1 r T) → EV q 363 252 [some (.ref 367), some (vI x1), some (vL x2), none, some (vI x4), some (vI x5), some (vI cnt), some (vI n), some (vI i), none, none, none] [] B r T := by
  have wn : Unit → w32 ((n : Nat) : Int) = n := fun _ => w32_of (by omega)
  have wc : Unit → w32 ((cnt : Nat) : Int) = cnt := fun _ => w32_of (by omega)
  -- a rule told
  have tc : ∀ (S A : ms) (o : Nat) (st : Rd) (h x3 x4 : Int), st.1 ≠ 0 → rdR en st → CB S A o en t st h → EV q 164 6 [some (.ref 94), some (.ref 9), some (vI cnt), some (vI x3), some (vI x4), none, none, none, none] [] A none A := by
    intro S A o st h x3 x4 c hr hA
    have wr : w32 st.1 = st.1 := w32_of (by have := hr.1; omega)
    refine vc_Sorted_openChoices_6 _ _ _ ⟨fun _ => ⟨rfl, rfl⟩, fun _ => ?_⟩
    rw [hA.2.1.2.1, wr]
    exact cY c ⟨rfl, rfl⟩
  have tm : ∀ (S B : ms) (st : Rd) (h x1 x2 x4 x5 x8 : Int) (r : Option Value) (T : ms), st.1 ≠ 0 → rdR en st → MB S B en st h → (∀ x8 : Int, EV q 363 335 [some (.ref 367), some (vI x1), some (vL x2), none, some (vI x4), some (vI x5), some (vI cnt), some (vI n), some (vI x8), none, none, none] [] B r T) → EV q 363 252 [some (.ref 367), some (vI x1), some (vL x2), none, some (vI x4), some (vI x5), some (vI cnt), some (vI n), some (vI x8), none, none, none] [] B r T := by
    intro S B st h x1 x2 x4 x5 x8 r T c hr hB y
    have kf := md_fine (q := q) hr hB
    rw [if_neg c] at kf
    exact vc_MD_sortedBlock_252 _ _ _ _ _ _ _ ⟨fun _ => y _, fun _ => ⟨0, B, kf, cY (by decide) (y _)⟩⟩
  intro d
  induction d with
  | zero =>
    intro i g f st h hi hg hg' hf hr hh
    have e : i = n := by omega
    subst e
    refine ⟨f, st, h, ⟨hr, Fw_r st, hh, rfl⟩, fun _ => ⟨Int.le_refl _, hf⟩, fun S A o hS hN hC hF hA => ⟨S, A, EX.refl _ S, hA, fun _ => hF, vc_Sorted_openChoices_6 _ _ _ ?_⟩, fun S B hS hC hG hF hB => ⟨S, B, EX.refl _ S, hB, fun _ => hF, fun x1 x2 x4 x5 r T k => vc_MD_sortedBlock_252 _ _ _ _ _ _ _ (cY (Int.le_refl _) (k _))⟩⟩
    have ho := hC.2.2.1
    rw [show A.1 94 15 = i by rw [hA.2.2.2 94 15 (by omega) (by omega) (by omega)]; exact hN]
    exact cY (Int.le_refl _) ⟨rfl, rfl⟩
  | succ d ih =>
    intro i g f st h hi hg hg' hf hr hh
    by_cases c0 : st.1 = 0
    case neg =>
      exact ⟨f, st, h, ⟨hr, Fw_r st, hh, rfl⟩, fun y => absurd y c0, fun S A o hS hN hC hF hA => ⟨S, A, EX.refl _ S, hA, fun y => absurd y c0, tc S A o st h _ _ c0 hr hA⟩, fun S B hS hC hG hF hB => ⟨S, B, EX.refl _ S, hB, fun y => absurd y c0, fun x1 x2 x4 x5 r T k => tm S B st h x1 x2 x4 x5 _ r T c0 hr hB k⟩⟩
    have wi : Unit → w32 ((i : Nat) : Int) = i := fun _ => w32_of (by omega)
    have ei : ((i + 1 : Nat) : Int) = (i : Int) + 1 := by omega
    obtain ⟨p, st1, h1, ⟨g1, g2, g3, g4⟩, g5, g6, g7, g8, g9⟩ := jchP (q := q) he ht hc.2 (cnt - 1) 0 st h (by omega) hr hh c0
    have wp : Unit → w32 ((p : Nat) : Int) = p := fun _ => w32_of (by omega)
    by_cases cp : p = cnt
    · -- 86
      subst cp
      have c1 := g6 rfl
      have ct : (rdTell 86 st1).1 ≠ 0 := rdTell_1 (by decide)
      have hrt : rdR en (rdTell 86 st1) := rdR_tell g1 (by decide)
      refine ⟨f, rdTell 86 st1, h1, ⟨hrt, Fw_t g2 Fw_tellAt, hR_n g3 Fw_tellAt, by rw [rdTell_2]; exact g4⟩, fun y => absurd y ct, fun S A o hS hN hC hF hA => ?_, fun S B hS hC hG hF hB => ?_⟩
      · have ho := hC.2.2.1
        have h5 : A.1 9 5 = 0 := by rw [hA.2.1.2.1]; exact c0
        have hN' : A.1 94 15 = n := by rw [hA.2.2.2 94 15 (by omega) (by omega) (by omega)]; exact hN
        obtain ⟨A1, k1, k2⟩ := g8 S A o hS hC hA
        obtain ⟨A2, k3, k4⟩ := sb_tell (q := q) (k := 86) g1 ho k1
        refine ⟨S, A2, EX.refl _ S, k4, fun y => absurd y ct, vc_Sorted_openChoices_6 _ _ _ ?_⟩
        rw [hN', wn (), wi (), h5]
        exact cNo (by omega) (cNN (by decide) (k2 _ _ none A2 (vc_Sorted_openChoices_47 _ _ _ _ (cNN rfl ⟨A2, k3, rfl, rfl⟩))))
      · obtain ⟨B1, k1, k2⟩ := g9 S B hS hC hB
        rw [if_pos rfl] at k1
        have kf := md_fine (q := q) hr hB
        rw [if_pos c0] at kf
        have kg := md_fine (q := q) hrt k1
        rw [if_neg ct] at kg
        refine ⟨S, B1, EX.refl _ S, k1, fun y => absurd y ct, fun x1 x2 x4 x5 r T k => vc_MD_sortedBlock_252 _ _ _ _ _ _ _ ?_⟩
        rw [wn (), wi ()]
        exact cNo (by omega) ⟨1, B, kf, cNo (by decide) (k2 x1 x2 x4 x5 _ _ r T (vc_MD_sortedBlock_303 _ _ _ _ _ _ _ _ ⟨0, B1, kg, cY (by decide) (vc_MD_sortedBlock_329 _ _ _ _ _ _ _ _ (tm S B1 _ h1 x1 x2 x4 x5 _ r T ct hrt k1 k))⟩))⟩
    have hp6 : p < 6 := by omega
    obtain ⟨s1, s2⟩ := ch_step hp6 hg
    obtain ⟨f1, ef⟩ : ∃ f1 : Int → Int, f1 = fun k => if k = (i : Int) then g p else f k := ⟨_, rfl⟩
    have a1 : f1 i = g p := by rw [ef]; exact if_pos rfl
    have a2 : ∀ k : Nat, k ≠ i → f1 k = f k := fun k hk => by rw [ef]; exact if_neg (by omega)
    obtain ⟨f', st', h', ⟨j1, j2, j3, j4⟩, j5, j6, j7⟩ := ih (i + 1) (tF p g) f1 st1 h1 (by omega) (tF_all (P := fun x => 0 ≤ x ∧ x < 8) hp6 hg) (tF_all (P := fun x => 0 ≤ x ∧ x < (cnt : Int)) (show p < cnt by omega) hg') (fun k hk => by
      by_cases e : k = i
      · subst e; rw [a1]; exact hg' p (by omega)
      · rw [a2 k e]; exact hf k (by omega)) g1 g3
    -- the class's step
    have cst : ∀ (S A : ms) (o : Nat), S.1 9 7 = 1 → S.1 94 15 = n → RdC S o en t → CB S A o en t st h → ∃ A1, CB (wI S 106 i (g p)) (wI A1 106 i (g p)) o en t st1 h1 ∧ ∀ T : ms, EV q 164 6 [some (.ref 94), some (.ref 9), some (vI cnt), some (vI (sx6 (tF p g))), some (vI ((i : Int) + 1)), none, none, none, none] [] (wI A1 106 i (g p)) none T → EV q 164 6 [some (.ref 94), some (.ref 9), some (vI cnt), some (vI (sx6 g)), some (vI i), none, none, none, none] [] A none T := by
      intro S A o hS hN hC hA
      have ho := hC.2.2.1
      have h5 : A.1 9 5 = 0 := by rw [hA.2.1.2.1]; exact c0
      have hN' : A.1 94 15 = n := by rw [hA.2.2.2 94 15 (by omega) (by omega) (by omega)]; exact hN
      obtain ⟨A1, k1, k2⟩ := g8 S A o hS hC hA
      refine ⟨A1, CB_I (i : Int) (g p) (show 106 ≠ 9 by decide) (show 106 ≠ o by omega) (show 106 ≠ o + 1 by omega) ho k1, fun T k => vc_Sorted_openChoices_6 _ _ _ ?_⟩
      rw [hN', wn (), wi (), h5]
      refine cNo (by omega) (cNN (by decide) (k2 _ _ none T (vc_Sorted_openChoices_47 _ _ _ _ ?_)))
      rw [wp (), wc (), wi ()]
      refine cY (by omega) ⟨by omega, fun S2 e => ?_⟩
      rw [e, s1]
      rw [← s2] at k
      unfold ch_X at k
      rw [s1] at k
      exact k
    -- the reference's step
    have mst : st1.1 = 0 → ∀ S B : ms, S.1 367 18 = 1 → RdM S en t → (∀ k : Nat, k < 6 → S.1 410 k = b8 (g k)) → MB S B en st h → ∃ S1 B1, EX (fun a _ => a = 410) S S1 ∧ (∀ k : Nat, k < 6 → S1.1 410 k = b8 (tF p g k)) ∧ MB (wI S1 415 i (g p)) (wI B1 415 i (g p)) en st1 h1 ∧ ∀ (x1 x2 x4 x5 : Int) (r : Option Value) (T : ms), EV q 363 252 [some (.ref 367), some (vI x1), some (vL x2), none, some (vI x4), some (vI x5), some (vI cnt), some (vI n), some (vI ((i : Int) + 1)), none, none, none] [] (wI B1 415 i (g p)) r T → EV q 363 252 [some (.ref 367), some (vI x1), some (vL x2), none, some (vI x4), some (vI x5), some (vI cnt), some (vI n), some (vI i), none, none, none] [] B r T := by
      intro c1 S B hS hC hG hB
      obtain ⟨B1, k1, k2⟩ := g9 S B hS hC hB
      rw [if_neg cp] at k1
      have kf := md_fine (q := q) hr hB
      rw [if_pos c0] at kf
      have kg := md_fine (q := q) g1 k1
      rw [if_pos c1] at kg
      obtain ⟨B2, k3, k4, k5⟩ := md_front (q := q) (S := B1) (g := g) (N := 6) hp6 (by decide) (fun k hk => by
        rw [k1.2.2.2 410 k (by omega) (by omega)]; exact hG k hk)
      obtain ⟨S2, k6, k7, k8⟩ := MB_X (X := fun a _ => a = 410) (fun a k y => by omega) k1 k4
      refine ⟨S2, B2, k6, fun k hk => by rw [k7 410 k rfl]; exact k5 k hk, MB_I (i : Int) (g p) (by decide) (by decide) k8, fun x1 x2 x4 x5 r T k => vc_MD_sortedBlock_252 _ _ _ _ _ _ _ ?_⟩
      rw [wn (), wi ()]
      refine cNo (by omega) ⟨1, B, kf, cNo (by decide) (k2 x1 x2 x4 x5 _ _ r T (vc_MD_sortedBlock_303 _ _ _ _ _ _ _ _ ⟨1, B1, kg, cNo (by decide) ⟨B2, k3, by decide, ?_⟩⟩))⟩
      rw [wi ()]
      refine ⟨by omega, fun S8 e => vc_MD_sortedBlock_329 _ _ _ _ _ _ _ _ ?_⟩
      have k9 : B2.1 410 (w32 0) = g p := by
        have := k5 0 (by decide)
        rw [show ((0 : Nat) : Int) = 0 from rfl, tF_0] at this
        rw [show w32 0 = 0 by decide, this]
        exact b8_of (by have := hg p hp6; omega)
      have k10 : b8 (g p) = g p := b8_of (by have := hg p hp6; omega)
      rw [e, k9, k10]
      exact k
    have hv : ∀ (S : ms) (b : Nat), (∀ k : Nat, k < i → S.1 b k = f k) → ∀ k : Nat, k < i + 1 → (wI S b i (g p)).1 b k = f1 k := by
      intro S b hF k hk
      by_cases e : k = i
      · subst e; rw [wI_at, a1]
      · rw [wI_no _ (by omega), a2 k e]; exact hF k (by omega)
    refine ⟨f', st', h', ⟨j1, Fw_t g2 j2, j3, j4.trans g4⟩, fun y => ⟨?_, (j5 y).2⟩, fun S A o hS hN hC hF hA => ?_, fun S B hS hC hG hF hB => ?_⟩
    · have := (j5 y).1
      have := g7 (Fw_z j2 y)
      omega
    · obtain ⟨A1, k1, k2⟩ := cst S A o hS hN hC hA
      have ex : EX (fun a _ => a = 106) S (wI S 106 i (g p)) := EX.wr (EX.refl _ S) rfl
      obtain ⟨S2, A2, k3, k4, k5, k6⟩ := j6 _ _ o (by rw [wI_no _ (by omega)]; exact hS) (by rw [wI_no _ (by omega)]; exact hN) (RdC_ey hC ex.ey (fun k => show ¬ (2 : Nat) = 106 by decide)) (hv S 106 hF) k1
      rw [ei] at k6
      exact ⟨S2, A2, EX.trans ex k3, k4, k5, k2 A2 k6⟩
    · by_cases c1 : st1.1 = 0
      · obtain ⟨S1, B1, k1, k2, k3, k4⟩ := mst c1 S B hS hC hG hB
        have ex : EX (fun a _ => a = 410 ∨ a = 415) S (wI S1 415 i (g p)) := EX.wr (EX.mono k1 (fun a k y => Or.inl y)) (Or.inr rfl)
        obtain ⟨S2, B2, k5, k6, k7, k8⟩ := j7 _ _ (by rw [wI_no _ (by omega), k1.2 367 18 (show ¬ (367 : Nat) = 410 by decide)]; exact hS) (RdM_ey hC ex.ey (fun k => show ¬ ((368 : Nat) = 410 ∨ (368 : Nat) = 415) by decide)) (fun k hk => by rw [wI_no _ (by omega)]; exact k2 k hk) (hv S1 415 (fun k hk => by rw [k1.2 415 k (show ¬ (415 : Nat) = 410 by decide)]; exact hF k hk)) k3
        rw [ei] at k8
        exact ⟨S2, B2, EX.trans ex k5, k6, k7, fun x1 x2 x4 x5 r T k => k4 x1 x2 x4 x5 r T (k8 x1 x2 x4 x5 r T k)⟩
      · have e' := j2.1 c1
        subst e'
        obtain ⟨B1, k1, k2⟩ := g9 S B hS hC hB
        rw [if_neg cp] at k1
        have kf := md_fine (q := q) hr hB
        rw [if_pos c0] at kf
        have kg := md_fine (q := q) g1 k1
        rw [if_neg c1] at kg
        refine ⟨S, B1, EX.refl _ S, MB_told c1 k1, fun y => absurd y c1, fun x1 x2 x4 x5 r T k => vc_MD_sortedBlock_252 _ _ _ _ _ _ _ ?_⟩
        rw [wn (), wi ()]
        exact cNo (by omega) ⟨1, B, kf, cNo (by decide) (k2 x1 x2 x4 x5 _ _ r T (vc_MD_sortedBlock_303 _ _ _ _ _ _ _ _ ⟨0, B1, kg, cY (by decide) (vc_MD_sortedBlock_329 _ _ _ _ _ _ _ _ (tm S B1 _ h1 x1 x2 x4 x5 _ r T c1 g1 k1 k))⟩))⟩
end Srt9
