/-! SORTED: a block, both sides at once -/
section SrtI
variable {q : Nat × (Nat → Int32)} {en : Int}
theorem md_cp {m : Nat} {x2 x3 : Int} (hm : m ≤ 256) : ∀ (d k : Nat) (S : ms), k + d = m → (∀ j : Nat, j < k → S.1 410 j = b8 (S.1 409 j)) → ∃ T, EX (fun a _ => a = 410) S T ∧ (∀ j : Nat, j < m → T.1 410 j = b8 (S.1 409 j)) ∧ ∀ (r : Option Value) (T' : ms), EV q 364 46 [some (.ref 367), some (vI m), some (vI x2), some (vI x3), some (vL 0), none, some (vL 1), none, some (vI 0), some (vI 1), none, none, none] [] T r T' → EV q 364 8 [some (.ref 367), some (vI m), some (vI x2), some (vI x3), some (vI k), none, none, none, none, none, none, none, none] [] S r T' := by
  have wm : Unit → w32 ((m : Nat) : Int) = m := fun _ => w32_of (by omega)
  intro d
  induction d with
  | zero =>
    intro k S hk h
    have e : k = m := by omega
    subst e
    exact ⟨S, EX.refl _ S, h, fun r T' y => vc_MD_readSymbols_8 _ _ _ _ (cY (Int.le_refl _) y)⟩
  | succ d ih =>
    intro k S hk h
    have wk : Unit → w32 ((k : Nat) : Int) = k := fun _ => w32_of (by omega)
    have ek : ((k + 1 : Nat) : Int) = (k : Int) + 1 := by omega
    have e9 : ∀ j : Int, (wI S 410 k (b8 (S.1 409 k))).1 409 j = S.1 409 j := fun j => wI_no _ (by omega)
    obtain ⟨T, k1, k2, k3⟩ := ih (k + 1) (wI S 410 k (b8 (S.1 409 k))) (by omega) (fun j hj => by
      rw [e9]
      by_cases c : j = k
      · subst c; rw [wI_at]
      · rw [wI_no _ (by omega)]; exact h j (by omega))
    refine ⟨T, EX.trans (EX.wr (EX.refl _ S) rfl) k1, fun j hj => by rw [k2 j hj, e9], fun r T' y => vc_MD_readSymbols_8 _ _ _ _ ?_⟩
    have k4 := k3 r T' y
    rw [ek] at k4
    rw [wm (), wk ()]
    exact cNo (by omega) ⟨by omega, by omega, fun S3 e3 => by rw [e3]; exact k4⟩
theorem md_sixS : ∀ (d k : Nat) (S : ms), k + d = 6 → (∀ j : Nat, j < k → S.1 410 j = b8 j) → ∃ T, EX (fun a _ => a = 410) S T ∧ (∀ j : Nat, j < 6 → T.1 410 j = b8 j) ∧ ∀ (x1 x2 x4 x5 x6 x7 : Int) (r : Option Value) (T' : ms), EV q 363 252 [some (.ref 367), some (vI x1), some (vL x2), none, some (vI x4), some (vI x5), some (vI x6), some (vI x7), some (vI 0), none, none, none] [] T r T' → EV q 363 226 [some (.ref 367), some (vI x1), some (vL x2), none, some (vI x4), some (vI x5), some (vI x6), some (vI x7), some (vI k), none, none, none] [] S r T' := by
  intro d
  induction d with
  | zero =>
    intro k S hk h
    have e : k = 6 := by omega
    subst e
    exact ⟨S, EX.refl _ S, h, fun x1 x2 x4 x5 x6 x7 r T' y => vc_MD_sortedBlock_226 _ _ _ _ _ _ _ (cY (by decide) y)⟩
  | succ d ih =>
    intro k S hk h
    have wk : Unit → w32 ((k : Nat) : Int) = k := fun _ => w32_of (by omega)
    have ek : ((k + 1 : Nat) : Int) = (k : Int) + 1 := by omega
    have e8 : b8 (b8 ((k : Nat) : Int)) = b8 k := b8_of (b8_rg _)
    obtain ⟨T, k1, k2, k3⟩ := ih (k + 1) (wI S 410 k (b8 k)) (by omega) (fun j hj => by
      by_cases c : j = k
      · subst c; rw [wI_at]
      · rw [wI_no _ (by omega)]; exact h j (by omega))
    refine ⟨T, EX.trans (EX.wr (EX.refl _ S) rfl) k1, k2, fun x1 x2 x4 x5 x6 x7 r T' y => vc_MD_sortedBlock_226 _ _ _ _ _ _ _ ?_⟩
    have k4 := k3 x1 x2 x4 x5 x6 x7 r T' y
    rw [ek] at k4
    rw [wk (), e8]
    exact cNo (by omega) ⟨by omega, fun S2 e2 => by rw [e2]; exact k4⟩
theorem md_rs0 {S B : ms} {st : Rd} {h : Int} {m : Nat} {x2 x3 : Int} (hm : m ≤ 256) (hB : MB S B en st h) : ∃ S1 B1, EX xRM S S1 ∧ MB S1 B1 en st h ∧ (∀ j : Nat, j < m → S1.1 410 j = b8 (S.1 409 j)) ∧ S1.1 367 66 = 0 ∧ ∀ (r : Option Value) (T' : ms), EV q 364 46 [some (.ref 367), some (vI m), some (vI x2), some (vI x3), some (vL 0), none, some (vL 1), none, some (vI 0), some (vI 1), none, none, none] [] B1 r T' → EV q 364 0 [some (.ref 367), some (vI m), some (vI x2), some (vI x3), none, none, none, none, none, none, none, none, none] [] B r T' := by
  obtain ⟨T, k1, k2, k3⟩ := md_cp (q := q) (x2 := x2) (x3 := x3) hm m 0 (wI B 367 66 0) (by omega) (fun j hj => absurd hj (by omega))
  have ex : EX xRM B T := EX.trans (EX.wr (EX.refl _ B) (show xRM 367 66 from Or.inr (Or.inr ⟨rfl, rfl⟩))) (EX.mono k1 (fun a k y => show xRM a k from Or.inr (Or.inl y)))
  obtain ⟨S1, s1, s2, s3⟩ := MB_X (X := xRM) (fun a k y => by unfold xRM at y; omega) hB ex
  refine ⟨S1, T, s1, s3, fun j hj => ?_, ?_, fun r T' y => vc_MD_readSymbols _ _ _ (fun S2 e2 => by rw [e2]; exact k3 r T' y)⟩
  · rw [s2 410 j (Or.inr (Or.inl rfl)), k2 j hj, wI_no _ (by omega), hB.2.2.2 409 j (by omega) (by omega)]
  · rw [s2 367 66 (Or.inr (Or.inr ⟨rfl, rfl⟩)), k1.2 367 66 (show ¬ (367 : Nat) = 410 by decide), wI_at]
theorem xRC_S {S T : ms} (e : EX xRC S T) : EX xSC S T := EX.mono e (fun a k y => by unfold xRC at y; unfold xSC; omega)
theorem xRM_S {S T : ms} (e : EX xRM S T) : EX xSM S T := EX.mono e (fun a k y => by unfold xRM at y; unfold xSM; omega)
/-- a rule told: the rest of a block -/
theorem bk_130t {S A : ms} {o : Nat} {t : Int → Int} {st : Rd} {h z og cn : Int} (c : st.1 ≠ 0) (hr : rdR en st) (ho : (300 < o ∨ o = 7)) (hA : CB S A o en t st h) : ∃ S1 A1, EX xSC S S1 ∧ CB S1 A1 o en t st h ∧ ∀ x5 : Int, EV q 162 130 [some (.ref 94), some (.ref 9), some (vI z), some (vI og), some (vI cn), some (vI x5)] [] A (some (vI z)) A1 := by
  have wr : w32 st.1 = st.1 := w32_of (by have := hr.1; omega)
  have k1 := CB_I (1 : Int) 0 (show 94 ≠ 9 by decide) (show 94 ≠ o by omega) (show 94 ≠ o + 1 by omega) ho hA
  have k2 : EV q 167 0 [some (.ref 94), some (.ref 9), none, none, none, none] [] A none (wI A 94 1 0) := by
    refine vc_Sorted_openRow (fun S1 e1 => ?_)
    rw [e1]
    refine vc_Sorted_openRow_12 _ _ _ (cNo (by decide) ?_)
    rw [k1.2.1.2.1, wr]
    exact cY c ⟨rfl, rfl⟩
  obtain ⟨A2, k3, k4⟩ := gC (q := q) (c := w32 og < w32 ((wI A 94 1 0).1 94 1)) (k := 83) hr ho k1
  rw [show (if w32 og < w32 ((wI A 94 1 0).1 94 1) then st else rdTell 83 st) = st by split; rfl; exact rdTell_r c] at k3
  have k149 : ∀ x5 : Int, EV q 162 149 [some (.ref 94), some (.ref 9), some (vI z), some (vI og), some (vI cn), some (vI x5)] [] A2 (some (vI z)) A2 := by
    intro x5
    refine vc_Sorted_openBlock_149 _ _ _ _ ?_
    rw [k3.2.1.2.1, wr]
    exact cY c ⟨rfl, rfl⟩
  refine ⟨wI S 94 1 0, A2, EX.wr (EX.refl _ S) (show xSC 94 1 by unfold xSC; omega), k3, fun x5 => vc_Sorted_openBlock_130 _ _ _ _ ⟨_, k2, ?_⟩⟩
  rcases k4 with ⟨u1, u2⟩ | ⟨u1, u2⟩
  · rw [u2] at k149; rw [u2]; exact cY u1 (k149 _)
  · exact cNo u1 ⟨A2, u2, k149 _⟩
theorem bk_88t {S A : ms} {o : Nat} {t : Int → Int} {st : Rd} {h z og cn : Int} (c : st.1 ≠ 0) (hr : rdR en st) (ho : (300 < o ∨ o = 7)) (hA : CB S A o en t st h) : ∃ S1 A1, EX xSC S S1 ∧ CB S1 A1 o en t st h ∧ EV q 162 88 [some (.ref 94), some (.ref 9), some (vI z), some (vI og), some (vI cn), none] [] A (some (vI z)) A1 := by
  have wr : w32 st.1 = st.1 := w32_of (by have := hr.1; omega)
  obtain ⟨S1, A1, k1, k2, k3⟩ := bk_130t (q := q) (z := z) (og := og) (cn := cn) c hr ho hA
  refine ⟨S1, A1, k1, k2, vc_Sorted_openBlock_88 _ _ _ ⟨A, vc_Sorted_openChoices _ (vc_Sorted_openChoices_6 _ _ _ ⟨fun _ => ⟨rfl, rfl⟩, fun _ => ?_⟩), vc_Sorted_openBlock_98 _ _ _ _ ⟨fun _ => k3 _, fun _ => ?_⟩⟩⟩
  · rw [hA.2.1.2.1, wr]; exact cY c ⟨rfl, rfl⟩
  · rw [hA.2.1.2.1, wr]; exact cY c (k3 _)
theorem bk_508t {S B : ms} {st : Rd} {h x1 x2 x4 x6 x7 x8 : Int} {m : Nat} (hm : m ≤ 256) (c : st.1 ≠ 0) (hr : rdR en st) (hB : MB S B en st h) : ∃ S1 B1, EX xSM S S1 ∧ MB S1 B1 en st h ∧ ∀ x9 : Int, EV q 363 508 [some (.ref 367), some (vI x1), some (vL x2), none, some (vI x4), some (vI m), some (vI x6), some (vI x7), some (vI x8), some (vI x9), none, none] [] B none B1 := by
  obtain ⟨S1, B1, k1, k2, _, _, k5⟩ := md_rs0 (q := q) (x2 := x8) (x3 := x7) hm hB
  have kf := md_fine (q := q) hr k2
  rw [if_neg c] at kf
  exact ⟨S1, B1, xRM_S k1, k2, fun x9 => vc_MD_sortedBlock_508 _ _ _ _ _ _ _ _ ⟨B1, k5 none B1 (vc_MD_readSymbols_46 _ _ _ _ _ _ _ (cNo (by decide) ⟨0, B1, kf, cY (by decide) ⟨rfl, rfl⟩⟩)), 0, B1, kf, cY (by decide) (vc_MD_sortedBlock_541 _ _ _ _ _ _ _ _ ⟨0, B1, kf, cY (by decide) ⟨rfl, rfl⟩⟩)⟩⟩
theorem bk_223t {S B : ms} {st : Rd} {h x1 x2 x4 x6 x7 : Int} {m : Nat} (hm : m ≤ 256) (c : st.1 ≠ 0) (hr : rdR en st) (hB : MB S B en st h) : ∃ S1 B1, EX xSM S S1 ∧ MB S1 B1 en st h ∧ EV q 363 223 [some (.ref 367), some (vI x1), some (vL x2), none, some (vI x4), some (vI m), some (vI x6), some (vI x7), none, none, none, none] [] B none B1 := by
  obtain ⟨B1, k1, _, k3⟩ := md_sixS (q := q) 6 0 B (by omega) (fun j hj => absurd hj (by omega))
  obtain ⟨S1, s1, s2, s3⟩ := MB_X (X := fun a _ => a = 410) (fun a k y => by omega) hB k1
  obtain ⟨S2, B2, m1, m2, m3⟩ := bk_508t (q := q) (x1 := x1) (x2 := x2) (x4 := x4) (x6 := x6) (x7 := x7) (x8 := (m : Int) + 2) hm c hr s3
  have kf := md_fine (q := q) hr s3
  rw [if_neg c] at kf
  have k344 := vc_MD_sortedBlock_344 (q := q) x1 x2 x4 m x6 x7 ((m : Int) + 2) 0 ⟨fun _ => m3 _, fun _ => ⟨0, B1, kf, cY (by decide) (m3 _)⟩⟩
  have k335 := vc_MD_sortedBlock_335 (q := q) x1 x2 x4 m x6 x7 0 k344
  exact ⟨S2, B2, EX.trans (EX.mono s1 (fun a k y => by unfold xSM; omega)) m1, m2, vc_MD_sortedBlock_223 _ _ _ _ _ _ (k3 _ _ _ _ _ _ _ _ (vc_MD_sortedBlock_252 _ _ _ _ _ _ _ ⟨fun _ => k335, fun _ => ⟨0, B1, kf, cY (by decide) k335⟩⟩))⟩
end SrtI
