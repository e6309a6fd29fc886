/-! BLOCKS: the lengths of a block's codes: pieces -/
section Len1
variable {q : Nat × (Nat → Int32)} {en : Int}
theorem CodC_ex {X : Nat → Int → Prop} {S S1 : ms} {b n : Nat} {l : Int → Int} (h : CodC S b n l) (e : EX X S S1) (hx : ∀ a k, X a k → ¬ (b ≤ a ∧ a ≤ b + 10)) : CodC S1 b n l := ⟨h.1, h.2.1, h.2.2.1, by rw [e.2 b 5 (fun z => hx _ _ z (by omega))]; exact h.2.2.2.1, fun k k1 k2 => by rw [e.2 (b + 5) k (fun z => hx _ _ z (by omega))]; exact h.2.2.2.2.1 k k1 k2, fun t h1 h2 => by rw [e.2 (b + 4) _ (fun z => hx _ _ z (by omega))]; exact h.2.2.2.2.2 t h1 h2⟩
theorem CodM_ex {X : Nat → Int → Prop} {S S1 : ms} {a1 n1 a2 n2 n : Nat} {l : Int → Int} (h : CodM S a1 n1 a2 n2 n l) (e : EX X S S1) (hx : ∀ a k, X a k → a ≠ a1 ∧ a ≠ a2) : CodM S1 a1 n1 a2 n2 n l := ⟨h.1, h.2.1, h.2.2.1, h.2.2.2.1, fun t ht => by rw [e.2 a1 t (fun z => (hx _ _ z).1 rfl)]; exact h.2.2.2.2.1 t ht, fun t ht hl => by rw [e.2 a2 t (fun z => (hx _ _ z).2 rfl)]; exact h.2.2.2.2.2 t ht hl⟩
theorem bl5 {S A : ms} {o : Nat} {t : Int → Int} {st : Rd} {u x2 x3 x4 : Int} (c : st.1 ≠ 0) (hr : rdR en st) (h : CB S A o en t st u) : EV q 138 5 [some (.ref 30), some (.ref 9), some (vI x2), some (vI x3), some (vI x4), none, none, none, none] [] A none A := by
  have wr : w32 st.1 = st.1 := w32_of (by have := hr.1; omega)
  refine vc_Blocks_openLengths_5 _ _ _ ⟨fun _ => ⟨rfl, rfl⟩, fun _ => ⟨fun _ => ⟨rfl, rfl⟩, fun _ => ?_⟩⟩
  rw [h.2.1.2.1, wr]
  exact cY c ⟨rfl, rfl⟩
theorem bl143 {S A : ms} {o : Nat} {t : Int → Int} {st : Rd} {u x2 x3 x4 x5 x6 x7 x8 : Int} (c : st.1 ≠ 0) (hr : rdR en st) (h : CB S A o en t st u) : EV q 138 143 [some (.ref 30), some (.ref 9), some (vI x2), some (vI x3), some (vI x4), some (vI x5), some (vI x6), some (vI x7), some (vI x8)] [] A none A := by
  have wr : w32 st.1 = st.1 := w32_of (by have := hr.1; omega)
  refine vc_Blocks_openLengths_143 _ _ _ _ _ _ _ ⟨fun _ => vc_Blocks_openLengths_174 _ _ _ _ _ _ _ (bl5 c hr h), fun _ => ?_⟩
  rw [h.2.1.2.1, wr]
  exact cY c (vc_Blocks_openLengths_174 _ _ _ _ _ _ _ (bl5 c hr h))
theorem bl87 {S A : ms} {o n : Nat} {t : Int → Int} {st : Rd} {u x2 x4 s y : Int} (c : st.1 ≠ 0) (hn : n ≤ 316) (hr : rdR en st) (ho : (300 < o ∨ o = 7)) (h : CB S A o en t st u) : ∃ A1, EV q 138 87 [some (.ref 30), some (.ref 9), some (vI x2), some (vI n), some (vI x4), some (vI s), none, none, none] [vI y] A none A1 ∧ CB S A1 o en t st u := by
  have wn : Unit → w32 ((n : Nat) : Int) = n := fun _ => w32_of (by omega)
  have wn1 : Unit → w32 ((n : Int) - 1) = (n : Int) - 1 := fun _ => w32_of (by omega)
  have k103 : ∀ A : ms, CB S A o en t st u → EV q 138 103 [some (.ref 30), some (.ref 9), some (vI x2), some (vI n), some (vI x4), some (vI s), some (vI y), none, none] [] A none A := by
    intro A h
    refine vc_Blocks_openLengths_103 _ _ _ _ _ ?_
    rw [wn (), wn1 ()]
    exact ⟨fun _ => ⟨fun _ => vc_Blocks_openLengths_137 _ _ _ _ _ (vc_Blocks_openLengths_138 _ _ _ _ _ _ (bl143 c hr h)), fun _ => ⟨fun _ => vc_Blocks_openLengths_137 _ _ _ _ _ (vc_Blocks_openLengths_138 _ _ _ _ _ _ (bl143 c hr h)), fun z => ⟨by omega, vc_Blocks_openLengths_138 _ _ _ _ _ _ (bl143 c hr h)⟩⟩⟩, fun _ => vc_Blocks_openLengths_138 _ _ _ _ _ _ (bl143 c hr h)⟩
  obtain ⟨A1, k1, k2⟩ := sb_tell (q := q) (k := 9) hr ho h
  rw [rdTell_r c] at k2
  by_cases d : w32 y ≤ w32 (x2 - n)
  · exact ⟨A, vc_Blocks_openLengths_87 _ _ _ _ _ (cY d (k103 A h)), h⟩
  · exact ⟨A1, vc_Blocks_openLengths_87 _ _ _ _ _ (cNo d ⟨A1, k1, k103 A1 k2⟩), k2⟩
theorem bl_fill {T : Nat} {v x2 x4 x5 : Int} (hT : T < 1000) : ∀ (m k n : Nat) (A : ms), k + m = T → n + m ≤ 316 → A.1 9 5 = 0 → ∃ A1, EX (fun a _ => a = 89) A A1 ∧ (∀ j : Nat, n ≤ j → j < n + m → A1.1 89 j = v) ∧ (∀ j : Nat, j < n → A1.1 89 j = A.1 89 j) ∧ ∀ (r : Option Value) (U : ms), EV q 138 174 [some (.ref 30), some (.ref 9), some (vI x2), some (vI (n + m : Nat)), some (vI x4), some (vI x5), some (vI T), some (vI v), some (vI T)] [] A1 r U → EV q 138 143 [some (.ref 30), some (.ref 9), some (vI x2), some (vI n), some (vI x4), some (vI x5), some (vI T), some (vI v), some (vI k)] [] A r U := by
  intro m
  induction m with
  | zero =>
    intro k n A hk hn h5
    have e : k = T := by omega
    subst e
    exact ⟨A, EX.refl _ A, fun j j1 j2 => absurd j2 (by omega), fun j _ => rfl, fun r U y => vc_Blocks_openLengths_143 _ _ _ _ _ _ _ (cY (Int.le_refl _) y)⟩
  | succ m ih =>
    intro k n A hk hn h5
    have wT : Unit → w32 ((T : Nat) : Int) = T := fun _ => w32_of (by omega)
    have wk : Unit → w32 ((k : Nat) : Int) = k := fun _ => w32_of (by omega)
    have wn : Unit → w32 ((n : Nat) : Int) = n := fun _ => w32_of (by omega)
    obtain ⟨A1, g1, g2, g3, g4⟩ := ih (k + 1) (n + 1) (wI A 89 n v) (by omega) (by omega) (by rw [wI_no _ (by omega)]; exact h5)
    refine ⟨A1, EX.trans (EX.wr (EX.refl _ A) rfl) g1, fun j j1 j2 => ?_, fun j hj => ?_, fun r U y => ?_⟩
    · by_cases d : j = n
      · subst d
        rw [g3 j (by omega)]
        exact wI_at _ _ _ _
      · exact g2 j (by omega) (by omega)
    · rw [g3 j (by omega), wI_no _ (by omega)]
    · rw [show n + (m + 1) = n + 1 + m by omega] at y
      have z := g4 r U y
      rw [show ((n + 1 : Nat) : Int) = (n : Int) + 1 by omega, show ((k + 1 : Nat) : Int) = (k : Int) + 1 by omega] at z
      refine vc_Blocks_openLengths_143 _ _ _ _ _ _ _ ?_
      rw [wT (), wk (), h5, wn ()]
      exact cNo (by omega) (cNN (by decide) ⟨by omega, fun S2 e => by rw [e]; exact z⟩)
theorem ml_told {S B : ms} {st : Rd} {u x1 x2 x3 x4 : Int} (c : st.1 ≠ 0) (hr : rdR en st) (h : MB S B en st u) : EV q 346 145 [some (.ref 367), some (vI x1), some (vI x2), some (vI x3), some (vI x4), none, none, none, none] [] B none B := by
  have kf := md_fine (q := q) hr h
  rw [if_neg c] at kf
  exact vc_MD_readOwn_145 _ _ _ _ ⟨0, B, kf, cY (by decide) (vc_MD_readOwn_356 _ _ _ _ ⟨0, B, kf, cNN (by decide) ⟨rfl, rfl⟩⟩)⟩
theorem ml321 {S B : ms} {st : Rd} {u x1 x2 x3 x4 x5 x6 x7 x8 : Int} (c : st.1 ≠ 0) (hr : rdR en st) (h : MB S B en st u) : EV q 346 321 [some (.ref 367), some (vI x1), some (vI x2), some (vI x3), some (vI x4), some (vI x5), some (vI x6), some (vI x7), some (vI x8)] [] B none B := by
  have kf := md_fine (q := q) hr h
  rw [if_neg c] at kf
  exact vc_MD_readOwn_321 _ _ _ _ _ _ _ _ ⟨fun _ => vc_MD_readOwn_353 _ _ _ _ _ _ _ _ (ml_told c hr h), fun _ => ⟨0, B, kf, cY (by decide) (vc_MD_readOwn_353 _ _ _ _ _ _ _ _ (ml_told c hr h))⟩⟩
theorem ml_fill {T : Nat} {v x1 x2 x3 x5 : Int} (hT : T < 1000) : ∀ (m k n : Nat) (A : ms), k + m = T → n + m ≤ 316 → A.1 367 19 = 0 → ∃ A1, EX (fun a _ => a = 401) A A1 ∧ (∀ j : Nat, n ≤ j → j < n + m → A1.1 401 j = v) ∧ (∀ j : Nat, j < n → A1.1 401 j = A.1 401 j) ∧ ∀ (r : Option Value) (U : ms), EV q 346 353 [some (.ref 367), some (vI x1), some (vI x2), some (vI x3), some (vI (n + m : Nat)), some (vI x5), some (vI v), some (vI T), some (vI T)] [] A1 r U → EV q 346 321 [some (.ref 367), some (vI x1), some (vI x2), some (vI x3), some (vI n), some (vI x5), some (vI v), some (vI T), some (vI k)] [] A r U := by
  intro m
  induction m with
  | zero =>
    intro k n A hk hn h5
    have e : k = T := by omega
    subst e
    exact ⟨A, EX.refl _ A, fun j j1 j2 => absurd j2 (by omega), fun j _ => rfl, fun r U y => vc_MD_readOwn_321 _ _ _ _ _ _ _ _ (cY (Int.le_refl _) y)⟩
  | succ m ih =>
    intro k n A hk hn h5
    have wT : Unit → w32 ((T : Nat) : Int) = T := fun _ => w32_of (by omega)
    have wk : Unit → w32 ((k : Nat) : Int) = k := fun _ => w32_of (by omega)
    have wn : Unit → w32 ((n : Nat) : Int) = n := fun _ => w32_of (by omega)
    obtain ⟨A1, g1, g2, g3, g4⟩ := ih (k + 1) (n + 1) (wI A 401 n v) (by omega) (by omega) (by rw [wI_no _ (by omega)]; exact h5)
    have kf : EV q 333 0 [some (.ref 367)] [] A (some (vI 1)) A := by
      refine vc_MD_fine ?_
      rw [h5]
      exact ⟨fun n => absurd (by decide) n, fun _ => ⟨rfl, rfl⟩⟩
    refine ⟨A1, EX.trans (EX.wr (EX.refl _ A) rfl) g1, fun j j1 j2 => ?_, fun j hj => ?_, fun r U y => ?_⟩
    · by_cases d : j = n
      · subst d
        rw [g3 j (by omega)]
        exact wI_at _ _ _ _
      · exact g2 j (by omega) (by omega)
    · rw [g3 j (by omega), wI_no _ (by omega)]
    · rw [show n + (m + 1) = n + 1 + m by omega] at y
      have z := g4 r U y
      rw [show ((n + 1 : Nat) : Int) = (n : Int) + 1 by omega, show ((k + 1 : Nat) : Int) = (k : Int) + 1 by omega] at z
      refine vc_MD_readOwn_321 _ _ _ _ _ _ _ _ ?_
      rw [wT (), wk (), wn ()]
      exact cNo (by omega) ⟨1, A, kf, cNo (by decide) ⟨by omega, fun S2 e => by rw [e]; exact z⟩⟩
end Len1
