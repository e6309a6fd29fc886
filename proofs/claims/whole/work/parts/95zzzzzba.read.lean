/-! read: rule and place alone, on both sides -/
section ReaB2
variable {q : Nat × (Nat → Int32)} {x : Int}
def CW (S A : ms) (x : Int) (st : Rd) : Prop := A.2 = S.2 ∧ ((st.1 = 0 → A.1 9 2 = x) ∧ A.1 9 5 = st.1 ∧ A.1 9 6 = st.2.1) ∧ True ∧ ∀ (a : Nat) (k : Int), ¬ (a = 9 ∧ k ≠ 7) → a ≠ 7 → a ≠ 8 → A.1 a k = S.1 a k
def MWl (S B : ms) (st : Rd) : Prop := B.2 = S.2 ∧ (B.1 367 19 = st.1 ∧ B.1 367 20 = st.2.1) ∧ True ∧ ∀ (a : Nat) (k : Int), ¬ (a = 367 ∧ ((15 ≤ k ∧ k ≤ 17) ∨ k = 19 ∨ k = 20 ∨ k = 22)) → a ≠ 375 → B.1 a k = S.1 a k
theorem CR_CW {S A : ms} {st : Rd} {t : Int → Int} {u : Int} (h : CB S A 7 x t st u) : CW S A x st := ⟨h.1, ⟨h.2.1.1, h.2.1.2.1, h.2.1.2.2.1⟩, trivial, fun a k n1 n2 n3 => h.2.2.2 a k n1 (fun z => n2 z.1) n3⟩
theorem MR_MWl {S B : ms} {st : Rd} {u : Int} (h : MB S B x st u) : MWl S B st := ⟨h.1, ⟨h.2.1.2.2.1, h.2.1.2.2.2.1⟩, trivial, h.2.2.2⟩
theorem cw_tellAt {S A : ms} {st : Rd} {k p : Int} (hr : rdR x st) (h : CW S A x st) : ∃ A', EV q 126 0 [some (.ref 9), some (vI k), some (vI p)] [] A none A' ∧ CW S A' x (rdTellAt k p st) := by
  obtain ⟨h1, ⟨a1, a2, a3⟩, _, h4⟩ := id h
  have wr : w32 st.1 = st.1 := w32_of (by have := hr.1; omega)
  unfold rdTellAt
  by_cases c : st.1 ≠ 0
  · refine ⟨A, vc_Source_tellAt _ _ ?_, by rw [if_pos c]; exact h⟩
    rw [a2, wr]
    exact ⟨fun _ => ⟨rfl, rfl⟩, fun n => absurd c n⟩
  · have c0 : st.1 = 0 := by omega
    have q2 : ∀ (a : Nat) (e : Int), (wI (wI A 9 5 k) 9 6 p).1 a e = if a = 9 ∧ e = 6 then p else if a = 9 ∧ e = 5 then k else A.1 a e := fun _ _ => rfl
    refine ⟨wI (wI A 9 5 k) 9 6 p, vc_Source_tellAt _ _ ?_, ?_⟩
    · rw [a2, wr]
      exact ⟨fun n => absurd n c, fun _ S1 f1 S2 f2 => ⟨rfl, by subst f1 f2; rfl⟩⟩
    · rw [if_neg c]
      exact ⟨h1, ⟨fun _ => by rw [q2, if_neg (by decide), if_neg (by decide), a1 c0], by rw [q2, if_neg (by decide), if_pos ⟨rfl, rfl⟩], by rw [q2, if_pos ⟨rfl, rfl⟩]⟩, trivial, fun a e n1 n2 n3 => by rw [q2, if_neg (by omega), if_neg (by omega), h4 a e n1 n2 n3]⟩
theorem mt_tellAt {S B : ms} {st : Rd} {k p : Int} (hr : rdR x st) (h : MWl S B st) : ∃ B', EV q 335 0 [some (.ref 367), some (vI k), some (vI p)] [] B none B' ∧ MWl S B' (rdTellAt k p st) := by
  obtain ⟨h1, ⟨a2, a3⟩, _, h4⟩ := id h
  have wr : w32 st.1 = st.1 := w32_of (by have := hr.1; omega)
  unfold rdTellAt
  by_cases c : st.1 ≠ 0
  · refine ⟨B, vc_MD_wrongAt _ _ ?_, by rw [if_pos c]; exact h⟩
    rw [a2, wr]
    exact ⟨fun _ => ⟨rfl, rfl⟩, fun n => absurd c n⟩
  · have q2 : ∀ (a : Nat) (e : Int), (wI (wI B 367 19 k) 367 20 p).1 a e = if a = 367 ∧ e = 20 then p else if a = 367 ∧ e = 19 then k else B.1 a e := fun _ _ => rfl
    refine ⟨wI (wI B 367 19 k) 367 20 p, vc_MD_wrongAt _ _ ?_, ?_⟩
    · rw [a2, wr]
      exact ⟨fun n => absurd n c, fun _ S1 f1 S2 f2 => ⟨rfl, by subst f1 f2; rfl⟩⟩
    · rw [if_neg c]
      exact ⟨h1, ⟨by rw [q2, if_neg (by decide), if_pos ⟨rfl, rfl⟩], by rw [q2, if_pos ⟨rfl, rfl⟩]⟩, trivial, fun a e n1 n2 => by rw [q2, if_neg (by omega), if_neg (by omega), h4 a e n1 n2]⟩
theorem mt_fine {S B : ms} {st : Rd} (hr : rdR x st) (h : MWl S B st) : EV q 333 0 [some (.ref 367)] [] B (some (vI (if st.1 = 0 then 1 else 0))) B := by
  have wr : w32 st.1 = st.1 := w32_of (by have := hr.1; omega)
  refine vc_MD_fine ?_
  rw [h.2.1.1, wr]
  by_cases c : st.1 = 0
  · rw [if_pos c]
    exact ⟨fun n => absurd c n, fun _ => ⟨rfl, rfl⟩⟩
  · rw [if_neg c]
    exact ⟨fun _ => ⟨rfl, rfl⟩, fun n => absurd c n⟩
theorem gWa {c : Prop} [Decidable c] {k p : Int} {S A : ms} {st : Rd} (hr : rdR x st) (h : CW S A x st) : ∃ A', CW S A' x (tl c k p st) ∧ ((c ∧ A' = A) ∨ (¬ c ∧ EV q 126 0 [some (.ref 9), some (vI k), some (vI p)] [] A none A')) := by
  by_cases y : c
  · rw [tl_y y]; exact ⟨A, h, Or.inl ⟨y, rfl⟩⟩
  · rw [tl_n y]
    obtain ⟨A', k1, k2⟩ := cw_tellAt (q := q) (k := k) (p := p) hr h
    exact ⟨A', k2, Or.inr ⟨y, k1⟩⟩
theorem CW_X {X : Nat → Int → Prop} {S A A1 : ms} {st : Rd} (hX : ∀ a k, X a k → a ≠ 9 ∧ a ≠ 7 ∧ a ≠ 8) (h : CW S A x st) (e : EX X A A1) : ∃ S1, EX X S S1 ∧ (∀ a k, X a k → S1.1 a k = A1.1 a k) ∧ CW S1 A1 x st := by
  obtain ⟨a1, ⟨a2, a3, a4⟩, _, a9⟩ := h
  have n9 : ∀ k, A1.1 9 k = A.1 9 k := fun k => e.2 9 k (fun z => (hX 9 k z).1 rfl)
  refine ⟨(fun a k => @ite Int (X a k) (Classical.propDecidable _) (A1.1 a k) (S.1 a k), S.2), ⟨rfl, fun a k n => if_neg n⟩, fun a k y => if_pos y, e.1.trans a1, ⟨fun y => by rw [n9]; exact a2 y, by rw [n9]; exact a3, by rw [n9]; exact a4⟩, trivial, fun a k m1 m2 m3 => ?_⟩
  show A1.1 a k = @ite Int (X a k) (Classical.propDecidable _) (A1.1 a k) (S.1 a k)
  by_cases y : X a k
  · rw [if_pos y]
  · rw [if_neg y, e.2 a k y]
    exact a9 a k m1 m2 m3
theorem MWl_X {X : Nat → Int → Prop} {S B B1 : ms} {st : Rd} (hX : ∀ a k, X a k → ¬ (a = 367 ∧ ((15 ≤ k ∧ k ≤ 17) ∨ k = 19 ∨ k = 20 ∨ k = 22)) ∧ a ≠ 375) (h : MWl S B st) (e : EX X B B1) : ∃ S1, EX X S S1 ∧ (∀ a k, X a k → S1.1 a k = B1.1 a k) ∧ MWl S1 B1 st := by
  obtain ⟨a1, ⟨a4, a5⟩, _, a9⟩ := h
  have n9 : ∀ k : Int, ((15 ≤ k ∧ k ≤ 17) ∨ k = 19 ∨ k = 20 ∨ k = 22) → B1.1 367 k = B.1 367 k := fun k y => e.2 367 k (fun z => (hX 367 k z).1 ⟨rfl, y⟩)
  refine ⟨(fun a k => @ite Int (X a k) (Classical.propDecidable _) (B1.1 a k) (S.1 a k), S.2), ⟨rfl, fun a k n => if_neg n⟩, fun a k y => if_pos y, e.1.trans a1, ⟨by rw [n9 19 (by omega)]; exact a4, by rw [n9 20 (by omega)]; exact a5⟩, trivial, fun a k m1 m2 => ?_⟩
  show B1.1 a k = @ite Int (X a k) (Classical.propDecidable _) (B1.1 a k) (S.1 a k)
  by_cases y : X a k
  · rw [if_pos y]
  · rw [if_neg y, e.2 a k y]
    exact a9 a k m1 m2
end ReaB2
