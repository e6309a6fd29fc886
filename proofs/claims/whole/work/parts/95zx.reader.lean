/-! THE READER ends: the fault is told, the STREAM settles -/
section Reader7
variable {q : Nat × (Nat → Int32)} {S A B : ms} {en f : Int} {st : Rd}
/-- what is told of an opening, on the class's side and on the reference's -/
def FTc (A : ms) (st : Rd) (n : Int) : ms := wI (wI (wI A 0 16 st.1) 0 17 st.2.1) 0 18 n
def FTm (B : ms) (st : Rd) (n : Int) : ms := wI (wI (wI B 367 79 st.1) 367 80 st.2.1) 367 81 n
theorem sp_fault {o : Nat} (n : Int) (h : CR S A o en st) : EV q 174 0 [some (.ref 0), some (vI n)] [] A none (FTc A st n) := by
  obtain ⟨-, ⟨-, a2, a3, -⟩, -⟩ := h
  refine vc_PH_tellFault _ (fun S1 f1 S2 f2 S3 f3 => ⟨rfl, ?_⟩)
  rw [a2] at f1
  have e : S1.1 9 6 = st.2.1 := by rw [f1, rI_I, if_neg (by decide), a3]
  rw [e] at f2
  subst f1 f2 f3
  rfl
/-- settleOpening(number) -/
theorem sp_setl (f1 : 1 ≤ f) (f2 : f ≤ 12) (hr : rdR en st) (h : CR S A (sR f) en st) (ho : S.1 (sR f) 2 = 0) : (st.1 ≠ 0 → EV q 173 0 [some (.ref 0), some (vI f)] [] A (some (vI (-10 - st.1))) (FTc A st st.2.2.2.1)) ∧ (st.1 = 0 → EV q 173 0 [some (.ref 0), some (vI f)] [] A (some (vI f)) (wI (FTc A st st.2.2.2.1) 4 f 1)) := by
  have rg := sR_rg f1 f2
  have wf : w32 f = f := w32_of (by omega)
  have wr : w32 st.1 = st.1 := w32_of (by have := hr.1; omega)
  obtain ⟨s1, s2⟩ := st_is f1 f2
  have kf := sp_fault (q := q) st.2.2.2.1 h
  have a6 := h.2.2.1.1
  have q2 : ∀ (a : Nat) (k : Int), (FTc A st st.2.2.2.1).1 a k = if a = 0 ∧ k = 18 then st.2.2.2.1 else if a = 0 ∧ k = 17 then st.2.1 else if a = 0 ∧ k = 16 then st.1 else A.1 a k := fun _ _ => rfl
  have e16 : (FTc A st st.2.2.2.1).1 0 16 = st.1 := by rw [q2, if_neg (by decide), if_neg (by decide), if_pos ⟨rfl, rfl⟩]
  have eo : (FTc A st st.2.2.2.1).1 (sR f) 2 = 0 := by
    rw [q2, if_neg (by omega), if_neg (by omega), if_neg (by omega), h.2.2.2 _ _ (by omega) (by omega) (by omega), ho]
  constructor
  · intro c
    refine vc_PH_settleOpening _ ?_
    rw [wf]
    refine ⟨by omega, sR f, 12000, s1, s2, FTc A st st.2.2.2.1, by rw [a6]; exact kf, ?_⟩
    rw [e16, wr]
    exact ⟨fun _ => ⟨rfl, rfl⟩, fun n => absurd c n⟩
  · intro c
    refine vc_PH_settleOpening _ ?_
    rw [wf]
    refine ⟨by omega, sR f, 12000, s1, s2, FTc A st st.2.2.2.1, by rw [a6]; exact kf, ?_⟩
    rw [e16, wr]
    exact ⟨fun n => absurd c n, fun _ => ⟨f, _, ph_settle (q := q) f1 f2 eo, rfl, rfl⟩⟩
/-- tellFault(n) of the reference -/
theorem md_fault (n : Int) (hr : rdR en st) (h : MR S B en st) : EV q 368 0 [some (.ref 367), some (vI n)] [] B (some (vI (-10 - st.1))) (FTm B st n) := by
  obtain ⟨-, ⟨-, -, a2, a3, -⟩, -⟩ := h
  have wr : w32 st.1 = st.1 := w32_of (by have := hr.1; omega)
  refine vc_MD_tellFault _ (fun S1 f1 => ?_)
  rw [a2] at f1
  have e19 : S1.1 367 19 = st.1 := by rw [f1, rI_I, if_neg (by decide), a2]
  have e20 : S1.1 367 20 = st.2.1 := by rw [f1, rI_I, if_neg (by decide), a3]
  have fin : ∀ y0 : Int, y0 = st.2.1 → EV q 368 24 [some (.ref 367), some (vI n)] [vI y0, .ref 367] S1 (some (vI (-10 - st.1))) (FTm B st n) := by
    intro y0 ey
    refine vc_MD_tellFault_24 _ _ (fun S2 f2 S3 f3 => ⟨?_, ?_⟩)
    · have e : S3.1 367 19 = st.1 := by rw [f3, rI_I, if_neg (by decide), f2, rI_I, if_neg (by decide), e19]
      rw [e]
    · rw [ey] at f2
      subst f1 f2 f3
      rfl
  rw [e19, wr, e20]
  exact ⟨fun _ => fin _ rfl, fun c => fin 0 (hr.2.2.2.2 (Classical.not_not.mp c)).symm⟩
end Reader7
