/-! THE READER: emit, and the reference's side -/
section Reader2
variable {q : Nat × (Nat → Int32)} {S A B : ms} {en : Int} {o : Nat}
/-- emit(v) -/
theorem sb_emit {st : Rd} {t t' : Int → Int} {v u : Int} (hC : RdC S o en t) (hr : rdR en st) (h : CB S A o en t' st u) : ∃ A', EV q 120 0 [some (.ref 9), some (vI v)] [] A none A' ∧ CB S A' o en t' (rdEmit v st) u := by
  obtain ⟨h1, ⟨a1, a2, a3, a4, a5⟩, ⟨a6, a7⟩, h4⟩ := id h
  obtain ⟨r1, r2, r3, r4⟩ := hr
  obtain ⟨c1, c2, c3, c4, c5⟩ := hC
  have wr : w32 st.1 = st.1 := w32_of (by omega)
  have wc : w32 st.2.2.2.1 = st.2.2.2.1 := w32_of (by omega)
  have w12 : w32 ((12000 : Nat) : Int) = 12000 := by decide
  have ro : A.2.2 9 1 = o := by rw [h1]; exact c1
  unfold rdEmit
  by_cases c : st.1 ≠ 0
  · refine ⟨A, vc_Source_emit _ ?_, by rw [if_pos c]; exact h⟩
    rw [a2, wr]
    exact ⟨fun n => absurd n c, fun _ => ⟨rfl, rfl⟩⟩
  · have c0 : st.1 = 0 := by omega
    by_cases d : st.2.2.2.1 = 12000
    · have q2 : ∀ (a : Nat) (e : Int), (wI (wI A 9 5 13) 9 6 (rdL st)).1 a e = if a = 9 ∧ e = 6 then rdL st else if a = 9 ∧ e = 5 then 13 else A.1 a e := fun _ _ => rfl
      have k39 : EV q 120 39 [some (.ref 9), some (vI v)] [] A none (wI (wI A 9 5 13) 9 6 (rdL st)) := vc_Source_emit_39 _ (fun S1 f1 S2 f2 => ⟨rfl, by
        have e : S1.1 9 4 = rdL st := by rw [f1, rI_I, if_neg (by decide), (a5 c0).1]
        rw [e] at f2
        subst f1 f2
        rfl⟩)
      refine ⟨wI (wI A 9 5 13) 9 6 (rdL st), vc_Source_emit _ ?_, ?_⟩
      · rw [a2, wr]
        refine ⟨fun _ => ⟨o, 12000, ro, c2, ?_⟩, fun n => absurd c0 n⟩
        rw [a6, wc]
        exact ⟨fun _ => k39, fun n => absurd (by omega) n⟩
      · rw [if_neg c, if_pos d]
        refine ⟨h1, ⟨?_, ?_, ?_, ?_, ?_⟩, ⟨?_, fun e e0 e1 => ?_⟩, fun a e n1 n2 n3 => ?_⟩
        · exact fun y => absurd (show (13 : Int) = 0 from y) (by decide)
        · rw [q2, if_neg (by decide), if_pos ⟨rfl, rfl⟩]
        · rw [q2, if_pos ⟨rfl, rfl⟩]
        · exact fun y => absurd (show (13 : Int) = 0 from y) (by decide)
        · exact fun y => absurd (show (13 : Int) = 0 from y) (by decide)
        · rw [q2, if_neg (by omega), if_neg (by omega), a6]
        · rw [q2, if_neg (by omega), if_neg (by omega), a7 e e0 e1]
        · rw [q2, if_neg (by omega), if_neg (by omega), h4 a e n1 n2 n3]
    · have q2 : ∀ (a : Nat) (e : Int), (wI (wI A (o + 1) st.2.2.2.1 (v % 256)) o 1 (st.2.2.2.1 + 1)).1 a e = if a = o ∧ e = 1 then st.2.2.2.1 + 1 else if a = o + 1 ∧ e = st.2.2.2.1 then v % 256 else A.1 a e := fun _ _ => rfl
      refine ⟨wI (wI A (o + 1) st.2.2.2.1 (v % 256)) o 1 (st.2.2.2.1 + 1), vc_Source_emit _ ?_, ?_⟩
      · rw [a2, wr]
        refine ⟨fun _ => ⟨o, 12000, ro, c2, ?_⟩, fun n => absurd c0 n⟩
        rw [a6, wc]
        refine ⟨fun n => absurd n (by omega), fun _ => ⟨o, 12000, ro, c2, o, 12000, ro, c2, ?_⟩⟩
        rw [a6, wc, w12]
        refine ⟨fun _ => ⟨o, 12000, ro, c2, o, 12000, ro, c2, ?_⟩, fun n => absurd (by omega) n⟩
        rw [a6, wc]
        refine ⟨by omega, fun S17 f => ?_⟩
        subst f
        refine ⟨o, 12000, ro, c2, ?_⟩
        rw [rI_I, if_neg (by omega), a6]
        exact fun S21 f => ⟨rfl, f.symm⟩
      · rw [if_neg c, if_neg d]
        refine ⟨h1, ⟨?_, ?_, by rw [q2, if_neg (by omega), if_neg (by omega), a3], ?_, ?_⟩, ⟨?_, fun e e0 e1 => ?_⟩, fun a e n1 n2 n3 => ?_⟩
        · exact fun _ => by rw [q2, if_neg (by omega), if_neg (by omega), a1 c0]
        · rw [q2, if_neg (by omega), if_neg (by omega), a2]
        · exact fun _ => by rw [q2, if_neg (by omega), if_neg (by omega), a4 c0]
        · exact fun _ => ⟨by rw [q2, if_neg (by omega), if_neg (by omega), (a5 c0).1]; rfl, by rw [q2, if_neg (by omega), if_neg (by omega), (a5 c0).2.1], fun y => by rw [q2, if_neg (by omega), if_neg (by omega), (a5 c0).2.2 y]⟩
        · rw [q2, if_pos ⟨rfl, rfl⟩]
        · have e1' : e < st.2.2.2.1 + 1 := e1
          rw [q2, if_neg (by omega)]
          show _ = if e = st.2.2.2.1 then v % 256 else st.2.2.2.2 e
          by_cases ce : e = st.2.2.2.1
          · rw [if_pos ⟨rfl, ce⟩, if_pos ce]
          · rw [if_neg (fun y => ce y.2), if_neg ce, a7 e e0 (by omega)]
        · rw [q2, if_neg n2, if_neg (fun y => n3 y.1), h4 a e n1 n2 n3]
theorem sp_emit {st : Rd} {t : Int → Int} {v : Int} (hC : RdC S o en t) (hr : rdR en st) (h : CR S A o en st) : ∃ A', EV q 120 0 [some (.ref 9), some (vI v)] [] A none A' ∧ CR S A' o en (rdEmit v st) := sb_emit hC hr h
/-- wrongAt(k, p) -/
theorem mb_tellAt {st : Rd} {k p u : Int} (hr : rdR en st) (h : MB S B en st u) : ∃ B', EV q 335 0 [some (.ref 367), some (vI k), some (vI p)] [] B none B' ∧ MB S B' en (rdTellAt k p st) u := by
  obtain ⟨h1, ⟨a1, a0, a2, a3, a4⟩, ⟨a6, a7⟩, h4⟩ := id h
  obtain ⟨r1, r2, r3, r4⟩ := hr
  have wr : w32 st.1 = st.1 := w32_of (by omega)
  unfold rdTellAt
  by_cases c : st.1 ≠ 0
  · refine ⟨B, vc_MD_wrongAt _ _ ?_, by rw [if_pos c]; exact h⟩
    rw [a2, wr]
    exact ⟨fun _ => ⟨rfl, rfl⟩, fun n => absurd c n⟩
  · have c0 : st.1 = 0 := by omega
    have q2 : ∀ (a : Nat) (e : Int), (wI (wI B 367 19 k) 367 20 p).1 a e = if a = 367 ∧ e = 20 then p else if a = 367 ∧ e = 19 then k else B.1 a e := fun _ _ => rfl
    refine ⟨wI (wI B 367 19 k) 367 20 p, vc_MD_wrongAt _ _ ?_, ?_⟩
    · rw [a2, wr]
      exact ⟨fun n => absurd n c, fun _ S1 f1 S2 f2 => ⟨rfl, by subst f1 f2; rfl⟩⟩
    · rw [if_neg c]
      refine ⟨h1, ⟨?_, ?_, ?_, ?_, ?_⟩, ⟨?_, fun e e0 e1 => ?_⟩, fun a e n1 n2 => ?_⟩
      · exact fun _ => by rw [q2, if_neg (by decide), if_neg (by decide), a1 c0]
      · exact fun _ => by rw [q2, if_neg (by decide), if_neg (by decide), a0 c0]
      · rw [q2, if_neg (by decide), if_pos ⟨rfl, rfl⟩]
      · rw [q2, if_pos ⟨rfl, rfl⟩]
      · exact fun _ => by rw [q2, if_neg (by decide), if_neg (by decide), a4 c0]
      · rw [q2, if_neg (by decide), if_neg (by decide), a6]
      · rw [q2, if_neg (by omega), if_neg (by omega), a7 e e0 e1]
      · rw [q2, if_neg (by omega), if_neg (by omega), h4 a e n1 n2]
theorem md_tellAt {st : Rd} {k p : Int} (hr : rdR en st) (h : MR S B en st) : ∃ B', EV q 335 0 [some (.ref 367), some (vI k), some (vI p)] [] B none B' ∧ MR S B' en (rdTellAt k p st) := mb_tellAt hr h
/-- wrong(k) -/
theorem mb_tell {st : Rd} {k u : Int} (hr : rdR en st) (he : en ≤ 6000) (hh : hR st u) (h : MB S B en st u) : ∃ B', EV q 337 0 [some (.ref 367), some (vI k)] [] B none B' ∧ MB S B' en (rdTell k st) u := by
  obtain ⟨h1, ⟨a1, a0, a2, a3, a4⟩, ⟨a6, a7⟩, h4⟩ := id h
  obtain ⟨r1, r2, r3, r4⟩ := hr
  have wr : w32 st.1 = st.1 := w32_of (by omega)
  have wn : w32 st.2.2.1 = st.2.2.1 := w32_of (by omega)
  unfold rdTell rdTellAt
  by_cases c : st.1 ≠ 0
  · refine ⟨B, vc_MD_wrong _ ?_, by rw [if_pos c]; exact h⟩
    rw [a2, wr]
    exact ⟨fun _ => ⟨rfl, rfl⟩, fun n => absurd c n⟩
  · have c0 : st.1 = 0 := by omega
    have q2 : ∀ (a : Nat) (e : Int), (wI (wI B 367 19 k) 367 20 (rdL st)).1 a e = if a = 367 ∧ e = 20 then rdL st else if a = 367 ∧ e = 19 then k else B.1 a e := fun _ _ => rfl
    refine ⟨wI (wI B 367 19 k) 367 20 (rdL st), vc_MD_wrong _ ?_, ?_⟩
    · rw [a2, wr]
      refine ⟨fun n => absurd n c, fun _ S1 f1 => ?_⟩
      have e17 : S1.1 367 17 = u := by rw [f1, rI_I, if_neg (by decide), a0 c0]
      have e16 : S1.1 367 16 = st.2.2.1 - (if u = 0 then 0 else 1) := by rw [f1, rI_I, if_neg (by decide), a4 c0]
      have fin : ∀ y0 : Int, y0 = rdL st → EV q 337 44 [some (.ref 367), some (vI k)] [vI y0, .ref 367] S1 none (wI (wI B 367 19 k) 367 20 (rdL st)) := fun y0 e => vc_MD_wrong_44 _ _ (fun S2 f2 => ⟨rfl, by rw [e] at f2; subst f1 f2; rfl⟩)
      obtain ⟨u1, u2⟩ := hh
      have wu : w32 u = u := w32_of (by omega)
      rw [e17, e16, wu]
      by_cases cu : u = 0
      · rw [if_pos cu, Int.sub_zero, wn]
        refine cY (by omega) ⟨fun y => fin 0 ?_, fun y => fin _ ?_⟩
        · unfold rdL
          rw [if_pos y]
        · unfold rdL
          rw [if_neg y]
      · rw [if_neg cu]
        have := u2 (by omega)
        refine cNo (by omega) (fin _ ?_)
        unfold rdL
        rw [if_neg (by omega)]
    · rw [if_neg c]
      refine ⟨h1, ⟨?_, ?_, ?_, ?_, ?_⟩, ⟨?_, fun e e0 e1 => ?_⟩, fun a e n1 n2 => ?_⟩
      · exact fun _ => by rw [q2, if_neg (by decide), if_neg (by decide), a1 c0]
      · exact fun _ => by rw [q2, if_neg (by decide), if_neg (by decide), a0 c0]
      · rw [q2, if_neg (by decide), if_pos ⟨rfl, rfl⟩]
      · rw [q2, if_pos ⟨rfl, rfl⟩]
      · exact fun _ => by rw [q2, if_neg (by decide), if_neg (by decide), a4 c0]
      · rw [q2, if_neg (by decide), if_neg (by decide), a6]
      · rw [q2, if_neg (by omega), if_neg (by omega), a7 e e0 e1]
      · rw [q2, if_neg (by omega), if_neg (by omega), h4 a e n1 n2]
theorem md_tell {st : Rd} {k : Int} (hr : rdR en st) (he : en ≤ 6000) (h : MR S B en st) : ∃ B', EV q 337 0 [some (.ref 367), some (vI k)] [] B none B' ∧ MR S B' en (rdTell k st) := mb_tell hr he (hR_0 st) h
/-- fine() -/
theorem md_fine {st : Rd} {u : Int} (hr : rdR en st) (h : MB S B en st u) : EV q 333 0 [some (.ref 367)] [] B (some (vI (if st.1 = 0 then 1 else 0))) B := by
  obtain ⟨-, ⟨-, -, a2, -⟩, -⟩ := h
  have wr : w32 st.1 = st.1 := w32_of (by have := hr.1; omega)
  refine vc_MD_fine ?_
  rw [a2, wr]
  by_cases c : st.1 = 0
  · rw [if_pos c]
    exact ⟨fun n => absurd c n, fun _ => ⟨rfl, rfl⟩⟩
  · rw [if_neg c]
    exact ⟨fun _ => ⟨rfl, rfl⟩, fun n => absurd c n⟩
/-- next() -/
theorem md_take {st : Rd} {t : Int → Int} (hC : RdM S en t) (hr : rdR en st) (h : MR S B en st) : ∃ B', EV q 334 0 [some (.ref 367)] [] B (some (vI (rdTake t en st).1)) B' ∧ MR S B' en (rdTake t en st).2 := by
  obtain ⟨h1, ⟨a1, a0, a2, a3, a4⟩, ⟨a6, a7⟩, h4⟩ := id h
  obtain ⟨r1, r2, r3, r4⟩ := id hr
  obtain ⟨c1, c4, c5⟩ := hC
  have wr : w32 st.1 = st.1 := w32_of (by omega)
  have wn : w32 st.2.2.1 = st.2.2.1 := w32_of (by omega)
  have we : w32 en = en := w32_of (by omega)
  unfold rdTake
  by_cases c : st.1 ≠ 0
  · refine ⟨B, vc_MD_next ?_, by rw [if_pos c]; exact h⟩
    rw [a2, wr, if_pos c]
    exact ⟨fun n => absurd n c, fun _ => ⟨rfl, rfl⟩⟩
  · have c0 : st.1 = 0 := by omega
    by_cases d : st.2.2.1 < en
    · obtain ⟨g1, g2⟩ := c5 st.2.2.1 r2.1 d
      have q2 : ∀ (a : Nat) (e : Int), (wI B 367 16 (st.2.2.1 + 1)).1 a e = if a = 367 ∧ e = 16 then st.2.2.1 + 1 else B.1 a e := fun _ _ => rfl
      refine ⟨wI B 367 16 (st.2.2.1 + 1), vc_MD_next ?_, ?_⟩
      · rw [if_neg c, if_pos d, a2, wr, a4 c0, if_pos rfl, Int.sub_zero, wn, a1 c0, we]
        refine ⟨fun _ => ⟨fun _ S1 f1 => ?_, fun n => absurd d n⟩, fun n => absurd c0 n⟩
        subst f1
        have e16 : (wI B 367 16 (st.2.2.1 + 1)).1 367 16 - 1 = st.2.2.1 := by
          rw [q2, if_pos ⟨rfl, rfl⟩]
          omega
        have ev : (wI B 367 16 (st.2.2.1 + 1)).1 368 st.2.2.1 % 256 = t st.2.2.1 := by rw [q2, if_neg (by omega), h4 _ _ (by omega) (by decide), g2]
        refine ⟨368, 6000, by show B.2.2 367 13 = 368; rw [h1]; exact c1, rfl, ?_⟩
        rw [e16, wn, ev]
        exact ⟨by omega, rfl, rfl⟩
      · rw [if_neg c, if_pos d]
        refine ⟨h1, ⟨?_, ?_, ?_, by rw [q2, if_neg (by decide), a3], ?_⟩, ⟨?_, fun e e0 e1 => ?_⟩, fun a e n1 n2 => ?_⟩
        · exact fun _ => by rw [q2, if_neg (by decide), a1 c0]
        · exact fun _ => by rw [q2, if_neg (by decide), a0 c0]
        · rw [q2, if_neg (by decide), a2]
        · exact fun _ => by rw [q2, if_pos ⟨rfl, rfl⟩, if_pos rfl, Int.sub_zero]
        · rw [q2, if_neg (by decide), a6]
        · rw [q2, if_neg (by omega), a7 e e0 e1]
        · rw [q2, if_neg (by omega), h4 a e n1 n2]
    · obtain ⟨B', k1, k2⟩ := md_tellAt (q := q) (k := 1) (p := en) hr h
      refine ⟨B', vc_MD_next ?_, ?_⟩
      · rw [if_neg c, if_neg d, a2, wr, a4 c0, if_pos rfl, Int.sub_zero, wn, a1 c0, we]
        exact ⟨fun _ => ⟨fun n => absurd n d, fun _ => ⟨B', k1, rfl, rfl⟩⟩, fun n => absurd c0 n⟩
      · rw [if_neg c, if_neg d]
        unfold rdTellAt at k2
        rw [if_neg c] at k2
        exact k2
/-- come(v) -/
theorem mb_emit {st : Rd} {v u : Int} (hr : rdR en st) (he : en ≤ 6000) (hh : hR st u) (h : MB S B en st u) : ∃ B', EV q 336 0 [some (.ref 367), some (vI v)] [] B none B' ∧ MB S B' en (rdEmit v st) u := by
  obtain ⟨h1, ⟨a1, a0, a2, a3, a4⟩, ⟨a6, a7⟩, h4⟩ := id h
  obtain ⟨r1, r2, r3, r4⟩ := id hr
  have wr : w32 st.1 = st.1 := w32_of (by omega)
  have wc : w32 st.2.2.2.1 = st.2.2.2.1 := w32_of (by omega)
  unfold rdEmit
  by_cases c : st.1 ≠ 0
  · refine ⟨B, vc_MD_come _ ?_, by rw [if_pos c]; exact h⟩
    rw [a2, wr]
    exact ⟨fun n => absurd n c, fun _ => ⟨rfl, rfl⟩⟩
  · have c0 : st.1 = 0 := by omega
    by_cases d : st.2.2.2.1 = 12000
    · obtain ⟨B', k1, k2⟩ := mb_tell (q := q) (k := 13) hr he hh h
      refine ⟨B', vc_MD_come _ ?_, ?_⟩
      · rw [a2, wr, a6, wc]
        exact ⟨fun _ => ⟨fun n => absurd d n, fun _ => ⟨B', k1, rfl, rfl⟩⟩, fun n => absurd c0 n⟩
      · rw [if_neg c, if_pos d]
        unfold rdTell rdTellAt at k2
        rw [if_neg c] at k2
        exact k2
    · have q2 : ∀ (a : Nat) (e : Int), (wI (wI B 375 st.2.2.2.1 (b8 (b8 v))) 367 22 (st.2.2.2.1 + 1)).1 a e = if a = 367 ∧ e = 22 then st.2.2.2.1 + 1 else if a = 375 ∧ e = st.2.2.2.1 then b8 (b8 v) else B.1 a e := fun _ _ => rfl
      refine ⟨wI (wI B 375 st.2.2.2.1 (b8 (b8 v))) 367 22 (st.2.2.2.1 + 1), vc_MD_come _ ?_, ?_⟩
      · rw [a2, wr, a6, wc]
        refine ⟨fun _ => ⟨fun _ => ⟨by omega, fun S2 f2 S3 f3 => ⟨rfl, ?_⟩⟩, fun n => absurd d n⟩, fun n => absurd c0 n⟩
        have e : S2.1 367 22 = st.2.2.2.1 := by rw [f2, rI_I, if_neg (by omega), a6]
        rw [e] at f3
        subst f2 f3
        rfl
      · rw [if_neg c, if_neg d]
        refine ⟨h1, ⟨?_, ?_, ?_, by rw [q2, if_neg (by decide), if_neg (by omega), a3], ?_⟩, ⟨?_, fun e e0 e1 => ?_⟩, fun a e n1 n2 => ?_⟩
        · exact fun _ => by rw [q2, if_neg (by decide), if_neg (by omega), a1 c0]
        · exact fun _ => by rw [q2, if_neg (by decide), if_neg (by omega), a0 c0]
        · rw [q2, if_neg (by decide), if_neg (by omega), a2]
        · exact fun _ => by rw [q2, if_neg (by decide), if_neg (by omega), a4 c0]
        · rw [q2, if_pos ⟨rfl, rfl⟩]
        · have e1' : e < st.2.2.2.1 + 1 := e1
          rw [q2, if_neg (by omega)]
          show _ = b8 (if e = st.2.2.2.1 then v % 256 else st.2.2.2.2 e)
          by_cases ce : e = st.2.2.2.1
          · rw [if_pos ⟨rfl, ce⟩, if_pos ce, b8_of (b8_rg _)]
            unfold b8
            omega
          · rw [if_neg (fun y => ce y.2), if_neg ce, a7 e e0 (by omega)]
        · rw [q2, if_neg (by omega), if_neg (fun y => n2 y.1), h4 a e n1 n2]
theorem md_emit {st : Rd} {v : Int} (hr : rdR en st) (he : en ≤ 6000) (h : MR S B en st) : ∃ B', EV q 336 0 [some (.ref 367), some (vI v)] [] B none B' ∧ MR S B' en (rdEmit v st) := mb_emit hr he (hR_0 st) h
end Reader2
