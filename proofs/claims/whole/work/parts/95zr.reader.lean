/-! THE READER, octets alone: an abstract state, and both sides in it. (rule, place, next, how many came, what came) -/
section Reader
variable {q : Nat × (Nat → Int32)} {S A B : ms} {en : Int} {o : Nat}
theorem cY {c X Y : Prop} (h : c) (x : X) : (c → X) ∧ (¬ c → Y) := ⟨fun _ => x, fun n => absurd h n⟩
theorem cNo {c X Y : Prop} (h : ¬ c) (y : Y) : (c → X) ∧ (¬ c → Y) := ⟨fun n => absurd n h, fun _ => y⟩
theorem cNN {c X Y : Prop} (h : c) (y : Y) : (¬ c → X) ∧ (¬ ¬ c → Y) := ⟨fun n => absurd h n, fun _ => y⟩
abbrev Rd := Int × Int × Int × Int × (Int → Int)
/-- the place of the octet that was read last -/
def rdL (st : Rd) : Int := if st.2.2.1 ≤ 0 then 0 else st.2.2.1 - 1
def rdTake (t : Int → Int) (en : Int) (st : Rd) : Int × Rd := if st.1 ≠ 0 then (0, st) else if st.2.2.1 < en then (t st.2.2.1, st.1, st.2.1, st.2.2.1 + 1, st.2.2.2) else (0, 1, en, st.2.2)
def rdTellAt (k p : Int) (st : Rd) : Rd := if st.1 ≠ 0 then st else (k, p, st.2.2)
def rdTell (k : Int) (st : Rd) : Rd := rdTellAt k (rdL st) st
def rdEmit (v : Int) (st : Rd) : Rd := if st.1 ≠ 0 then st else if st.2.2.2.1 = 12000 then (13, rdL st, st.2.2) else (st.1, st.2.1, st.2.2.1, st.2.2.2.1 + 1, fun k => if k = st.2.2.2.1 then v % 256 else st.2.2.2.2 k)
/-- the numbers are in their ranges -/
def rdR (en : Int) (st : Rd) : Prop := (0 ≤ st.1 ∧ st.1 < 1000) ∧ (0 ≤ st.2.2.1 ∧ st.2.2.1 ≤ en) ∧ (0 ≤ st.2.2.2.1 ∧ st.2.2.2.1 ≤ 12000) ∧ (∀ k : Int, 0 ≤ k → k < st.2.2.2.1 → 0 ≤ st.2.2.2.2 k ∧ st.2.2.2.2 k < 256) ∧ (st.1 = 0 → st.2.1 = 0)
theorem rdR_take {t : Int → Int} {st : Rd} (h : rdR en st) : rdR en (rdTake t en st).2 := by
  unfold rdTake
  by_cases c : st.1 ≠ 0
  · rw [if_pos c]
    exact h
  · rw [if_neg c]
    by_cases c2 : st.2.2.1 < en
    · rw [if_pos c2]
      exact ⟨h.1, ⟨by show 0 ≤ st.2.2.1 + 1; have := h.2.1; omega, by show st.2.2.1 + 1 ≤ en; omega⟩, h.2.2⟩
    · rw [if_neg c2]
      exact ⟨(by decide : (0 : Int) ≤ 1 ∧ (1 : Int) < 1000), h.2.1, h.2.2.1, h.2.2.2.1, fun y => absurd (show (1 : Int) = 0 from y) (by decide)⟩
theorem rdR_tellAt {k p : Int} {st : Rd} (h : rdR en st) (hk : 1 ≤ k ∧ k < 1000) : rdR en (rdTellAt k p st) := by
  unfold rdTellAt
  by_cases c : st.1 ≠ 0
  · rw [if_pos c]
    exact h
  · rw [if_neg c]
    exact ⟨⟨by show 0 ≤ k; omega, hk.2⟩, h.2.1, h.2.2.1, h.2.2.2.1, fun y => absurd (show k = 0 from y) (by omega)⟩
theorem rdR_tell {k : Int} {st : Rd} (h : rdR en st) (hk : 1 ≤ k ∧ k < 1000) : rdR en (rdTell k st) := rdR_tellAt h hk
theorem rdR_emit {v : Int} {st : Rd} (h : rdR en st) : rdR en (rdEmit v st) := by
  unfold rdEmit
  by_cases c : st.1 ≠ 0
  · rw [if_pos c]
    exact h
  · rw [if_neg c]
    by_cases c2 : st.2.2.2.1 = 12000
    · rw [if_pos c2]
      exact ⟨(by decide : (0 : Int) ≤ 13 ∧ (13 : Int) < 1000), h.2.1, h.2.2.1, h.2.2.2.1, fun y => absurd (show (13 : Int) = 0 from y) (by decide)⟩
    · rw [if_neg c2]
      refine ⟨h.1, h.2.1, ⟨by show 0 ≤ st.2.2.2.1 + 1; have := h.2.2.1; omega, by show st.2.2.2.1 + 1 ≤ 12000; have := h.2.2.1; omega⟩, fun k k0 k1 => ?_, h.2.2.2.2⟩
      show 0 ≤ (if k = st.2.2.2.1 then v % 256 else st.2.2.2.2 k) ∧ (if k = st.2.2.2.1 then v % 256 else st.2.2.2.2 k) < 256
      have k1' : k < st.2.2.2.1 + 1 := k1
      by_cases ck : k = st.2.2.2.1
      · rw [if_pos ck]
        omega
      · rw [if_neg ck]
        exact h.2.2.2.1 k k0 (by omega)
/-- the class's reader stands in state st, over the memory S, and writes into row o; h bits of the octet read last are used. When a rule is told, only the rule, its place, and what came, count -/
def CB (S A : ms) (o : Nat) (en : Int) (t : Int → Int) (st : Rd) (h : Int) : Prop := A.2 = S.2 ∧ ((st.1 = 0 → A.1 9 2 = en) ∧ A.1 9 5 = st.1 ∧ A.1 9 6 = st.2.1 ∧ (st.1 = 0 → A.1 9 3 = st.2.2.1) ∧ (st.1 = 0 → A.1 9 4 = rdL st ∧ A.1 9 8 = (8 - h) % 8 ∧ (0 < h → A.1 9 9 = t (st.2.2.1 - 1)))) ∧ (A.1 o 1 = st.2.2.2.1 ∧ ∀ k : Int, 0 ≤ k → k < st.2.2.2.1 → A.1 (o + 1) k = st.2.2.2.2 k) ∧ ∀ (a : Nat) (k : Int), ¬ (a = 9 ∧ k ≠ 7) → ¬ (a = o ∧ k = 1) → a ≠ o + 1 → A.1 a k = S.1 a k
/-- the same at an octet's begin -/
abbrev CR (S A : ms) (o : Nat) (en : Int) (st : Rd) : Prop := CB S A o en (fun _ => 0) st 0
/-- the reference's reader stands in state st -/
def MB (S B : ms) (en : Int) (st : Rd) (h : Int) : Prop := B.2 = S.2 ∧ ((st.1 = 0 → B.1 367 15 = en) ∧ (st.1 = 0 → B.1 367 17 = h) ∧ B.1 367 19 = st.1 ∧ B.1 367 20 = st.2.1 ∧ (st.1 = 0 → B.1 367 16 = st.2.2.1 - (if h = 0 then 0 else 1))) ∧ (B.1 367 22 = st.2.2.2.1 ∧ ∀ k : Int, 0 ≤ k → k < st.2.2.2.1 → B.1 375 k = b8 (st.2.2.2.2 k)) ∧ ∀ (a : Nat) (k : Int), ¬ (a = 367 ∧ ((15 ≤ k ∧ k ≤ 17) ∨ k = 19 ∨ k = 20 ∨ k = 22)) → a ≠ 375 → B.1 a k = S.1 a k
abbrev MR (S B : ms) (en : Int) (st : Rd) : Prop := MB S B en st 0
/-- h bits of an octet, and if any, one was read -/
def hR (st : Rd) (h : Int) : Prop := (0 ≤ h ∧ h < 8) ∧ (0 < h → 0 < st.2.2.1)
theorem hR_0 (st : Rd) : hR st 0 := ⟨by decide, fun y => absurd y (by decide)⟩
/-- what the reader may stand on: octets t of the TRAY, as far as en -/
def RdC (S : ms) (o : Nat) (en : Int) (t : Int → Int) : Prop := S.2.2 9 1 = o ∧ isRow o 12000 ∧ (300 < o ∨ o = 7) ∧ (0 ≤ en ∧ en ≤ 6000) ∧ ∀ k : Int, 0 ≤ k → k < en → (0 ≤ t k ∧ t k < 256) ∧ S.1 2 k = t k
def RdM (S : ms) (en : Int) (t : Int → Int) : Prop := S.2.2 367 13 = 368 ∧ (0 ≤ en ∧ en ≤ 6000) ∧ ∀ k : Int, 0 ≤ k → k < en → (0 ≤ t k ∧ t k < 256) ∧ S.1 368 k % 256 = t k
theorem sb_tellAt {st : Rd} {t : Int → Int} {k p u : Int} (hr : rdR en st) (ho : (300 < o ∨ o = 7)) (h : CB S A o en t st u) : ∃ A', EV q 126 0 [some (.ref 9), some (vI k), some (vI p)] [] A none A' ∧ CB S A' o en t (rdTellAt k p st) u := by
  obtain ⟨h1, ⟨a1, a2, a3, a4, a5⟩, ⟨a6, a7⟩, h4⟩ := id h
  obtain ⟨r1, r2, r3, r4⟩ := hr
  have wr : w32 st.1 = st.1 := w32_of (by omega)
  unfold rdTellAt
  by_cases c : st.1 ≠ 0
  · refine ⟨A, vc_Source_tellAt _ _ ?_, by rw [if_pos c]; exact h⟩
    rw [a2, wr]
    exact ⟨fun _ => ⟨rfl, rfl⟩, fun n => absurd c n⟩
  · have c0 : st.1 = 0 := by omega
    have q2 : ∀ (a : Nat) (e : Int), (wI (wI A 9 5 k) 9 6 p).1 a e = if a = 9 ∧ e = 6 then p else if a = 9 ∧ e = 5 then k else A.1 a e := fun _ _ => rfl
    refine ⟨wI (wI A 9 5 k) 9 6 p, vc_Source_tellAt _ _ ?_, ?_⟩
    · rw [a2, wr]
      exact ⟨fun n => absurd n c, fun _ S1 f1 S2 f2 => ⟨rfl, by subst f1 f2; rfl⟩⟩
    · rw [if_neg c]
      refine ⟨h1, ⟨?_, ?_, ?_, ?_, ?_⟩, ⟨?_, fun e e0 e1 => ?_⟩, fun a e n1 n2 n3 => ?_⟩
      · exact fun _ => by rw [q2, if_neg (by decide), if_neg (by decide), a1 c0]
      · rw [q2, if_neg (by decide), if_pos ⟨rfl, rfl⟩]
      · rw [q2, if_pos ⟨rfl, rfl⟩]
      · exact fun _ => by rw [q2, if_neg (by decide), if_neg (by decide), a4 c0]
      · exact fun _ => ⟨by rw [q2, if_neg (by decide), if_neg (by decide), (a5 c0).1]; rfl, by rw [q2, if_neg (by decide), if_neg (by decide), (a5 c0).2.1], fun y => by rw [q2, if_neg (by decide), if_neg (by decide), (a5 c0).2.2 y]⟩
      · rw [q2, if_neg (by omega), if_neg (by omega), a6]
      · rw [q2, if_neg (by omega), if_neg (by omega), a7 e e0 e1]
      · rw [q2, if_neg (by omega), if_neg (by omega), h4 a e n1 n2 n3]
theorem sb_tell {st : Rd} {t : Int → Int} {k u : Int} (hr : rdR en st) (ho : (300 < o ∨ o = 7)) (h : CB S A o en t st u) : ∃ A', EV q 124 0 [some (.ref 9), some (vI k)] [] A none A' ∧ CB S A' o en t (rdTell k st) u := by
  obtain ⟨h1, ⟨a1, a2, a3, a4, a5⟩, ⟨a6, a7⟩, h4⟩ := id h
  obtain ⟨r1, r2, r3, r4⟩ := hr
  have wr : w32 st.1 = st.1 := w32_of (by omega)
  unfold rdTell rdTellAt
  by_cases c : st.1 ≠ 0
  · refine ⟨A, vc_Source_tell _ ?_, by rw [if_pos c]; exact h⟩
    rw [a2, wr]
    exact ⟨fun _ => ⟨rfl, rfl⟩, fun n => absurd c n⟩
  · have c0 : st.1 = 0 := by omega
    have q2 : ∀ (a : Nat) (e : Int), (wI (wI A 9 5 k) 9 6 (rdL st)).1 a e = if a = 9 ∧ e = 6 then rdL st else if a = 9 ∧ e = 5 then k else A.1 a e := fun _ _ => rfl
    refine ⟨wI (wI A 9 5 k) 9 6 (rdL st), vc_Source_tell _ ?_, ?_⟩
    · rw [a2, wr]
      refine ⟨fun n => absurd n c, fun _ S1 f1 S2 f2 => ⟨rfl, ?_⟩⟩
      have e : S1.1 9 4 = rdL st := by rw [f1, rI_I, if_neg (by decide), (a5 c0).1]
      rw [e] at f2
      subst f1 f2
      rfl
    · rw [if_neg c]
      refine ⟨h1, ⟨?_, ?_, ?_, ?_, ?_⟩, ⟨?_, fun e e0 e1 => ?_⟩, fun a e n1 n2 n3 => ?_⟩
      · exact fun _ => by rw [q2, if_neg (by decide), if_neg (by decide), a1 c0]
      · rw [q2, if_neg (by decide), if_pos ⟨rfl, rfl⟩]
      · rw [q2, if_pos ⟨rfl, rfl⟩]
      · exact fun _ => by rw [q2, if_neg (by decide), if_neg (by decide), a4 c0]
      · exact fun _ => ⟨by rw [q2, if_neg (by decide), if_neg (by decide), (a5 c0).1]; rfl, by rw [q2, if_neg (by decide), if_neg (by decide), (a5 c0).2.1], fun y => by rw [q2, if_neg (by decide), if_neg (by decide), (a5 c0).2.2 y]⟩
      · rw [q2, if_neg (by omega), if_neg (by omega), a6]
      · rw [q2, if_neg (by omega), if_neg (by omega), a7 e e0 e1]
      · rw [q2, if_neg (by omega), if_neg (by omega), h4 a e n1 n2 n3]
theorem sp_tellAt {st : Rd} {k p : Int} (hr : rdR en st) (ho : (300 < o ∨ o = 7)) (h : CR S A o en st) : ∃ A', EV q 126 0 [some (.ref 9), some (vI k), some (vI p)] [] A none A' ∧ CR S A' o en (rdTellAt k p st) := sb_tellAt hr ho h
theorem sp_tell {st : Rd} {k : Int} (hr : rdR en st) (ho : (300 < o ∨ o = 7)) (h : CR S A o en st) : ∃ A', EV q 124 0 [some (.ref 9), some (vI k)] [] A none A' ∧ CR S A' o en (rdTell k st) := sb_tell hr ho h
/-- take() -/
theorem sp_take {st : Rd} {t : Int → Int} (hC : RdC S o en t) (hr : rdR en st) (h : CR S A o en st) : ∃ A', EV q 118 0 [some (.ref 9)] [] A (some (vI (rdTake t en st).1)) A' ∧ CR S A' o en (rdTake t en st).2 := by
  obtain ⟨h1, ⟨a1, a2, a3, a4, a5⟩, ⟨a6, a7⟩, h4⟩ := id h
  obtain ⟨r1, r2, r3, r4⟩ := hr
  obtain ⟨c1, c2, c3, c4, c5⟩ := hC
  have wr : w32 st.1 = st.1 := w32_of (by omega)
  have wn : w32 st.2.2.1 = st.2.2.1 := w32_of (by omega)
  have we : w32 en = en := w32_of (by omega)
  have w6 : w32 ((6000 : Nat) : Int) = 6000 := by decide
  unfold rdTake
  by_cases c : st.1 ≠ 0
  · refine ⟨A, vc_Source_take ?_, by rw [if_pos c]; exact h⟩
    rw [a2, wr, if_pos c]
    exact ⟨fun n => absurd n c, fun _ => ⟨rfl, rfl⟩⟩
  · have c0 : st.1 = 0 := by omega
    by_cases d : st.2.2.1 < en
    · obtain ⟨g1, g2⟩ := c5 st.2.2.1 r2.1 d
      have q2 : ∀ (a : Nat) (e : Int), (wI (wI A 9 4 st.2.2.1) 9 3 (st.2.2.1 + 1)).1 a e = if a = 9 ∧ e = 3 then st.2.2.1 + 1 else if a = 9 ∧ e = 4 then st.2.2.1 else A.1 a e := fun _ _ => rfl
      have ev : (wI (wI A 9 4 st.2.2.1) 9 3 (st.2.2.1 + 1)).1 2 st.2.2.1 = t st.2.2.1 := by rw [q2, if_neg (by omega), if_neg (by omega), h4 _ _ (by omega) (by omega) (by omega), g2]
      refine ⟨wI (wI A 9 4 st.2.2.1) 9 3 (st.2.2.1 + 1), vc_Source_take ?_, ?_⟩
      · rw [if_neg c, if_pos d, a2, wr, a4 c0, wn, a1 c0, we, w6]
        refine ⟨fun _ => ⟨fun n => absurd n (by omega), fun _ => ⟨fun n => absurd n (by omega), fun _ => ⟨fun _ S1 f1 S2 f2 => ?_, fun n => absurd (by omega) n⟩⟩⟩, fun n => absurd c0 n⟩
        have e1 : S1.1 9 3 = st.2.2.1 := by rw [f1, rI_I, if_neg (by decide), a4 c0]
        rw [e1] at f2
        subst f1 f2
        have e4 : (wI (wI A 9 4 st.2.2.1) 9 3 (st.2.2.1 + 1)).1 9 4 = st.2.2.1 := by rw [q2, if_neg (by decide), if_pos ⟨rfl, rfl⟩]
        rw [e4, wn, ev]
        exact ⟨by omega, rfl, rfl⟩
      · rw [if_neg c, if_pos d]
        refine ⟨h1, ⟨?_, ?_, by rw [q2, if_neg (by decide), if_neg (by decide), a3], ?_, ?_⟩, ⟨?_, fun e e0 e1 => ?_⟩, fun a e n1 n2 n3 => ?_⟩
        · exact fun _ => by rw [q2, if_neg (by decide), if_neg (by decide), a1 c0]
        · rw [q2, if_neg (by decide), if_neg (by decide), a2]
        · exact fun _ => by rw [q2, if_pos ⟨rfl, rfl⟩]
        · refine fun _ => ⟨?_, by rw [q2, if_neg (by decide), if_neg (by decide), (a5 c0).2.1], fun y => absurd y (by decide)⟩
          rw [q2, if_neg (by decide), if_pos ⟨rfl, rfl⟩]
          show st.2.2.1 = if st.2.2.1 + 1 ≤ 0 then 0 else st.2.2.1 + 1 - 1
          rw [if_neg (by omega)]
          omega
        · rw [q2, if_neg (by omega), if_neg (by omega), a6]
        · rw [q2, if_neg (by omega), if_neg (by omega), a7 e e0 e1]
        · rw [q2, if_neg (by omega), if_neg (by omega), h4 a e n1 n2 n3]
    · have q2 : ∀ (a : Nat) (e : Int), (wI (wI A 9 5 1) 9 6 en).1 a e = if a = 9 ∧ e = 6 then en else if a = 9 ∧ e = 5 then 1 else A.1 a e := fun _ _ => rfl
      have k39 : EV q 118 39 [some (.ref 9)] [] A (some (vI 0)) (wI (wI A 9 5 1) 9 6 en) := vc_Source_take_39 (fun S1 f1 S2 f2 => ⟨rfl, by
        have e : S1.1 9 2 = en := by rw [f1, rI_I, if_neg (by decide), a1 c0]
        rw [e] at f2
        subst f1 f2
        rfl⟩)
      refine ⟨wI (wI A 9 5 1) 9 6 en, vc_Source_take ?_, ?_⟩
      · rw [if_neg c, if_neg d, a2, wr, a4 c0, wn, a1 c0, we, w6]
        exact ⟨fun _ => ⟨fun n => absurd n (by omega), fun _ => ⟨fun _ => k39, fun n => absurd (by omega) n⟩⟩, fun n => absurd c0 n⟩
      · rw [if_neg c, if_neg d]
        refine ⟨h1, ⟨?_, ?_, ?_, ?_, ?_⟩, ⟨?_, fun e e0 e1 => ?_⟩, fun a e n1 n2 n3 => ?_⟩
        · exact fun y => absurd (show (1 : Int) = 0 from y) (by decide)
        · rw [q2, if_neg (by decide), if_pos ⟨rfl, rfl⟩]
        · rw [q2, if_pos ⟨rfl, rfl⟩]
        · exact fun y => absurd (show (1 : Int) = 0 from y) (by decide)
        · exact fun y => absurd (show (1 : Int) = 0 from y) (by decide)
        · rw [q2, if_neg (by omega), if_neg (by omega), a6]
        · rw [q2, if_neg (by omega), if_neg (by omega), a7 e e0 e1]
        · rw [q2, if_neg (by omega), if_neg (by omega), h4 a e n1 n2 n3]
end Reader
