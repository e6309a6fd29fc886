/-! CALLS ON BOTH SIDES, the plain ones: what the two halves of the memory must have alike, and what a call leaves -/
section Ops
variable {q : Nat × (Nat → Int32)} {S : ms} {a b d : Int}
/-- in(v, low, high) of the reference -/
theorem md_in (x y z : Int) : EV q 257 0 [some (vI x), some (vI y), some (vI z)] [] S (some (vI (if w32 x < w32 y then 0 else if w32 z < w32 x then 0 else 1))) S := by
  refine vc_MD_in x y z ⟨fun c => ⟨?_, rfl⟩, fun c => ⟨fun c2 => ⟨?_, rfl⟩, fun c2 => ⟨?_, rfl⟩⟩⟩
  · rw [if_pos c]
  · rw [if_neg c, if_pos c2]
  · rw [if_neg c, if_neg c2]
theorem md_in1 {x y z : Int} (h1 : w32 y ≤ w32 x) (h2 : w32 x ≤ w32 z) : EV q 257 0 [some (vI x), some (vI y), some (vI z)] [] S (some (vI 1)) S :=
  vc_MD_in x y z ⟨fun c => absurd c (by omega), fun c => ⟨fun c2 => absurd c2 (by omega), fun c2 => ⟨rfl, rfl⟩⟩⟩
theorem md_in0 {x y z : Int} (h : w32 x < w32 y ∨ w32 z < w32 x) : EV q 257 0 [some (vI x), some (vI y), some (vI z)] [] S (some (vI 0)) S :=
  vc_MD_in x y z ⟨fun c => ⟨rfl, rfl⟩, fun c => ⟨fun c2 => ⟨rfl, rfl⟩, fun c2 => absurd h (by omega)⟩⟩
/-- the reference's object but for its fields 'code': a write there changes nothing that is told -/
theorem r0 (k : Int) (h : k ≠ 0) : (wI S 367 0 0).1 367 k = S.1 367 k := by
  rw [rI_I, if_neg (fun z => h z.2)]
theorem r0a (c : Nat) (k : Int) (h : c ≠ 367) : (wI S 367 0 0).1 c k = S.1 c k := by
  rw [rI_I, if_neg (fun z => h z.1)]
/-- the TRAY: as many octets, and the same ones -/
def RT (S : ms) : Prop := (0 ≤ S.1 1 1 ∧ S.1 1 1 ≤ 6000) ∧ S.1 367 2 = S.1 1 1 ∧ ∀ k : Int, 0 ≤ k → k < S.1 1 1 → (0 ≤ S.1 2 k ∧ S.1 2 k < 256) ∧ S.1 368 k = b8 (S.1 2 k)
/-- cut(n) -/
theorem op2_ok (h : RT S) : op_2 q a b d S (fun T => T = wI S 367 0 0 ∨ (0 ≤ w32 a ∧ w32 a ≤ S.1 1 1 ∧ T = wI (wI (wI S 1 1 a) 367 0 0) 367 2 a)) := by
  obtain ⟨h1, h2, -⟩ := h
  have e1 : w32 (S.1 1 1) = S.1 1 1 := w32_of (by omega)
  by_cases c : w32 a < 0
  · refine ⟨-2, S, -2, wI S 367 0 0, vc_PH_cut a ⟨fun _ => ⟨rfl, rfl⟩, fun n => absurd c n⟩, vc_MD_cut a (fun S1 f => ?_), rfl, Or.inl rfl⟩
    subst f
    exact ⟨fun _ => ⟨rfl, rfl⟩, fun n => absurd c n⟩
  · by_cases c2 : w32 a ≤ S.1 1 1
    · refine ⟨S.1 1 1, wI S 1 1 a, S.1 1 1, wI (wI (wI S 1 1 a) 367 0 0) 367 2 a, vc_PH_cut a ⟨fun n => absurd n c, fun _ => ⟨fun _ S1 f => ⟨rfl, f.symm⟩, fun n => absurd (by rw [e1]; exact c2) n⟩⟩, vc_MD_cut a (fun S1 f => ?_), rfl, Or.inr ⟨by omega, c2, rfl⟩⟩
      subst f
      have e2 : (wI (wI S 1 1 a) 367 0 0).1 367 2 = S.1 1 1 := by
        rw [r0 2 (by decide), rI_I, if_neg (by omega), h2]
      rw [e2, e1]
      exact ⟨fun n => absurd n c, fun _ => ⟨fun _ S2 f => ⟨rfl, f.symm⟩, fun n => absurd c2 n⟩⟩
    · refine ⟨-2, S, -2, wI S 367 0 0, vc_PH_cut a ⟨fun n => absurd n c, fun _ => ⟨fun n => absurd (by rw [e1] at n; exact n) c2, fun _ => ⟨rfl, rfl⟩⟩⟩, vc_MD_cut a (fun S1 f => ?_), rfl, Or.inl rfl⟩
      subst f
      rw [r0 2 (by decide), h2, e1]
      exact ⟨fun n => absurd n c, fun _ => ⟨fun n => absurd n c2, fun _ => ⟨rfl, rfl⟩⟩⟩
theorem oct_eq {x y : Int} (h : 0 ≤ x ∧ x < 256) (e : y = b8 x) : y % 256 = x := by
  subst e
  unfold b8
  omega
/-- octet(i) -/
theorem op4_ok (h : RT S) : op_4 q a b d S (fun T => T = wI S 367 0 0) := by
  obtain ⟨h1, h2, h3⟩ := h
  have e1 : w32 (S.1 1 1) = S.1 1 1 := w32_of (by omega)
  by_cases c : w32 a < 0
  · refine ⟨-1, S, -1, wI S 367 0 0, vc_PH_octet a ⟨fun _ => vc_PH_octet_15 a ⟨rfl, rfl⟩, fun n => absurd c n⟩, vc_MD_octet a (fun S1 f => ?_), rfl, rfl⟩
    subst f
    exact ⟨fun _ => vc_MD_octet_17 a ⟨rfl, rfl⟩, fun n => absurd c n⟩
  · by_cases c2 : w32 a < S.1 1 1
    · obtain ⟨g1, g2⟩ := h3 (w32 a) (by omega) c2
      refine ⟨S.1 2 (w32 a), S, S.1 368 (w32 a) % 256, wI S 367 0 0, vc_PH_octet a ⟨fun n => absurd n c, fun _ => ⟨fun _ => ⟨by omega, rfl, rfl⟩, fun n => absurd (by rw [e1]; exact c2) n⟩⟩, vc_MD_octet a (fun S1 f => ?_), by rw [oct_eq g1 g2], rfl⟩
      subst f
      rw [r0 2 (by decide), h2, e1]
      exact ⟨fun n => absurd n c, fun _ => ⟨fun _ => ⟨by omega, by rw [r0a _ _ (by decide)], rfl⟩, fun n => absurd c2 n⟩⟩
    · refine ⟨-1, S, -1, wI S 367 0 0, vc_PH_octet a ⟨fun n => absurd n c, fun _ => ⟨fun n => absurd (by rw [e1] at n; exact n) c2, fun _ => vc_PH_octet_15 a ⟨rfl, rfl⟩⟩⟩, vc_MD_octet a (fun S1 f => ?_), rfl, rfl⟩
      subst f
      rw [r0 2 (by decide), h2, e1]
      exact ⟨fun n => absurd n c, fun _ => ⟨fun n => absurd n c2, fun _ => vc_MD_octet_17 a ⟨rfl, rfl⟩⟩⟩
/-- alter(i, v) -/
theorem op3_ok (h : RT S) (hb : -2147483648 ≤ b ∧ b < 2147483648) : op_3 q a b d S (fun T => T = wI S 367 0 0 ∨ (0 ≤ w32 a ∧ w32 a < S.1 1 1 ∧ 0 ≤ b ∧ b < 256 ∧ T = wI (wI (wI S 2 (w32 a) b) 367 0 0) 368 (w32 a) (b8 (b8 b)))) := by
  obtain ⟨h1, h2, h3⟩ := h
  have e1 : w32 (S.1 1 1) = S.1 1 1 := w32_of (by omega)
  have eb : w32 b = b := w32_of (by omega)
  by_cases c : w32 a < 0
  · refine ⟨-1, S, -1, wI S 367 0 0, vc_PH_alter a b ⟨fun _ => ⟨rfl, rfl⟩, fun n => absurd c n⟩, vc_MD_alter a b (fun S1 f => ?_), rfl, Or.inl rfl⟩
    subst f
    exact ⟨fun _ => ⟨rfl, rfl⟩, fun n => absurd c n⟩
  · by_cases c2 : w32 a < S.1 1 1
    · by_cases c3 : 0 ≤ b ∧ b ≤ 255
      · obtain ⟨g1, g2⟩ := h3 (w32 a) (by omega) c2
        refine ⟨S.1 2 (w32 a), wI S 2 (w32 a) b, S.1 368 (w32 a) % 256, wI (wI (wI S 2 (w32 a) b) 367 0 0) 368 (w32 a) (b8 (b8 b)), vc_PH_alter a b ⟨fun n => absurd n c, fun _ => ⟨fun _ => ⟨fun n => absurd n (by omega), fun _ => ⟨fun _ => ⟨by omega, by omega, fun S3 f => ⟨rfl, f.symm⟩⟩, fun n => absurd (by omega) n⟩⟩, fun n => absurd (by rw [e1]; exact c2) n⟩⟩, vc_MD_alter a b (fun S1 f => ?_), by rw [oct_eq g1 g2], Or.inr ⟨by omega, c2, by omega, by omega, rfl⟩⟩
        subst f
        have e2 : (wI (wI S 2 (w32 a) b) 367 0 0).1 367 2 = S.1 1 1 := by
          rw [r0 2 (by decide), rI_I, if_neg (by omega), h2]
        have e3 : (wI (wI S 2 (w32 a) b) 367 0 0).1 368 (w32 a) = S.1 368 (w32 a) := by
          rw [r0a _ _ (by decide), rI_I, if_neg (by omega)]
        rw [e2, e1]
        refine ⟨fun n => absurd n c, fun _ => ⟨fun _ => ⟨1, _, md_in1 (by show 0 ≤ w32 b; omega) (by show w32 b ≤ 255; omega), fun _ => ⟨by omega, by omega, fun S7 f => ⟨by rw [e3], f.symm⟩⟩, fun n => absurd (by decide) n⟩, fun n => absurd c2 n⟩⟩
      · refine ⟨-2, S, -2, wI S 367 0 0, vc_PH_alter a b ⟨fun n => absurd n c, fun _ => ⟨fun _ => ⟨fun _ => ⟨rfl, rfl⟩, fun z => ⟨fun n => absurd n (by omega), fun _ => ⟨rfl, rfl⟩⟩⟩, fun n => absurd (by rw [e1]; exact c2) n⟩⟩, vc_MD_alter a b (fun S1 f => ?_), rfl, Or.inl rfl⟩
        subst f
        rw [r0 2 (by decide), h2, e1]
        exact ⟨fun n => absurd n c, fun _ => ⟨fun _ => ⟨0, _, md_in0 (by show w32 b < 0 ∨ 255 < w32 b; omega), fun n => absurd rfl n, fun _ => ⟨rfl, rfl⟩⟩, fun n => absurd c2 n⟩⟩
    · refine ⟨-1, S, -1, wI S 367 0 0, vc_PH_alter a b ⟨fun n => absurd n c, fun _ => ⟨fun n => absurd (by rw [e1] at n; exact n) c2, fun _ => ⟨rfl, rfl⟩⟩⟩, vc_MD_alter a b (fun S1 f => ?_), rfl, Or.inl rfl⟩
      subst f
      rw [r0 2 (by decide), h2, e1]
      exact ⟨fun n => absurd n c, fun _ => ⟨fun n => absurd n c2, fun _ => ⟨rfl, rfl⟩⟩⟩
/-- fault(what) -/
theorem op13_ok (h : S.1 367 79 = S.1 0 16 ∧ S.1 367 80 = S.1 0 17 ∧ S.1 367 81 = S.1 0 18) : op_13 q a b d S (fun T => T = wI S 367 0 0) := by
  obtain ⟨h1, h2, h3⟩ := h
  let z : Int := if w32 a = 0 then S.1 0 16 else if w32 a = 1 then S.1 0 17 else if w32 a = 2 then S.1 0 18 else -2
  refine ⟨z, S, z, wI S 367 0 0, vc_PH_fault a ⟨fun c => ⟨?_, rfl⟩, fun c => ⟨?_, rfl⟩, fun c => ⟨?_, rfl⟩, fun c1 c2 c3 => ⟨?_, rfl⟩⟩, vc_MD_fault a (fun S1 f => ?_), rfl, rfl⟩
  · show some (vI (if w32 a = 0 then _ else _)) = _
    rw [if_pos c]
  · show some (vI (if w32 a = 0 then _ else if w32 a = 1 then _ else _)) = _
    rw [if_neg (by omega), if_pos c]
  · show some (vI (if w32 a = 0 then _ else if w32 a = 1 then _ else if w32 a = 2 then _ else _)) = _
    rw [if_neg (by omega), if_neg (by omega), if_pos c]
  · show some (vI (if w32 a = 0 then _ else if w32 a = 1 then _ else if w32 a = 2 then _ else _)) = _
    rw [if_neg c1, if_neg c2, if_neg c3]
  · subst f
    rw [r0 79 (by decide), r0 80 (by decide), r0 81 (by decide), h1, h2, h3]
    refine ⟨fun c => ⟨fun c2 => ⟨fun c3 => ⟨?_, rfl⟩, fun c3 => ⟨?_, rfl⟩⟩, fun c2 => ⟨?_, rfl⟩⟩, fun c => ⟨?_, rfl⟩⟩
    · show some (vI (if w32 a = 0 then _ else if w32 a = 1 then _ else if w32 a = 2 then _ else _)) = _
      rw [if_neg c, if_neg c2, if_neg c3]
    · show some (vI (if w32 a = 0 then _ else if w32 a = 1 then _ else if w32 a = 2 then _ else _)) = _
      rw [if_neg c, if_neg c2, if_pos (Classical.not_not.mp c3)]
    · show some (vI (if w32 a = 0 then _ else if w32 a = 1 then _ else if w32 a = 2 then _ else _)) = _
      rw [if_neg c, if_pos (Classical.not_not.mp c2)]
    · show some (vI (if w32 a = 0 then _ else if w32 a = 1 then _ else if w32 a = 2 then _ else _)) = _
      rw [if_pos (Classical.not_not.mp c)]
/-- store(what) -/
theorem op36_ok (h : S.1 367 123 = S.1 184 0 ∧ S.1 367 124 = S.1 184 1 ∧ S.1 367 129 = S.1 184 2) : op_36 q a b d S (fun T => T = wI S 367 0 0) := by
  obtain ⟨h1, h2, h3⟩ := h
  let z : Int := if w32 a = 0 then S.1 184 0 else if w32 a = 1 then S.1 184 1 else if w32 a = 2 then S.1 184 2 else -2
  refine ⟨z, S, z, wI S 367 0 0, vc_PH_store a ⟨fun c => ⟨?_, rfl⟩, fun c => ⟨?_, rfl⟩, fun c => ⟨?_, rfl⟩, fun c1 c2 c3 => ⟨?_, rfl⟩⟩, vc_MD_store a (fun S1 f => ?_), rfl, rfl⟩
  · show some (vI (if w32 a = 0 then _ else _)) = _
    rw [if_pos c]
  · show some (vI (if w32 a = 0 then _ else if w32 a = 1 then _ else _)) = _
    rw [if_neg (by omega), if_pos c]
  · show some (vI (if w32 a = 0 then _ else if w32 a = 1 then _ else if w32 a = 2 then _ else _)) = _
    rw [if_neg (by omega), if_neg (by omega), if_pos c]
  · show some (vI (if w32 a = 0 then _ else if w32 a = 1 then _ else if w32 a = 2 then _ else _)) = _
    rw [if_neg c1, if_neg c2, if_neg c3]
  · subst f
    rw [r0 123 (by decide), r0 124 (by decide), r0 129 (by decide), h1, h2, h3]
    refine ⟨fun c => ⟨fun c2 => ⟨fun c3 => ⟨?_, rfl⟩, fun c3 => ⟨?_, rfl⟩⟩, fun c2 => ⟨?_, rfl⟩⟩, fun c => ⟨?_, rfl⟩⟩
    · show some (vI (if w32 a = 0 then _ else if w32 a = 1 then _ else if w32 a = 2 then _ else _)) = _
      rw [if_neg c, if_neg c2, if_neg c3]
    · show some (vI (if w32 a = 0 then _ else if w32 a = 1 then _ else if w32 a = 2 then _ else _)) = _
      rw [if_neg c, if_neg c2, if_pos (Classical.not_not.mp c3)]
    · show some (vI (if w32 a = 0 then _ else if w32 a = 1 then _ else if w32 a = 2 then _ else _)) = _
      rw [if_neg c, if_pos (Classical.not_not.mp c2)]
    · show some (vI (if w32 a = 0 then _ else if w32 a = 1 then _ else if w32 a = 2 then _ else _)) = _
      rw [if_pos (Classical.not_not.mp c)]
/-- bits() -/
theorem op15_ok (h : S.1 367 83 = S.1 0 15) : op_15 q a b d S (fun T => T = wI S 367 0 0) := by
  refine ⟨S.1 0 15, S, S.1 0 15, wI S 367 0 0, vc_PH_bits ⟨rfl, rfl⟩, vc_MD_bits (fun S1 f => ?_), rfl, rfl⟩
  subst f
  rw [r0 83 (by decide), h]
  exact ⟨rfl, rfl⟩
/-- wipe(): sh is the shelf that stands -/
theorem op23_ok {sh : Nat} (hs : S.2.2 0 13 = sh) (hi : isShelf sh) (hne : sh ≠ 367) (h : S.1 367 88 = S.1 sh 4) : op_23 q a b d S (fun T => T = wI (wI (wI S sh 4 0) 367 0 0) 367 88 0) := by
  refine ⟨S.1 sh 4, wI S sh 4 0, S.1 sh 4, wI (wI (wI S sh 4 0) 367 0 0) 367 88 0, vc_PH_wipe ⟨sh, hs, hi, sh, hs, hi, fun S7 f => ⟨rfl, f.symm⟩⟩, vc_MD_wipe (fun S1 f S2 f2 => ?_), rfl, rfl⟩
  subst f f2
  have e : (wI (wI S sh 4 0) 367 0 0).1 367 88 = S.1 sh 4 := by
    rw [r0 88 (by decide), rI_I, if_neg (fun z => hne z.1.symm), h]
  exact ⟨by rw [e], rfl⟩
end Ops
