/-! THE READER begins -/
section Reader6
variable {q : Nat × (Nat → Int32)} {S B : ms} {o : Nat} {x : Int}
/-- the memory over which the class's reader begins -/
def BgC (S : ms) (o : Nat) (x : Int) : ms := wI (wI (wI (CL (wR S 9 1 o) o) 9 2 x) 9 7 0) 9 8 0
theorem BgC_at (a : Nat) (k : Int) : (BgC S o x).1 a k = if a = 9 ∧ k = 8 then 0 else if a = 9 ∧ k = 7 then 0 else if a = 9 ∧ k = 2 then x else (CL S o).1 a k := rfl
theorem BgC_o : (BgC S o x).2.2 9 1 = o := by
  show (if 9 = 9 ∧ (1 : Int) = 1 then o else S.2.2 9 1) = o
  rw [if_pos ⟨rfl, rfl⟩]
def st0 : Rd := (0, 0, 0, 0, fun _ => 0)
theorem rdR_0 {en : Int} (h : 0 ≤ en) : rdR en st0 := ⟨(by decide : (0 : Int) ≤ 0 ∧ (0 : Int) < 1000), ⟨Int.le_refl _, h⟩, (by decide : (0 : Int) ≤ 0 ∧ (0 : Int) ≤ 12000), fun k k0 k1 => absurd (show k < (0 : Int) from k1) (by omega), fun _ => rfl⟩
/-- begin(size, row, false) -/
theorem sp_begin (ho : isRow o 12000) (h3 : (300 < o ∨ o = 7)) (hx : 0 ≤ x ∧ x ≤ 6000) : ∃ A, EV q 115 0 [some (.ref 9), some (vI x), some (.ref o), some (vI 0)] [] S none A ∧ CR (BgC S o x) A o x st0 := by
  have wx : w32 x = x := w32_of (by omega)
  have mx : min (w32 x) (w32 ((6000 : Nat) : Int)) = x := by
    rw [wx, show w32 ((6000 : Nat) : Int) = 6000 by decide]
    omega
  have cl := sp_clear (q := q) (S := wR S 9 1 o) ho
  let A := wI (wI (wI (wI (wI (wI (wI (CL (wR S 9 1 o) o) 9 2 x) 9 3 0) 9 4 0) 9 5 0) 9 6 0) 9 7 0) 9 8 0
  have q2 : ∀ (a : Nat) (k : Int), A.1 a k = if a = 9 ∧ k = 8 then 0 else if a = 9 ∧ k = 7 then 0 else if a = 9 ∧ k = 6 then 0 else if a = 9 ∧ k = 5 then 0 else if a = 9 ∧ k = 4 then 0 else if a = 9 ∧ k = 3 then 0 else if a = 9 ∧ k = 2 then x else (CL S o).1 a k := fun _ _ => rfl
  refine ⟨A, vc_Source_begin _ _ o 12000 ho (fun S1 f1 => ?_), rfl, ⟨?_, ?_, ?_, ?_, ?_⟩, ⟨?_, fun k k0 k1 => absurd (show k < (0 : Int) from k1) (by omega)⟩, fun a k n1 n2 n3 => ?_⟩
  · subst f1
    refine ⟨o, 12000, ?_, ho, _, cl, fun S7 f7 S8 f8 S9 f9 S10 f10 S11 f11 => ⟨Or.inl rfl, fun S13 f13 S14 f14 => ⟨rfl, ?_⟩⟩⟩
    · show (if 9 = 9 ∧ (1 : Int) = 1 then o else S.2.2 9 1) = o
      rw [if_pos ⟨rfl, rfl⟩]
    · rw [mx] at f7
      subst f7 f8 f9 f10 f11 f13 f14
      rfl
  · exact fun _ => by rw [q2, if_neg (by decide), if_neg (by decide), if_neg (by decide), if_neg (by decide), if_neg (by decide), if_neg (by decide), if_pos ⟨rfl, rfl⟩]
  · rw [q2, if_neg (by decide), if_neg (by decide), if_neg (by decide), if_pos ⟨rfl, rfl⟩]
    rfl
  · rw [q2, if_neg (by decide), if_neg (by decide), if_pos ⟨rfl, rfl⟩]
    rfl
  · exact fun _ => by rw [q2, if_neg (by decide), if_neg (by decide), if_neg (by decide), if_neg (by decide), if_neg (by decide), if_pos ⟨rfl, rfl⟩]; rfl
  · exact fun _ => ⟨by rw [q2, if_neg (by decide), if_neg (by decide), if_neg (by decide), if_neg (by decide), if_pos ⟨rfl, rfl⟩]; rfl, by rw [q2, if_pos ⟨rfl, rfl⟩]; rfl, fun y => absurd y (by decide)⟩
  · rw [q2, if_neg (by omega), if_neg (by omega), if_neg (by omega), if_neg (by omega), if_neg (by omega), if_neg (by omega), if_neg (by omega), CL_1]
    rfl
  · rw [q2, BgC_at]
    by_cases y7 : a = 9 ∧ k = 7
    · rw [if_neg (show ¬ (a = 9 ∧ k = 8) by omega), if_neg (show ¬ (a = 9 ∧ k = 8) by omega), if_pos y7, if_pos y7]
    · rw [if_neg (show ¬ (a = 9 ∧ k = 8) by omega), if_neg (show ¬ (a = 9 ∧ k = 8) by omega), if_neg y7, if_neg y7, if_neg (show ¬ (a = 9 ∧ k = 6) by omega), if_neg (show ¬ (a = 9 ∧ k = 5) by omega), if_neg (show ¬ (a = 9 ∧ k = 4) by omega), if_neg (show ¬ (a = 9 ∧ k = 3) by omega), if_neg (show ¬ (a = 9 ∧ k = 2) by omega)]
/-- the memory over which the reference's reader begins -/
def BgM (B : ms) (x : Int) : ms := wI (wI (wI (wI (wR B 367 13 368) 367 18 0) 367 14 0) 367 15 x) 367 17 0
theorem BgM_at (a : Nat) (k : Int) : (BgM B x).1 a k = if a = 367 ∧ k = 17 then 0 else if a = 367 ∧ k = 15 then x else if a = 367 ∧ k = 14 then 0 else if a = 367 ∧ k = 18 then 0 else B.1 a k := rfl
theorem BgM_r : (BgM B x).2.2 367 13 = 368 := by
  show (if 367 = 367 ∧ (13 : Int) = 13 then 368 else B.2.2 367 13) = 368
  rw [if_pos ⟨rfl, rfl⟩]
/-- start() -/
theorem md_start (hx : B.1 367 2 = x) : ∃ B', EV q 330 0 [some (.ref 367)] [] B none B' ∧ MR (BgM B x) B' x st0 := by
  let T := wI (wI (wI (wI (wR (wI (wI (wI (wI B 367 19 0) 367 20 0) 367 22 0) 367 18 0) 367 13 368) 367 14 0) 367 16 0) 367 15 x) 367 17 0
  have q2 : ∀ (a : Nat) (k : Int), T.1 a k = if a = 367 ∧ k = 17 then 0 else if a = 367 ∧ k = 15 then x else if a = 367 ∧ k = 16 then 0 else if a = 367 ∧ k = 14 then 0 else if a = 367 ∧ k = 18 then 0 else if a = 367 ∧ k = 22 then 0 else if a = 367 ∧ k = 20 then 0 else if a = 367 ∧ k = 19 then 0 else B.1 a k := fun _ _ => rfl
  refine ⟨T, vc_MD_start (fun S1 f1 S2 f2 S3 f3 S4 f4 => ?_), rfl, ⟨?_, ?_, ?_, ?_, ?_⟩, ⟨?_, fun k k0 k1 => absurd (show k < (0 : Int) from k1) (by omega)⟩, fun a k n1 n2 => ?_⟩
  · have e : S4.1 367 2 = x := by rw [f4, rI_I, if_neg (by decide), f3, rI_I, if_neg (by decide), f2, rI_I, if_neg (by decide), f1, rI_I, if_neg (by decide), hx]
    rw [e]
    refine ⟨T, vc_MD_readFrom _ _ 368 6000 rfl (fun V1 g1 V2 g2 V3 g3 V4 g4 V5 g5 => ⟨rfl, ?_⟩), rfl, rfl⟩
    subst f1 f2 f3 f4 g1 g2 g3 g4 g5
    rfl
  · exact fun _ => by rw [q2, if_neg (by decide), if_pos ⟨rfl, rfl⟩]
  · exact fun _ => by rw [q2, if_pos ⟨rfl, rfl⟩]
  · rw [q2, if_neg (by decide), if_neg (by decide), if_neg (by decide), if_neg (by decide), if_neg (by decide), if_neg (by decide), if_neg (by decide), if_pos ⟨rfl, rfl⟩]
    rfl
  · rw [q2, if_neg (by decide), if_neg (by decide), if_neg (by decide), if_neg (by decide), if_neg (by decide), if_neg (by decide), if_pos ⟨rfl, rfl⟩]
    rfl
  · exact fun _ => by rw [q2, if_neg (by decide), if_neg (by decide), if_pos ⟨rfl, rfl⟩]; rfl
  · rw [q2, if_neg (by decide), if_neg (by decide), if_neg (by decide), if_neg (by decide), if_neg (by decide), if_pos ⟨rfl, rfl⟩]
    rfl
  · have m17 : ¬ (a = 367 ∧ k = 17) := by omega
    have m15 : ¬ (a = 367 ∧ k = 15) := by omega
    rw [q2, BgM_at, if_neg m17, if_neg m17, if_neg m15, if_neg m15, if_neg (show ¬ (a = 367 ∧ k = 16) by omega)]
    by_cases y3 : a = 367 ∧ k = 14
    · rw [if_pos y3, if_pos y3]
    · rw [if_neg y3, if_neg y3]
      by_cases y4 : a = 367 ∧ k = 18
      · rw [if_pos y4, if_pos y4]
      · rw [if_neg y4, if_neg y4, if_neg (by omega), if_neg (by omega), if_neg (by omega)]
end Reader6
