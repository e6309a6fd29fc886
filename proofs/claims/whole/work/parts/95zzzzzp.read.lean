/-! read: the three kinds; the reference's copies -/
section ReaP
variable {q : Nat × (Nat → Int32)} {x : Int} {t : Int → Int}
def JR (q : Nat × (Nat → Int32)) (x : Int) (t : Int → Int) (sh : Nat) (a : Int) : Prop := ∃ (n' : Nat) (E' : Nat → En) (st' : Rd), rdR x st' ∧ n' ≤ 16 ∧ (∀ e : Nat, e < n' → EnOk (E' e)) ∧ (∀ S A : ms, S.1 9 7 = 0 → S.2.2 9 1 = 7 → TC S x t → CodC S 31 288 flF → CodC S 42 32 (fun _ => 5) → S.1 sh 4 = 0 → S.2.2 0 14 = sh → CR S A 7 x st0 → ∃ S1 A1, EX (fun a k => xSh sh a k ∨ XCc a k) S S1 ∧ CW S1 A1 x st' ∧ ShC S1 sh n' E' ∧ ∀ (R : Option Value) (T : ms), EV q 192 107 [some (.ref 0), some (vI a), none] [] A1 R T → ((w32 a = 11) → ∃ (o7 : Nat), A.2.2 0 14 = o7 ∧ isShelf o7 ∧ ∃ (S10 : ms), EV q 193 0 [some (.ref o7), some (.ref 9), none, none] [] A none S10 ∧ EV q 192 107 [some (.ref 0), some (vI a), none] [] S10 R T) ∧ ((w32 a = 12) → ∃ (o12 : Nat), A.2.2 0 14 = o12 ∧ isShelf o12 ∧ ∃ (S15 : ms), EV q 199 0 [some (.ref o12), some (.ref 9), none, none] [] A none S15 ∧ EV q 192 107 [some (.ref 0), some (vI a), none] [] S15 R T) ∧ ((¬ w32 a = 11) → (¬ w32 a = 12) → ∃ (o17 : Nat), A.2.2 0 14 = o17 ∧ isShelf o17 ∧ ∃ (S20 : ms), EV q 203 0 [some (.ref o17), some (.ref 9), none, none, none, none, none, none] [] A none S20 ∧ EV q 192 107 [some (.ref 0), some (vI a), none] [] S20 R T)) ∧ ∀ S B : ms, S.1 367 18 = 0 → TbK S → RQ S → S.2.2 367 13 = 368 → TM S x t → S.1 367 2 = x → S.1 367 95 = 0 → MR S B x st0 → ∃ S1 B1, EY (fun a k => xSi a k ∨ XBm a k ∨ (a = 367 ∧ k = 14)) S S1 ∧ MWl S1 B1 st' ∧ TbK S1 ∧ ShM S1 n' E' ∧ ∀ (R : Option Value) (T : ms), EV q 392 58 [some (.ref 367), some (vI a), none, none] [] B1 R T → ((¬ w32 a = 11) → ((¬ w32 a = 12) → ∃ (S8 : ms), EV q 400 0 [some (.ref 367), none, none, none, none, none, none, none, none, none, none, none, none, none] [] B none S8 ∧ EV q 392 58 [some (.ref 367), some (vI a), none, none] [] S8 R T) ∧ ((¬ (¬ w32 a = 12)) → ∃ (S10 : ms), EV q 398 0 [some (.ref 367), none, none, none, none, none, none, none, none, none, none, none] [] B none S10 ∧ EV q 392 58 [some (.ref 367), some (vI a), none, none] [] S10 R T)) ∧ ((¬ (¬ w32 a = 11)) → ∃ (S12 : ms), EV q 393 0 [some (.ref 367), none, none, none, none, none, none, none, none, none, none, none, none, none, none, none, none, none] [] B none S12 ∧ EV q 392 58 [some (.ref 367), some (vI a), none, none] [] S12 R T)
theorem jr_all {sh : Nat} {a : Int} (hs : isSh sh) (hx : 0 ≤ x ∧ x ≤ 6000) (ht : ∀ k : Int, 0 ≤ k → k < x → 0 ≤ t k ∧ t k < 256) (ha : 11 ≤ a ∧ a ≤ 13) : JR q x t sh a := by
  have hsl := isSh_is hs
  have e : a = 11 ∨ a = 12 ∨ a = 13 := by omega
  rcases e with e | e | e <;> subst e
  · obtain ⟨n', E', st', i1, i2, i3, i4, i5⟩ := rd_tape (q := q) (t := t) hs hx ht
    refine ⟨n', E', st', i1, i2, i3, fun S A a1 a2 a3 a4 a5 a6 a7 a8 => ?_, fun S B b1 b2 b3 b4 b5 b6 b7 b8 => ?_⟩
    · obtain ⟨S1, A1, k1, k2, k3, k4⟩ := i4 S A a1 a2 a3 a4 a5 a6 a8
      exact ⟨S1, A1, k1, k2, k3, fun R T k => ⟨fun _ => ⟨sh, by rw [a8.1]; exact a7, hsl, A1, k4, k⟩, fun y => absurd y (by decide), fun y => absurd (by decide) y⟩⟩
    · obtain ⟨S1, B1, k1, k2, k3, k4, k5⟩ := i5 S B b1 b2 b3 b4 b5 b6 b7 b8
      exact ⟨S1, B1, k1, k2, k3, k4, fun R T k => cNN (by decide) ⟨B1, k5, k⟩⟩
  · obtain ⟨n', E', st', i1, i2, i3, i4, i5⟩ := rd_bench (q := q) (t := t) hs hx ht
    refine ⟨n', E', st', i1, i2, i3, fun S A a1 a2 a3 a4 a5 a6 a7 a8 => ?_, fun S B b1 b2 b3 b4 b5 b6 b7 b8 => ?_⟩
    · obtain ⟨S1, A1, k1, k2, k3, k4⟩ := i4 S A a1 a2 a3 a4 a5 a6 a8
      exact ⟨S1, A1, k1, k2, k3, fun R T k => ⟨fun y => absurd y (by decide), fun _ => ⟨sh, by rw [a8.1]; exact a7, hsl, A1, k4, k⟩, fun _ y => absurd (by decide) y⟩⟩
    · obtain ⟨S1, B1, k1, k2, k3, k4, k5⟩ := i5 S B b1 b2 b3 b4 b5 b6 b7 b8
      exact ⟨S1, B1, k1, k2, k3, k4, fun R T k => cY (by decide) (cNN (by decide) ⟨B1, k5, k⟩)⟩
  · obtain ⟨n', E', st', i1, i2, i3, i4, i5⟩ := rd_box (q := q) (t := t) hs hx ht
    refine ⟨n', E', st', i1, i2, i3, fun S A a1 a2 a3 a4 a5 a6 a7 a8 => ?_, fun S B b1 b2 b3 b4 b5 b6 b7 b8 => ?_⟩
    · obtain ⟨S1, A1, k1, k2, k3, k4⟩ := i4 S A a1 a2 a3 a4 a5 a6 a8
      exact ⟨S1, A1, k1, k2, k3, fun R T k => ⟨fun y => absurd y (by decide), fun y => absurd y (by decide), fun _ _ => ⟨sh, by rw [a8.1]; exact a7, hsl, A1, k4, k⟩⟩⟩
    · obtain ⟨S1, B1, k1, k2, k3, k4, k5⟩ := i5 S B b1 b2 b3 b4 b5 b6 b7 b8
      exact ⟨S1, B1, k1, k2, k3, k4, fun R T k => cY (by decide) (cY (by decide) ⟨B1, k5, k⟩)⟩
theorem sp_ftW {S A : ms} {st : Rd} (n : Int) (h : CW S A x st) : EV q 174 0 [some (.ref 0), some (vI n)] [] A none (FTc A st n) := by
  obtain ⟨-, ⟨-, a2, a3⟩, -⟩ := h
  refine vc_PH_tellFault _ (fun S1 f1 S2 f2 S3 f3 => ⟨rfl, ?_⟩)
  rw [a2] at f1
  have e : S1.1 9 6 = st.2.1 := by rw [f1, rI_I, if_neg (by decide), a3]
  rw [e] at f2
  subst f1 f2 f3
  rfl
theorem md_ftW {S B : ms} {st : Rd} (n : Int) (hr : rdR x st) (h : MWl S B st) : EV q 368 0 [some (.ref 367), some (vI n)] [] B (some (vI (-10 - st.1))) (FTm B st n) := by
  obtain ⟨-, ⟨a2, a3⟩, -⟩ := h
  have wr : w32 st.1 = st.1 := w32_of (by have := hr.1; omega)
  refine vc_MD_tellFault _ (fun S1 f1 => ?_)
  rw [a2] at f1
  have e19 : S1.1 367 19 = st.1 := by rw [f1, rI_I, if_neg (by decide), a2]
  have e20 : S1.1 367 20 = st.2.1 := by rw [f1, rI_I, if_neg (by decide), a3]
  have fin : ∀ y0 : Int, y0 = st.2.1 → EV q 368 24 [some (.ref 367), some (vI n)] [vI y0, .ref 367] S1 (some (vI (-10 - st.1))) (FTm B st n) := by
    intro y0 ey
    refine vc_MD_tellFault_24 _ _ (fun S2 f2 S3 f3 => ⟨?_, ?_⟩)
    · have e : S3.1 367 19 = st.1 := by rw [f3, rI_I, if_neg (by decide), f2, rI_I, if_neg (by decide), e19]
      rw [e]
    · rw [ey] at f2
      subst f1 f2 f3
      rfl
  rw [e19, wr, e20]
  exact ⟨fun _ => fin _ rfl, fun c => fin 0 (hr.2.2.2.2 (Classical.not_not.mp c)).symm⟩
theorem md_rd86 {n' : Nat} {x1 x2 : Int} (hn : n' ≤ 16) : ∀ (d i : Nat) (V : ms), i + d = n' → V.1 367 88 = n' → ∃ V1, EX (fun a _ => a = 420 ∨ a = 421 ∨ a = 422 ∨ a = 424) V V1 ∧ (∀ k : Int, k < i → ∀ a, V1.1 a k = V.1 a k) ∧ (∀ k : Int, i ≤ k → k < n' → V1.1 420 k = V.1 426 k ∧ V1.1 421 k = V.1 427 k ∧ V1.1 422 k = V.1 428 k ∧ V1.1 424 k = V.1 430 k) ∧ ∀ (R : Option Value) (T : ms), EV q 392 150 [some (.ref 367), some (vI x1), some (vI x2), some (vI 0)] [] V1 R T → EV q 392 86 [some (.ref 367), some (vI x1), some (vI x2), some (vI i)] [] V R T := by
  have wn : Unit → w32 ((n' : Nat) : Int) = n' := fun _ => w32_of (by omega)
  intro d
  induction d with
  | zero =>
    intro i V hi hV
    have e : i = n' := by omega
    subst e
    refine ⟨V, EX.refl _ V, fun _ _ _ => rfl, fun k k0 k1 => absurd k0 (by omega), fun R T k => vc_MD_read_86 _ _ _ ?_⟩
    rw [hV]
    exact cY (Int.le_refl _) k
  | succ d ih =>
    intro i V hi hV
    have wi : Unit → w32 ((i : Nat) : Int) = i := fun _ => w32_of (by omega)
    have ei : ((i + 1 : Nat) : Int) = (i : Int) + 1 := by omega
    obtain ⟨V0, eV⟩ : ∃ V0, V0 = wI (wI (wI (wI V 420 i (V.1 426 i)) 421 i (V.1 427 i)) 422 i (V.1 428 i)) 424 i (V.1 430 i) := ⟨_, rfl⟩
    have q0 : ∀ (a : Nat) (k : Int), V0.1 a k = if a = 424 ∧ k = i then V.1 430 i else if a = 422 ∧ k = i then V.1 428 i else if a = 421 ∧ k = i then V.1 427 i else if a = 420 ∧ k = i then V.1 426 i else V.1 a k := fun a k => by rw [eV]; rfl
    have qn : ∀ (a : Nat) (k : Int), ¬ ((a = 420 ∨ a = 421 ∨ a = 422 ∨ a = 424) ∧ k = i) → V0.1 a k = V.1 a k := fun a k h => by rw [q0, if_neg (by omega), if_neg (by omega), if_neg (by omega), if_neg (by omega)]
    obtain ⟨V1, k1, k2, k3, k4⟩ := ih (i + 1) V0 (by omega) (by rw [qn _ _ (by omega)]; exact hV)
    refine ⟨V1, ⟨by rw [k1.1, eV]; rfl, fun a k n => by rw [k1.2 a k n, qn a k (by omega)]⟩, fun k hk a => by rw [k2 k (by omega), qn a k (by omega)], fun k k0 k1' => ?_, fun R T k => vc_MD_read_86 _ _ _ ?_⟩
    · by_cases e : k = i
      · subst e
        rw [k2 i (by omega), k2 i (by omega), k2 i (by omega), k2 i (by omega), q0 420, q0 421, q0 422, q0 424]
        exact ⟨by rw [if_neg (by omega), if_neg (by omega), if_neg (by omega), if_pos ⟨rfl, rfl⟩], by rw [if_neg (by omega), if_neg (by omega), if_pos ⟨rfl, rfl⟩], by rw [if_neg (by omega), if_pos ⟨rfl, rfl⟩], by rw [if_pos ⟨rfl, rfl⟩]⟩
      · have := k3 k (by omega) k1'
        rw [qn 426 k (by omega), qn 427 k (by omega), qn 428 k (by omega), qn 430 k (by omega)] at this
        exact this
    · have k5 := k4 R T k
      rw [ei] at k5
      rw [hV, wn (), wi ()]
      refine cNo (by omega) ⟨by omega, by omega, fun S3 f3 => ⟨by omega, by omega, fun S6 f6 => ⟨by omega, by omega, fun S9 f9 => ⟨by omega, by omega, fun S12 f12 => ?_⟩⟩⟩⟩
      have e3 : S3.1 427 i = V.1 427 i := by rw [f3, wI_no _ (by omega)]
      rw [e3] at f6
      have e6 : S6.1 428 i = V.1 428 i := by rw [f6, wI_no _ (by omega), f3, wI_no _ (by omega)]
      rw [e6] at f9
      have e9 : S9.1 430 i = V.1 430 i := by rw [f9, wI_no _ (by omega), f6, wI_no _ (by omega), f3, wI_no _ (by omega)]
      rw [e9] at f12
      have e12 : S12 = V0 := by rw [eV, f12, f9, f6, f3]
      rw [e12]
      exact k5
theorem md_rd150 {x1 x2 : Int} : ∀ (d i : Nat) (V : ms), i + d = 1600 → ∃ V1, EX (fun a _ => a = 419) V V1 ∧ (∀ k : Int, k < i → ∀ a, V1.1 a k = V.1 a k) ∧ (∀ k : Int, i ≤ k → k < 1600 → V1.1 419 k = b8 (V.1 425 k)) ∧ ∀ (R : Option Value) (T : ms), EV q 392 177 [some (.ref 367), some (vI x1), some (vI x2), some (vI 0)] [] V1 R T → EV q 392 150 [some (.ref 367), some (vI x1), some (vI x2), some (vI i)] [] V R T := by
  intro d
  induction d with
  | zero =>
    intro i V hi
    have wi : Unit → w32 ((i : Nat) : Int) = i := fun _ => w32_of (by omega)
    refine ⟨V, EX.refl _ V, fun _ _ _ => rfl, fun k k0 k1 => absurd k0 (by omega), fun R T k => vc_MD_read_150 _ _ _ ?_⟩
    rw [wi ()]
    exact cY (by omega) k
  | succ d ih =>
    intro i V hi
    have wi : Unit → w32 ((i : Nat) : Int) = i := fun _ => w32_of (by omega)
    have ei : ((i + 1 : Nat) : Int) = (i : Int) + 1 := by omega
    obtain ⟨V1, k1, k2, k3, k4⟩ := ih (i + 1) (wI V 419 i (b8 (V.1 425 i))) (by omega)
    refine ⟨V1, ⟨k1.1, fun a k n => by rw [k1.2 a k n, wI_no _ (by omega)]⟩, fun k hk a => by rw [k2 k (by omega), wI_no _ (by omega)], fun k k0 k1' => ?_, fun R T k => vc_MD_read_150 _ _ _ ?_⟩
    · by_cases e : k = i
      · subst e
        rw [k2 i (by omega), wI_at]
      · rw [k3 k (by omega) k1', wI_no _ (by omega)]
    · have k5 := k4 R T k
      rw [ei] at k5
      rw [wi ()]
      refine cNo (by omega) ⟨by omega, by omega, fun S3 f3 => ?_⟩
      rw [f3]
      exact k5
theorem md_rd177 {x1 x2 : Int} : ∀ (d i : Nat) (V : ms), i + d = 96000 → ∃ V1, EX (fun a _ => a = 423) V V1 ∧ (∀ k : Int, k < i → ∀ a, V1.1 a k = V.1 a k) ∧ (∀ k : Int, i ≤ k → k < 96000 → V1.1 423 k = b8 (V.1 429 k)) ∧ EV q 392 177 [some (.ref 367), some (vI x1), some (vI x2), some (vI i)] [] V (some (vI (V.1 367 88))) V1 := by
  intro d
  induction d with
  | zero =>
    intro i V hi
    have wi : Unit → w32 ((i : Nat) : Int) = i := fun _ => w32_of (by omega)
    refine ⟨V, EX.refl _ V, fun _ _ _ => rfl, fun k k0 k1 => absurd k0 (by omega), vc_MD_read_177 _ _ _ ?_⟩
    rw [wi ()]
    exact cY (by omega) ⟨rfl, rfl⟩
  | succ d ih =>
    intro i V hi
    have wi : Unit → w32 ((i : Nat) : Int) = i := fun _ => w32_of (by omega)
    have ei : ((i + 1 : Nat) : Int) = (i : Int) + 1 := by omega
    obtain ⟨V1, k1, k2, k3, k4⟩ := ih (i + 1) (wI V 423 i (b8 (V.1 429 i))) (by omega)
    refine ⟨V1, ⟨k1.1, fun a k n => by rw [k1.2 a k n, wI_no _ (by omega)]⟩, fun k hk a => by rw [k2 k (by omega), wI_no _ (by omega)], fun k k0 k1' => ?_, vc_MD_read_177 _ _ _ ?_⟩
    · by_cases e : k = i
      · subst e
        rw [k2 i (by omega), wI_at]
      · rw [k3 k (by omega) k1', wI_no _ (by omega)]
    · rw [ei, wI_no _ (by omega)] at k4
      rw [wi ()]
      refine cNo (by omega) ⟨by omega, by omega, fun S3 f3 => ?_⟩
      rw [f3]
      exact k4
end ReaP
