/-! where a piece ends, on both sides -/
section Piece
variable {q : Nat × (Nat → Int32)} {S : ms}
theorem and_cut (y : Nat) : y &&& 1056964608 = y / 16777216 % 64 * 16777216 := by
  apply Nat.eq_of_testBit_eq
  intro i
  have e1 : (1056964608 : Nat) = (2 ^ 6 - 1) * 2 ^ 24 := by decide
  have e2 : y / 16777216 % 64 * 16777216 = (y / 2 ^ 24 % 2 ^ 6) * 2 ^ 24 := rfl
  rw [Nat.testBit_and, e1, e2, Nat.testBit_mul_two_pow, Nat.testBit_mul_two_pow, Nat.testBit_mod_two_pow, Nat.testBit_div_two_pow, Nat.testBit_two_pow_sub_one]
  by_cases c : 24 ≤ i
  · rw [show i - 24 + 24 = i by omega]
    cases y.testBit i <;> simp
  · have : decide (24 ≤ i) = false := by simp; omega
    simp [this]
theorem cut_iff (h : Int) : w32 (bA h 1056964608) = 1056964608 ↔ w32 (w32 h / 16777216 % 64) = 63 := by
  have e1 : bA h 1056964608 = (((h % 4294967296).toNat / 16777216 % 64 * 16777216 : Nat) : Int) := by
    unfold bA
    rw [show ((1056964608 : Int) % 4294967296).toNat = 1056964608 by decide, and_cut]
  rw [e1]
  unfold w32
  omega
theorem pe_loop {n0 fr : Int} (h0 : 0 ≤ fr) (hn : n0 ≤ 6000) (oc : ∀ k : Int, 0 ≤ k → k < n0 → (0 ≤ S.1 2 k ∧ S.1 2 k < 256) ∧ S.1 368 k = b8 (S.1 2 k)) : ∀ (t p : Nat), fr + p + t = n0 → p < 200 → (1 ≤ p ∨ 1 ≤ t) → ∃ l : Nat, (1 ≤ l ∧ fr + l ≤ n0 ∧ l ≤ 200 ∧ (32 ≤ l ∨ fr + l = n0)) ∧ (∀ A : ms, A.1 1 1 = n0 → A.1 2 = S.1 2 → EV q 243 8 [some (.ref 184), some (.ref 1), some (vI fr), some (vI (hsF (fun k => S.1 2 (fr + k)) p)), some (vI (fr + p)), some (vI 0), none] [] A (some (vI (fr + l))) (wI A 184 12 (hsF (fun k => S.1 2 (fr + k)) l))) ∧ ∀ B : ms, B.1 367 2 = n0 → B.1 368 = S.1 368 → EV q 422 4 [some (.ref 367), some (vI fr), some (vI (hsF (fun k => S.1 2 (fr + k)) p)), some (vI (fr + p))] [] B (some (vI (fr + l))) B := by
  have r1 : isRow 1 6000 := ⟨rfl, rfl⟩
  intro t
  induction t with
  | zero =>
    intro p hp p2 hpt
    have e : fr + p = n0 := by omega
    refine ⟨p, by omega, fun A a1 a2 => vc_Store_pieceEnd_8 _ _ _ _ 1 6000 r1 ?_, fun B b1 b2 => vc_MD_pieceEnd_4 _ _ _ ?_⟩
    · rw [a1, e]
      exact ⟨fun _ => vc_Store_pieceEnd_82 _ _ _ _ 1 6000 r1 (fun S1 f => ⟨rfl, f.symm⟩), fun n => absurd (Int.le_refl _) n⟩
    · rw [b1, e]
      exact ⟨fun _ => ⟨rfl, rfl⟩, fun n => absurd (Int.le_refl _) n⟩
  | succ t ih =>
    intro p hp p2 hpt
    obtain ⟨o1, o2⟩ := oc (fr + p) (by omega) (by omega)
    have oe := oct_eq o1 o2
    have z0 : ¬ n0 ≤ fr + p := by omega
    have z1 : 0 ≤ fr + (p : Int) ∧ fr + (p : Int) < (6000 : Nat) := by omega
    have es : fr + (p : Int) + 1 - fr = (p : Int) + 1 := by omega
    have ek : fr + (p : Int) + 1 = fr + ((p + 1 : Nat) : Int) := by omega
    have wn : w32 n0 = n0 := w32_of (by omega)
    have wp : w32 (fr + p) = fr + p := w32_of (by omega)
    have ws : Unit → w32 ((p : Int) + 1) = p + 1 := fun _ => w32_of (by omega)
    obtain ⟨h', hh⟩ : ∃ h' : Int, hsF (fun k => S.1 2 (fr + k)) p * 31 + S.1 2 (fr + p) + 1 = h' := ⟨_, rfl⟩
    have hs : hsF (fun k => S.1 2 (fr + k)) (p + 1) = h' := hh
    -- it ends behind this octet
    have stop : (200 ≤ p + 1 ∨ (32 ≤ p + 1 ∧ w32 (bA h' 1056964608) = 1056964608)) → ∃ l : Nat, (1 ≤ l ∧ fr + l ≤ n0 ∧ l ≤ 200 ∧ (32 ≤ l ∨ fr + l = n0)) ∧ (∀ A : ms, A.1 1 1 = n0 → A.1 2 = S.1 2 → EV q 243 8 [some (.ref 184), some (.ref 1), some (vI fr), some (vI (hsF (fun k => S.1 2 (fr + k)) p)), some (vI (fr + p)), some (vI 0), none] [] A (some (vI (fr + l))) (wI A 184 12 (hsF (fun k => S.1 2 (fr + k)) l))) ∧ ∀ B : ms, B.1 367 2 = n0 → B.1 368 = S.1 368 → EV q 422 4 [some (.ref 367), some (vI fr), some (vI (hsF (fun k => S.1 2 (fr + k)) p)), some (vI (fr + p))] [] B (some (vI (fr + l))) B := by
      intro hc
      refine ⟨p + 1, by omega, fun A a1 a2 => vc_Store_pieceEnd_8 _ _ _ _ 1 6000 r1 ?_, fun B b1 b2 => vc_MD_pieceEnd_4 _ _ _ ?_⟩
      · have fin : ∀ x6 : Int, EV q 243 69 [some (.ref 184), some (.ref 1), some (vI fr), some (vI h'), some (vI (fr + p)), some (vI 0), some (vI x6)] [] A (some (vI (fr + ((p + 1 : Nat) : Int)))) (wI A 184 12 h') := by
          intro x6
          refine vc_Store_pieceEnd_69 _ _ _ _ _ 1 6000 r1 (vc_Store_pieceEnd_74 _ _ _ _ _ _ 1 6000 r1 ?_)
          rw [ek]
          have f82 := vc_Store_pieceEnd_82 (q := q) (S := A) fr h' (fr + ((p + 1 : Nat) : Int)) 1 1 6000 r1 (fun S1 f => ⟨rfl, f.symm⟩)
          exact vc_Store_pieceEnd_8 _ _ _ _ 1 6000 r1 ⟨fun _ => f82, fun _ => ⟨fun _ => f82, fun n => absurd (by decide) n⟩⟩
        rw [a1, wn, wp, hs]
        have e2 : A.1 (1 + 1) (fr + p) = S.1 2 (fr + p) := by
          show A.1 2 (fr + p) = _
          rw [a2]
        rw [e2, hh, es, ws ()]
        refine ⟨fun n => absurd n z0, fun _ => ⟨fun n => absurd rfl n, fun _ => ⟨z1, fun _ => fin _, fun c => ⟨fun c2 => absurd c2 (by omega), fun c2 => ⟨fun c3 => ?_, fun _ => fin _⟩⟩⟩⟩⟩
        rcases hc with y | y
        · exact absurd c (by omega)
        · exact absurd y.2 c3
      · have r53 : EV q 422 53 [some (.ref 367), some (vI fr), some (vI h'), some (vI (fr + p + 1))] [] B (some (vI (fr + ((p + 1 : Nat) : Int)))) B ∨ w32 (w32 h' / 16777216 % 64) = 63 := by
          rcases hc with y | y
          · refine Or.inl (vc_MD_pieceEnd_53 _ _ _ ?_)
            rw [es, ws ()]
            exact ⟨fun n => absurd (by omega) n, fun _ => ⟨by rw [ek], rfl⟩⟩
          · exact Or.inr ((cut_iff h').mp y.2)
        rw [b1, wn, wp, b2, oe, hh, es, ws ()]
        refine ⟨fun n => absurd n z0, fun _ => ⟨z1, fun c => absurd c (by omega), fun c => ⟨fun _ => ⟨by rw [ek], rfl⟩, fun c2 => ?_⟩⟩⟩
        rcases r53 with y | y
        · exact y
        · exact absurd y c2
    by_cases c200 : 200 ≤ p + 1
    · exact stop (Or.inl c200)
    · by_cases cc : 32 ≤ p + 1 ∧ w32 (bA h' 1056964608) = 1056964608
      · exact stop (Or.inr cc)
      · obtain ⟨l, l1, l2, l3⟩ := ih (p + 1) (by omega) (by omega) (Or.inl (by omega))
        rw [hs, ← ek] at l2 l3
        refine ⟨l, l1, fun A a1 a2 => vc_Store_pieceEnd_8 _ _ _ _ 1 6000 r1 ?_, fun B b1 b2 => vc_MD_pieceEnd_4 _ _ _ ?_⟩
        · have nx : ∀ x6 : Int, EV q 243 73 [some (.ref 184), some (.ref 1), some (vI fr), some (vI h'), some (vI (fr + p)), some (vI 0), some (vI x6)] [] A (some (vI (fr + l))) (wI A 184 12 (hsF (fun k => S.1 2 (fr + k)) l)) := fun x6 => vc_Store_pieceEnd_73 _ _ _ _ _ 1 6000 r1 (vc_Store_pieceEnd_74 _ _ _ _ _ _ 1 6000 r1 (l2 A a1 a2))
          rw [a1, wn, wp]
          have e2 : A.1 (1 + 1) (fr + p) = S.1 2 (fr + p) := by
            show A.1 2 (fr + p) = _
            rw [a2]
          rw [e2, hh, es, ws ()]
          exact ⟨fun n => absurd n z0, fun _ => ⟨fun n => absurd rfl n, fun _ => ⟨z1, fun c => absurd c (by omega), fun _ => ⟨fun _ => nx _, fun c => ⟨fun _ => nx _, fun c2 => absurd ⟨by omega, Classical.not_not.mp c2⟩ cc⟩⟩⟩⟩⟩
        · have r53 : EV q 422 53 [some (.ref 367), some (vI fr), some (vI h'), some (vI (fr + p + 1))] [] B (some (vI (fr + l))) B := by
            refine vc_MD_pieceEnd_53 _ _ _ ?_
            rw [es, ws ()]
            exact ⟨fun _ => l3 B b1 b2, fun n => absurd (by omega) n⟩
          rw [b1, wn, wp, b2, oe, hh, es, ws ()]
          exact ⟨fun n => absurd n z0, fun _ => ⟨z1, fun _ => r53, fun c => ⟨fun c2 => absurd ⟨by omega, (cut_iff h').mpr c2⟩ cc, fun _ => r53⟩⟩⟩
/-- where the piece that begins at fr ends: it has l octets -/
theorem pe_both {n0 fr : Int} (h0 : 0 ≤ fr) (hf : fr < n0) (hn : n0 ≤ 6000) (oc : ∀ k : Int, 0 ≤ k → k < n0 → (0 ≤ S.1 2 k ∧ S.1 2 k < 256) ∧ S.1 368 k = b8 (S.1 2 k)) : ∃ l : Nat, (1 ≤ l ∧ fr + l ≤ n0 ∧ l ≤ 200 ∧ (32 ≤ l ∨ fr + l = n0)) ∧ (∀ A : ms, A.1 1 1 = n0 → A.1 2 = S.1 2 → EV q 243 0 [some (.ref 184), some (.ref 1), some (vI fr), none, none, none, none] [] A (some (vI (fr + l))) (wI A 184 12 (hsF (fun k => S.1 2 (fr + k)) l))) ∧ ∀ B : ms, B.1 367 2 = n0 → B.1 368 = S.1 368 → EV q 422 0 [some (.ref 367), some (vI fr), none, none] [] B (some (vI (fr + l))) B := by
  have r1 : isRow 1 6000 := ⟨rfl, rfl⟩
  have f0 : fr + ((0 : Nat) : Int) = fr := by omega
  obtain ⟨l, l1, l2, l3⟩ := pe_loop (q := q) (S := S) h0 hn oc (n0 - fr).toNat 0 (by omega) (by omega) (Or.inr (by omega))
  rw [f0] at l2 l3
  exact ⟨l, l1, fun A a1 a2 => vc_Store_pieceEnd _ 1 6000 r1 (l2 A a1 a2), fun B b1 b2 => vc_MD_pieceEnd _ (l3 B b1 b2)⟩
end Piece
