/-! read: a row of a TAPE, the reference -/
section Rea6
variable {q : Nat × (Nat → Int32)} {x p : Int} {t : Int → Int}
theorem ShM_nm {S S1 : ms} {n : Nat} {E : Nat → En} (hE : ∀ e : Nat, e < n → EnOk (E e)) (h : ShM S n E) (e : EX (xNm n) S S1) : ShM S1 n E := by
  have q1 : ∀ (a : Nat) (k : Int), ¬ xNm n a k → S1.1 a k = S.1 a k := e.2
  unfold xNm at q1
  refine ⟨by rw [q1 367 95 (by omega)]; exact h.1, fun e he => ?_⟩
  obtain ⟨⟨a1, a2⟩, ⟨a3, a4⟩, a5, a6⟩ := h.2 e he
  have o1 := (hE e he).1.1
  exact ⟨⟨by rw [q1 _ _ (by omega)]; exact a1, fun k k0 k1 => by rw [q1 _ _ (by omega)]; exact a2 k k0 k1⟩, ⟨by rw [q1 _ _ (by omega)]; exact a3, by rw [q1 _ _ (by omega)]; exact a4⟩, by rw [q1 _ _ (by omega)]; exact a5, fun k k0 k1 => by rw [q1 _ _ (by omega)]; exact a6 k k0 k1⟩
theorem xNm_i {n : Nat} {S T : ms} (e : EX (xNm n) S T) : EX xSi S T := EX.mono e (fun a k y => by unfold xNm at y; unfold xSi; omega)
/-- the name, into the reference's rows -/
theorem md_tpNam {B : ms} {n u w : Nat} (hx : x ≤ 6000) (h0 : 0 ≤ p) (h1 : p + 512 ≤ x) (hn : n < 16) (hu : upR t (p + 345) 155 u) (hw : upR t p 100 w) (hT : lbN u w ≤ 100) (hB : TM B x t) (h95 : B.1 367 95 = n) : ∃ B1, EX (xNm n) B B1 ∧ NamM B1 n (lbN u w) (lbF t p u) ∧ ∀ (x2 x3 x4 x6 x8 x10 x15 x16 j : Int) (r : Option Value) (T : ms), (j = if u = 0 then 0 else 1) → (∀ z3 : Int, ∃ (S4 : ms), EV q 397 0 [some (.ref 367), some (vI (x6 % 512)), some (vI x10), some (.ref 368), some (vI (p + 512)), some (vI x8), none] [] B1 none S4 ∧ ((w32 (p + (512 + ((Int.tdiv (w32 (x8 + 511)) (w32 512)) * 512))) ≤ w32 (S4.1 367 2)) → EV q 393 543 [some (.ref 367), some (vI (p + (512 + ((Int.tdiv (w32 (x8 + 511)) (w32 512)) * 512)))), some (vI x2), some (vI x3), some (vL x4), none, some (vL x6), none, some (vL x8), none, some (vL x10), none, some (vI u), some (vI w), some (vI j), some (vI x15), some (vI x16), some (vI z3)] [vI (p + (512 + ((Int.tdiv (w32 (x8 + 511)) (w32 512)) * 512)))] S4 r T) ∧ ((¬ w32 (p + (512 + ((Int.tdiv (w32 (x8 + 511)) (w32 512)) * 512))) ≤ w32 (S4.1 367 2)) → EV q 393 543 [some (.ref 367), some (vI (p + (512 + ((Int.tdiv (w32 (x8 + 511)) (w32 512)) * 512)))), some (vI x2), some (vI x3), some (vL x4), none, some (vL x6), none, some (vL x8), none, some (vL x10), none, some (vI u), some (vI w), some (vI j), some (vI x15), some (vI x16), some (vI z3)] [vI (S4.1 367 2)] S4 r T)) → ((w32 j = 0) → EV q 393 470 [some (.ref 367), some (vI p), some (vI x2), some (vI x3), some (vL x4), none, some (vL x6), none, some (vL x8), none, some (vL x10), none, some (vI u), some (vI w), some (vI j), some (vI x15), some (vI x16), none] [] (wI B 426 n 0) r T) ∧ ((¬ w32 j = 0) → ∃ (z5 : Int) (S3 : ms), EV q 396 0 [some (.ref 367), some (vI (p + 345)), some (vI u), none] [] (wI B 426 n 0) (some (vI z5)) S3 ∧ (0 ≤ w32 (S3.1 367 95) ∧ w32 (S3.1 367 95) < (16 : Nat)) ∧ (0 ≤ w32 ((100 * (S3.1 367 95)) + (S3.1 426 (w32 (S3.1 367 95)))) ∧ w32 ((100 * (S3.1 367 95)) + (S3.1 426 (w32 (S3.1 367 95)))) < (1600 : Nat)) ∧ ∀ S8 : ms, S8 = wI S3 425 (w32 ((100 * (S3.1 367 95)) + (S3.1 426 (w32 (S3.1 367 95))))) (b8 47) → (0 ≤ w32 (S8.1 367 95) ∧ w32 (S8.1 367 95) < (16 : Nat)) ∧ (0 ≤ w32 (S8.1 367 95) ∧ w32 (S8.1 367 95) < (16 : Nat)) ∧ ∀ S11 : ms, S11 = wI S8 426 (w32 (S8.1 367 95)) ((S8.1 426 (w32 (S8.1 367 95))) + 1) → EV q 393 470 [some (.ref 367), some (vI p), some (vI x2), some (vI x3), some (vL x4), none, some (vL x6), none, some (vL x8), none, some (vL x10), none, some (vI u), some (vI w), some (vI j), some (vI x15), some (vI x16), none] [] S11 r T) := by
  have wn : Unit → w32 ((n : Nat) : Int) = n := fun _ => w32_of (by omega)
  have keep : ∀ U V : ms, TM U x t → EX (xNm n) U V → TM V x t := fun U V hU e k k0 k1 => ⟨(hU k k0 k1).1, by rw [e.2 368 k (by unfold xNm; omega)]; exact (hU k k0 k1).2⟩
  have keep95 : ∀ U V : ms, U.1 367 95 = n → EX (xNm n) U V → V.1 367 95 = n := fun U V hU e => by rw [e.2 367 95 (by unfold xNm; omega)]; exact hU
  have ex0 : EX (xNm n) B (wI B 426 n 0) := EX.wr (EX.refl _ B) (show xNm n 426 n from Or.inr ⟨rfl, rfl⟩)
  have hu1 := hu.1
  have hw1 := hw.1
  by_cases z : u = 0
  · have eN : lbN u w = w := if_pos z
    rw [eN] at hT ⊢
    obtain ⟨B1, k1, k2, k3⟩ := md_nm (q := q) (g := lbF t p u) (c := 0) (n := w) hn h0 (by omega) hx (by omega) (fun k hk => by
      unfold lbF
      rw [if_pos z, Nat.zero_add]) w 0 _ (by omega) (keep _ _ hB ex0) (keep95 _ _ h95 ex0) ⟨wI_at _ _ _ _, fun k hk => absurd hk (by omega)⟩
    rw [Nat.zero_add] at k2
    refine ⟨B1, EX.trans ex0 k1, k2, fun x2 x3 x4 x6 x8 x10 x15 x16 j r T ej y => ?_⟩
    rw [if_pos z] at ej
    subst ej
    exact cY (by decide) (vc_MD_readTape_470 _ _ _ _ _ _ _ _ _ _ _ _ ⟨1, B1, vc_MD_newName _ _ k3, y 1⟩)
  · have eN : lbN u w = u + 1 + w := if_neg z
    rw [eN] at hT ⊢
    obtain ⟨B1, k1, k2, k3⟩ := md_nm (q := q) (p := p + 345) (g := lbF t p u) (c := 0) (n := u) hn (by omega) (by omega) hx (by omega) (fun k hk => by
      unfold lbF
      rw [if_neg z, Nat.zero_add, if_pos (by omega)]) u 0 _ (by omega) (keep _ _ hB ex0) (keep95 _ _ h95 ex0) ⟨wI_at _ _ _ _, fun k hk => absurd hk (by omega)⟩
    rw [Nat.zero_add] at k2
    have ex1 := EX.trans ex0 k1
    have f95 := keep95 _ _ h95 ex1
    have wk : Unit → w32 (100 * (n : Int) + (u : Int)) = 100 * (n : Int) + (u : Int) := fun _ => w32_of (by omega)
    obtain ⟨B2, eB2⟩ : ∃ B2 : ms, B2 = wI B1 425 (100 * (n : Int) + (u : Int)) (b8 47) := ⟨_, rfl⟩
    obtain ⟨B3, eB3⟩ : ∃ B3 : ms, B3 = wI B2 426 n ((u : Int) + 1) := ⟨_, rfl⟩
    have g95 : B2.1 367 95 = n := by rw [eB2, wI_no _ (by omega)]; exact f95
    have g426 : B2.1 426 n = u := by rw [eB2, wI_no _ (by omega)]; exact k2.1
    have ex3 : EX (xNm n) B1 B3 := by
      rw [eB3, eB2]
      exact EX.wr (EX.wr (EX.refl _ B1) (show xNm n 425 _ from Or.inl ⟨rfl, by omega, by omega⟩)) (show xNm n 426 _ from Or.inr ⟨rfl, rfl⟩)
    have hN3 : NamM B3 n (u + 1 + 0) (lbF t p u) := ⟨by rw [eB3, wI_at]; omega, fun k hk => by
      rw [eB3, wI_no _ (by omega), eB2]
      by_cases d : k = u
      · subst d
        rw [wI_at]
        unfold lbF
        rw [if_neg z, if_neg (by omega), if_pos rfl]
      · rw [wI_no _ (by omega)]; exact k2.2 k (by omega)⟩
    have ex13 := EX.trans ex1 ex3
    obtain ⟨B4, k4, k5, k6⟩ := md_nm (q := q) (g := lbF t p u) (c := u + 1) (n := w) hn h0 (by omega) hx (by omega) (fun k hk => by
      unfold lbF
      rw [if_neg z, if_neg (by omega), if_neg (by omega), show ((u + 1 + k : Nat) : Int) - u - 1 = k by omega]) w 0 _ (by omega) (keep _ _ hB ex13) (keep95 _ _ h95 ex13) hN3
    refine ⟨B4, EX.trans ex13 k4, k5, fun x2 x3 x4 x6 x8 x10 x15 x16 j r T ej y => ?_⟩
    rw [if_neg z] at ej
    subst ej
    refine cNo (by decide) ⟨1, B1, vc_MD_newName _ _ k3, ?_⟩
    rw [f95, wn (), k2.1, wk ()]
    refine ⟨by omega, by omega, fun S8 e8 => ?_⟩
    rw [← eB2] at e8
    subst e8
    rw [g95, wn (), g426]
    refine ⟨by omega, by omega, fun S11 e11 => ?_⟩
    rw [← eB3] at e11
    subst e11
    exact vc_MD_readTape_470 _ _ _ _ _ _ _ _ _ _ _ _ ⟨1, B4, vc_MD_newName _ _ k6, y 1⟩
end Rea6
