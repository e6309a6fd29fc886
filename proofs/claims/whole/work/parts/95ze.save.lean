/-! save: its two ends, run -/
section Save4
variable {q : Nat × (Nat → Int32)} {S A B : ms} {r s n0 fr m : Int} {l j n : Nat}
/-- the class counts the uses -/
theorem lp_kp {x4 : Int} {u : Nat → Int} (hr : 0 ≤ r ∧ r < 8) (hn : n ≤ 192) (hu : ∀ k : Nat, k < n → (0 ≤ u k ∧ u k < 300) ∧ A.1 192 (r * 192 + k) = u k) {rr : Option Value} {P : ms → Prop} (k : ∀ T, (T.2 = A.2 ∧ (∀ (a : Nat) (k : Int), ¬ (a = 188 ∧ 0 ≤ k ∧ k < 300) → T.1 a k = A.1 a k) ∧ ∀ b : Int, 0 ≤ b → b < 300 → T.1 188 b = A.1 188 b + ocN u n b) → ∃ T', EV q 241 101 [some (.ref 184), some (.ref 1), some (vI r), some (vI n), some (vI x4), some (vI n), none, none] [] T rr T' ∧ P T') : ∀ (t i : Nat) (T : ms), i + t = n → (T.2 = A.2 ∧ (∀ (a : Nat) (k : Int), ¬ (a = 188 ∧ 0 ≤ k ∧ k < 300) → T.1 a k = A.1 a k) ∧ ∀ b : Int, 0 ≤ b → b < 300 → T.1 188 b = A.1 188 b + ocN u i b) → ∃ T', EV q 241 101 [some (.ref 184), some (.ref 1), some (vI r), some (vI n), some (vI x4), some (vI i), none, none] [] T rr T' ∧ P T' := by
  have r1 : isRow 1 6000 := ⟨rfl, rfl⟩
  intro t
  induction t with
  | zero =>
    intro i T hi hT
    have e : i = n := by omega
    subst e
    exact k T hT
  | succ t ih =>
    intro i T hi hT
    obtain ⟨t1, t2, t3⟩ := hT
    obtain ⟨u1, u2⟩ := hu i (by omega)
    have z0 : ¬ (n : Int) ≤ i := by omega
    have z1 : 0 ≤ r * 192 + (i : Int) ∧ r * 192 + (i : Int) < (1536 : Nat) := by omega
    have wx : w32 (r * 192 + i) = r * 192 + i := w32_of (by omega)
    have wu : w32 (u i) = u i := w32_of (by omega)
    have ek : (i : Int) + 1 = ((i + 1 : Nat) : Int) := by omega
    obtain ⟨T', k1, k2⟩ := ih (i + 1) (wI T 188 (u i) (A.1 188 (u i) + ocN u i (u i) + 1)) (by omega) ⟨t1, fun a k h1 => by rw [rI_I, if_neg (fun z => h1 ⟨z.1, by omega, by omega⟩), t2 a k h1], fun b b0 b1 => by
      rw [rI_I]
      show _ = A.1 188 b + (ocN u i b + if u i = b then 1 else 0)
      by_cases c : u i = b
      · rw [if_pos ⟨rfl, c.symm⟩, if_pos c, c]
        omega
      · rw [if_neg (fun z => c z.2.symm), if_neg c, t3 b b0 b1, Int.add_zero]⟩
    have wi : Unit → w32 (i : Int) = i := fun _ => w32_of (by omega)
    have wn : Unit → w32 (n : Int) = n := fun _ => w32_of (by omega)
    refine ⟨T', vc_Store_keep_101 _ _ _ _ 1 6000 r1 ?_, k2⟩
    rw [wn (), wi (), wx, t2 192 _ (by omega), u2, wu, t3 _ u1.1 u1.2]
    refine ⟨fun n => absurd n z0, fun _ => ⟨z1, u1, u1, fun S10 f => ?_⟩⟩
    subst f
    rw [ek]
    exact k1
theorem sp_keepend {x4 x5 : Int} (sv : SV S A B r s n0 n fr) (hr : 0 ≤ r ∧ r < 8) (hn : n ≤ 192) : ∃ A', EV q 241 98 [some (.ref 184), some (.ref 1), some (vI r), some (vI n), some (vI x4), some (vI x5), none, none] [] A (some (vI 1)) A' ∧ A'.2 = A.2 ∧ (∀ b : Int, 0 ≤ b → b < 300 → A'.1 188 b = A.1 188 b + ocN (rowU A r) n b) ∧ (A'.1 191 r = n ∧ A'.1 190 r = A.1 184 3 + 1 ∧ A'.1 184 2 = A.1 184 2 + 1 ∧ A'.1 184 3 = A.1 184 3 + 1) ∧ ∀ (a : Nat) (k : Int), ¬ (a = 188 ∧ 0 ≤ k ∧ k < 300) → ¬ (a = 191 ∧ k = r) → ¬ (a = 190 ∧ k = r) → ¬ (a = 184 ∧ (k = 2 ∨ k = 3)) → A'.1 a k = A.1 a k := by
  have r1 : isRow 1 6000 := ⟨rfl, rfl⟩
  obtain ⟨-, -, -, v7, -⟩ := sv
  have wr : w32 r = r := w32_of (by omega)
  obtain ⟨A', k1, k2⟩ := lp_kp (q := q) (A := A) (r := r) (n := n) (x4 := x4) (u := rowU A r) (rr := some (vI 1)) (P := fun A' => A'.2 = A.2 ∧ (∀ b : Int, 0 ≤ b → b < 300 → A'.1 188 b = A.1 188 b + ocN (rowU A r) n b) ∧ (A'.1 191 r = n ∧ A'.1 190 r = A.1 184 3 + 1 ∧ A'.1 184 2 = A.1 184 2 + 1 ∧ A'.1 184 3 = A.1 184 3 + 1) ∧ ∀ (a : Nat) (k : Int), ¬ (a = 188 ∧ 0 ≤ k ∧ k < 300) → ¬ (a = 191 ∧ k = r) → ¬ (a = 190 ∧ k = r) → ¬ (a = 184 ∧ (k = 2 ∨ k = 3)) → A'.1 a k = A.1 a k) hr hn (fun k hk => ⟨(v7 k hk).1, by
    show A.1 192 (r * 192 + k) = A.1 192 (192 * r + k)
    rw [Int.mul_comm r]⟩) (fun T hT => by
    obtain ⟨t1, t2, t3⟩ := hT
    have q4 : ∀ (a : Nat) (k : Int), (wI (wI (wI (wI T 191 r n) 184 3 (A.1 184 3 + 1)) 190 r (A.1 184 3 + 1)) 184 2 (A.1 184 2 + 1)).1 a k = if a = 184 ∧ k = 2 then A.1 184 2 + 1 else if a = 190 ∧ k = r then A.1 184 3 + 1 else if a = 184 ∧ k = 3 then A.1 184 3 + 1 else if a = 191 ∧ k = r then (n : Int) else T.1 a k := fun _ _ => rfl
    refine ⟨wI (wI (wI (wI T 191 r n) 184 3 (A.1 184 3 + 1)) 190 r (A.1 184 3 + 1)) 184 2 (A.1 184 2 + 1), vc_Store_keep_101 _ _ _ _ 1 6000 r1 ?_, t1, fun b b0 b1 => ?_, ⟨?_, ?_, ?_, ?_⟩, fun a k h1 h2 h3 h4 => ?_⟩
    · rw [wr]
      refine ⟨fun _ => ⟨by omega, fun S2 f2 S3 f3 => ⟨by omega, fun S5 f5 S6 f6 => ⟨rfl, ?_⟩⟩⟩, fun n => absurd (Int.le_refl _) n⟩
      have e2 : S2.1 184 3 = A.1 184 3 := by rw [f2, rI_I, if_neg (by omega), t2 _ _ (by omega)]
      rw [e2] at f3
      have e3 : S3.1 184 3 = A.1 184 3 + 1 := by rw [f3, rI_I, if_pos ⟨rfl, rfl⟩]
      rw [e3] at f5
      have e5 : S5.1 184 2 = A.1 184 2 := by rw [f5, rI_I, if_neg (by omega), f3, rI_I, if_neg (by omega), f2, rI_I, if_neg (by omega), t2 _ _ (by omega)]
      rw [e5] at f6
      subst f2 f3 f5 f6
      rfl
    · rw [q4, if_neg (by omega), if_neg (by omega), if_neg (by omega), if_neg (by omega), t3 b b0 b1]
    · rw [q4, if_neg (by omega), if_neg (by omega), if_neg (by omega), if_pos ⟨rfl, rfl⟩]
    · rw [q4, if_neg (by omega), if_pos ⟨rfl, rfl⟩]
    · rw [q4, if_pos ⟨rfl, rfl⟩]
    · rw [q4, if_neg (by omega), if_neg (by omega), if_pos ⟨rfl, rfl⟩]
    · rw [q4, if_neg (by omega), if_neg (by omega), if_neg (by omega), if_neg h2, t2 a k h1]) n 0 A (by omega) ⟨rfl, fun _ _ _ => rfl, fun b _ _ => (Int.add_zero _).symm⟩
  exact ⟨A', vc_Store_keep_98 _ _ _ _ 1 6000 r1 k1, k2⟩
/-- the class has no room: the new BLOCKS go -/
theorem sp_keepfail {h' : Int} (h : RO m S) (sv : SV S A B r s n0 j fr) : ∃ (z : Int) (C : ms), EV q 246 0 [some (.ref 184), none, none] [] (wI A 184 12 h') (some (vI z)) C ∧ C.2 = S.2 ∧ (C.1 184 0 = S.1 184 0 ∧ C.1 184 1 = S.1 184 1) ∧ (∀ b : Int, 0 ≤ b → b < 300 → C.1 186 b = S.1 186 b) ∧ ∀ (a : Nat) (k : Int), ¬ (a = 184 ∧ (k = 0 ∨ k = 1 ∨ k = 12)) → ¬ (a = 186 ∧ 0 ≤ k ∧ k < 300) → C.1 a k = A.1 a k := by
  obtain ⟨-, v5, v6, -, -, ⟨c1, c2, c3, c4, c5, c6⟩, ⟨v9, v10⟩, -⟩ := id sv
  obtain ⟨-, -, hB, -, -, -, hu, s1, s2, -⟩ := id h
  have e186 : ∀ b : Int, (wI A 184 12 h').1 186 b = A.1 186 b := fun b => by rw [rI_I, if_neg (by omega)]
  have e188 : ∀ b : Int, (wI A 184 12 h').1 188 b = S.1 188 b := fun b => by rw [rI_I, if_neg (by omega), v10 _ _ (by omega)]
  have urg : ∀ b : Int, 0 ≤ b → b < 300 → 0 ≤ S.1 188 b ∧ S.1 188 b ≤ 1536 := by
    intro b b0 b1
    rw [(hu b b0 b1).1]
    refine ⟨sm_nn (fun i _ => (ocN_rg _ _ _).1), ?_⟩
    have := sm_le (n := 8) (f := fun i : Nat => ocN (fun k => S.1 192 (192 * i + k)) (S.1 191 i).toNat b) (c := 192) (fun i hi => by
      have z := (ocN_rg (fun k => S.1 192 (192 * (i : Int) + (k : Nat))) b (S.1 191 i).toNat).2
      have z2 := (h.2.2.2.1 i (by omega) (by omega)).1
      omega)
    omega
  obtain ⟨C, kC, z1, z2, z3, z4, z5⟩ := sp_sweep (q := q) (S := wI A 184 12 h') (fun b b0 b1 => by rw [e186]; exact (v5 b b0 b1).1) (fun b b0 b1 => by
    rw [e188]
    have := urg b b0 b1
    exact w32_of (by omega))
  have ddb : ∀ b : Int, 0 ≤ b → b < 300 → A.1 186 b - dd (wI A 184 12 h') b * A.1 186 b = S.1 186 b ∧ B.1 448 b - dd (wI A 184 12 h') b = S.1 448 b := by
    intro b b0 b1
    have o := (v5 b b0 b1).2.1
    have p := (hB b b0 b1).2.1
    unfold dd
    rw [e186, e188]
    by_cases c : S.1 186 b = 0
    · have u0 := (RO_188 h b0 b1 c).1
      rw [c, if_pos rfl] at p
      by_cases ca : A.1 186 b = 0
      · rw [if_neg (fun z => z.1 ca), o, if_pos ca, p, ca, c]
        decide
      · rw [if_pos ⟨ca, u0⟩, o, if_neg ca, p, c]
        omega
    · have ea := (v6 b b0 b1).1 c
      have u1 := (hu b b0 b1).2 c
      rw [if_neg c] at p
      rw [if_neg (by omega), o, ea, if_neg c, p]
      omega
  refine ⟨_, C, kC, z1.trans v9, ⟨?_, ?_⟩, fun b b0 b1 => ?_, fun a k h1 h2 => ?_⟩
  · have e : (wI A 184 12 h').1 184 0 = A.1 184 0 := rfl
    rw [z2, e, c2, s1, ← sm_sub]
    exact sm_cg (fun k hk => (ddb k (by omega) (by omega)).2)
  · have e : (wI A 184 12 h').1 184 1 = A.1 184 1 := rfl
    rw [z3, e, c4, s2, ← sm_sub]
    exact sm_cg (fun k hk => by
      show A.1 186 (k : Int) - dd (wI A 184 12 h') k * (wI A 184 12 h').1 186 k = S.1 186 k
      rw [e186]
      exact (ddb k (by omega) (by omega)).1)
  · rw [z4 b b0 b1, e186]
    exact (ddb b b0 b1).1
  · rw [z5 a k (by omega) h2, rI_I, if_neg (by omega)]
/-- the reference drops what is new -/
theorem lp_sd {V : ms} {x3 : Int} {N : Nat} {u : Nat → Int} {D z : Int → Int} {nn : Nat → Nat} {v : Nat → Nat → Int} (hs8 : 0 ≤ s ∧ s < 8) (hN : V.1 367 129 = N) (hN8 : N ≤ 8) (hn : n ≤ 192) (hsn : V.1 451 s = n) (hD : ∀ b, D b = 0 ∨ D b = 1) (hu : ∀ k, k < n → (0 ≤ u k ∧ u k < 300) ∧ V.1 450 (200 * s + k) = u k ∧ V.1 448 (u k) = 1 ∧ V.1 447 (u k) = z (u k) ∧ (D (u k) = 1 ↔ ∀ s, s < N → ocB (v s) (nn s) (u k) = 0)) (hs : ∀ s : Nat, s < N → V.1 451 s = nn s ∧ nn s ≤ 192 ∧ ∀ j : Nat, j < nn s → (0 ≤ v s j ∧ v s j < 300) ∧ V.1 450 (200 * s + j) = v s j) : ∀ (t k : Nat) (R : ms), k + t = n → DR V R u D z k → ∃ T', EV q 421 255 [some (.ref 367), some (vI s), some (vI 0), some (vI x3), some (vI k), none, none] [] R (some (vI (-4))) T' ∧ DR V T' u D z n := by
  have ws : w32 s = s := w32_of (by omega)
  intro t
  induction t with
  | zero =>
    intro k R hk hR
    have e : k = n := by omega
    subst e
    refine ⟨R, vc_MD_save_255 _ _ _ _ ?_, hR⟩
    rw [ws, hR.2.2.2.2 _ _ (by omega) (by omega), hsn]
    exact ⟨by omega, fun _ => ⟨rfl, rfl⟩, fun n => absurd (Int.le_refl _) n⟩
  | succ t ih =>
    intro k R hk hR
    obtain ⟨r1, r2, r3, r4, r5⟩ := hR
    obtain ⟨u1, u2, u3, u4, u5⟩ := hu k (by omega)
    have z0 : ¬ (n : Int) ≤ k := by omega
    have z1 : 0 ≤ 200 * s + (k : Int) ∧ 200 * s + (k : Int) < (1600 : Nat) := by omega
    have wx : w32 (200 * s + k) = 200 * s + k := w32_of (by omega)
    have e450 : R.1 450 (200 * s + k) = u k := by rw [r5 _ _ (by omega) (by omega), u2]
    have e451 : R.1 451 s = n := by rw [r5 _ _ (by omega) (by omega), hsn]
    have ek : (k : Int) + 1 = ((k + 1 : Nat) : Int) := by omega
    have dr := md_drop (q := q) (T := R) (x1 := u k) (N := N) (n := nn) (u := v) (by rw [r5 _ _ (by omega) (by omega), hN]) hN8 u1 (fun s hs' => by
      obtain ⟨s1, s2, s3⟩ := hs s hs'
      exact ⟨by rw [r5 _ _ (by omega) (by omega), s1], s2, fun j hj => ⟨(s3 j hj).1, by rw [r5 _ _ (by omega) (by omega)]; exact (s3 j hj).2⟩⟩)
    have o01 := ocB_01 u (u k) k
    have wk : Unit → w32 (k : Int) = k := fun _ => w32_of (by omega)
    have wn : Unit → w32 (n : Int) = n := fun _ => w32_of (by omega)
    by_cases c : D (u k) = 1 ∧ ocB u k (u k) = 0
    · have h1 := dr.2 (u5.mp c.1) (by rw [r4 _ u1.1 u1.2, u3, c.2]; omega)
      have e447 : R.1 447 (u k) = z (u k) := by rw [r5 _ _ (by omega) (by omega), u4]
      rw [e447] at h1
      have hi : (u k).toNat < 300 := by omega
      have ei : (((u k).toNat : Nat) : Int) = u k := by omega
      have e1 : sm (fun b : Nat => ocB u (k + 1) b * D b) 300 = sm (fun b : Nat => ocB u k b * D b) 300 + 1 := by
        rw [sm_upd (f := fun b : Nat => ocB u k b * D b) (g := fun b : Nat => ocB u (k + 1) b * D b) hi (fun j _ hne => by
          show ocB u (k + 1) j * D j = _
          rw [ocB_s, if_neg (by omega)])]
        show _ + (ocB u (k + 1) ((u k).toNat : Nat) * D ((u k).toNat : Nat) - ocB u k ((u k).toNat : Nat) * D ((u k).toNat : Nat)) = _
        rw [ei, ocB_s, if_pos rfl, c.1, c.2]
        omega
      have e2 : sm (fun b : Nat => ocB u (k + 1) b * D b * z b) 300 = sm (fun b : Nat => ocB u k b * D b * z b) 300 + z (u k) := by
        rw [sm_upd (f := fun b : Nat => ocB u k b * D b * z b) (g := fun b : Nat => ocB u (k + 1) b * D b * z b) hi (fun j _ hne => by
          show ocB u (k + 1) j * D j * z j = _
          rw [ocB_s, if_neg (by omega)])]
        show _ + (ocB u (k + 1) ((u k).toNat : Nat) * D ((u k).toNat : Nat) * z ((u k).toNat : Nat) - ocB u k ((u k).toNat : Nat) * D ((u k).toNat : Nat) * z ((u k).toNat : Nat)) = _
        rw [ei, ocB_s, if_pos rfl, c.1, c.2]
        omega
      have q2 : ∀ (a : Nat) (i : Int), (wI (wI (wI R 448 (u k) 0) 367 123 (R.1 367 123 - 1)) 367 124 (R.1 367 124 - z (u k))).1 a i = if a = 367 ∧ i = 124 then R.1 367 124 - z (u k) else if a = 367 ∧ i = 123 then R.1 367 123 - 1 else if a = 448 ∧ i = u k then 0 else R.1 a i := fun _ _ => rfl
      obtain ⟨T', k1, k2⟩ := ih (k + 1) _ (by omega) (show DR V (wI (wI (wI R 448 (u k) 0) 367 123 (R.1 367 123 - 1)) 367 124 (R.1 367 124 - z (u k))) u D z (k + 1) by
        refine ⟨r1, ?_, ?_, fun b b0 b1 => ?_, fun a i h1 h2 => ?_⟩
        · rw [q2, if_neg (by omega), if_pos ⟨rfl, rfl⟩, r2, e1]
          omega
        · rw [q2, if_pos ⟨rfl, rfl⟩, r3, e2]
          omega
        · rw [q2, if_neg (by omega), if_neg (by omega), ocB_s]
          by_cases cb : u k = b
          · rw [if_pos ⟨rfl, cb.symm⟩, if_pos cb, ← cb, u3, c.1]
            omega
          · rw [if_neg (fun z => cb z.2.symm), if_neg cb, r4 b b0 b1]
        · rw [q2, if_neg (by omega), if_neg (by omega), if_neg (by omega), r5 a i h1 h2])
      refine ⟨T', vc_MD_save_255 _ _ _ _ ?_, k2⟩
      rw [ws, e451, wn (), wk (), wx, e450, ek]
      exact ⟨by omega, fun n => absurd n z0, fun _ => ⟨z1, 1, _, h1, k1⟩⟩
    · have same : ∀ b : Int, ocB u (k + 1) b * D b = ocB u k b * D b := by
        intro b
        rw [ocB_s]
        by_cases cb : u k = b
        · rw [if_pos cb, ← cb]
          rcases hD (u k) with y | y
          · rw [y]
            omega
          · have : ocB u k (u k) = 1 := by omega
            rw [this]
        · rw [if_neg cb]
      have h0 := dr.1 (by
        rcases hD (u k) with y | y
        · refine Or.inl (Classical.byContradiction (fun z => ?_))
          have : D (u k) = 1 := u5.mpr (fun s hs' => by
            rcases ocB_01 (v s) (u k) (nn s) with w | w
            · exact w
            · exact absurd ⟨s, hs', w⟩ z)
          omega
        · refine Or.inr ?_
          have : ocB u k (u k) = 1 := by omega
          rw [r4 _ u1.1 u1.2, u3, this, y]
          rfl)
      have e1 : sm (fun b : Nat => ocB u (k + 1) b * D b) 300 = sm (fun b : Nat => ocB u k b * D b) 300 := sm_cg (fun j _ => same j)
      have e2 : sm (fun b : Nat => ocB u (k + 1) b * D b * z b) 300 = sm (fun b : Nat => ocB u k b * D b * z b) 300 := sm_cg (fun j _ => by show ocB u (k + 1) j * D j * z j = _; rw [same])
      obtain ⟨T', k1, k2⟩ := ih (k + 1) R (by omega) ⟨r1, by rw [e1, r2], by rw [e2, r3], fun b b0 b1 => by rw [same, r4 b b0 b1], r5⟩
      refine ⟨T', vc_MD_save_255 _ _ _ _ ?_, k2⟩
      rw [ws, e451, wn (), wk (), wx, e450, ek]
      exact ⟨by omega, fun n => absurd n z0, fun _ => ⟨z1, 0, _, h0, k1⟩⟩
/-- the reference has no room -/
theorem md_keepfail {x3 : Int} (h : RO m S) (hs : s = S.1 184 2) (hs8 : S.1 184 2 < 8) (hn0 : n0 ≤ 6000) (sv : SV S A B r s n0 j fr) : ∃ T', EV q 421 255 [some (.ref 367), some (vI s), some (vI 0), some (vI x3), some (vI 0), none, none] [] B (some (vI (-4))) T' ∧ T'.2 = B.2 ∧ (T'.1 367 123 = S.1 184 0 ∧ T'.1 367 124 = S.1 184 1) ∧ (∀ b : Int, 0 ≤ b → b < 300 → T'.1 448 b = S.1 448 b) ∧ ∀ (a : Nat) (i : Int), ¬ (a = 367 ∧ (i = 123 ∨ i = 124)) → ¬ (a = 448 ∧ 0 ≤ i ∧ i < 300) → T'.1 a i = B.1 a i := by
  obtain ⟨-, v5, v6, v7, ⟨d1, d2, d3, d4⟩, ⟨c1, c2, c3, c4, c5, c6⟩, -, v11⟩ := id sv
  obtain ⟨⟨w1, w2, w3, w4⟩, ⟨n1, n2, n3, n4⟩, hB, hL, ⟨hd1, hd2⟩, ⟨hm1, hm2⟩, hu, s1, s2, -⟩ := id h
  obtain ⟨N, hN⟩ : ∃ N : Nat, S.1 184 2 = N := ⟨(S.1 184 2).toNat, by omega⟩
  have rows : ∀ s' : Nat, s' < N → ∃ i : Nat, i < 8 ∧ B.1 451 s' = (rowN S i : Nat) ∧ (∀ k : Nat, k < rowN S i → B.1 450 (200 * s' + k) = rowU S i k) ∧ OR S s' i := by
    intro s' hs'
    obtain ⟨-, i, o⟩ := hm1 s' (by omega) (by omega)
    obtain ⟨o1, o2, o3, o4⟩ := id o
    have lb := (hL i o1.1 o1.2).1
    have ei : ((i.toNat : Nat) : Int) = i := by omega
    refine ⟨i.toNat, by omega, ?_, fun k hk => ?_, by rw [ei]; exact o⟩
    · unfold rowN
      rw [ei, v11 _ _ (by omega), o3]
      omega
    · unfold rowN at hk
      rw [ei] at hk
      unfold rowU
      rw [ei, v11 _ _ (by omega), o4 k (by omega) (by omega)]
  have nb : (j : Int) ≤ 192 := by omega
  obtain ⟨T', kT, t1, t2, t3, t4, t5⟩ := lp_sd (q := q) (s := s) (n := j) (V := B) (x3 := x3) (N := N) (u := rowU A r) (D := fun b => if S.1 186 b = 0 then 1 else 0) (z := fun b => A.1 186 b) (nn := fun s' => (B.1 451 s').toNat) (v := fun s' k => B.1 450 (200 * s' + k)) (by omega) (by rw [v11 _ _ (by omega), w3, hN]) (by omega) (by omega) d1 (fun b => by
    show (if S.1 186 b = 0 then (1 : Int) else 0) = 0 ∨ (if S.1 186 b = 0 then (1 : Int) else 0) = 1
    split
    · exact Or.inr rfl
    · exact Or.inl rfl) (fun k hk => by
    obtain ⟨a1, a2, a3⟩ := v7 k hk
    obtain ⟨y1, y2, y3⟩ := v5 _ a1.1 a1.2
    refine ⟨a1, a3, by rw [y2, if_neg a2], (y3 a2).1, fun hd s' hs' => ?_, fun ho => ?_⟩
    · obtain ⟨i, i1, i2, i3, -⟩ := rows s' hs'
      have hz : S.1 186 (rowU A r k) = 0 := by
        apply Classical.byContradiction
        intro n
        rw [if_neg n] at hd
        exact absurd hd (by decide)
      show ocB (fun k => B.1 450 (200 * s' + k)) (B.1 451 s').toNat _ = 0
      rw [i2, show (((rowN S i : Nat) : Int)).toNat = rowN S i by omega, ocB_cg (v := rowU S i) i3]
      exact (RO_188 h a1.1 a1.2 hz).2 i i1
    · show (if S.1 186 (rowU A r k) = 0 then (1 : Int) else 0) = 1
      by_cases c : S.1 186 (rowU A r k) = 0
      · rw [if_pos c]
      · obtain ⟨i, i1, i2⟩ := RO_live h a1.1 a1.2 c
        have nz : S.1 190 i ≠ 0 := by
          intro z
          have z2 := (hL i (by omega) (by omega)).2.2.1 z
          have z3 : rowN S i = 0 := by
            unfold rowN
            omega
          rw [z3] at i2
          exact absurd i2 (by show ¬ (0 : Int) = 1; decide)
        obtain ⟨o, o1, oi⟩ := hm2 i (by omega) (by omega) nz
        obtain ⟨i', i1', i2', i3', oi'⟩ := rows o.toNat (by omega)
        have ei : i' = i := by
          have q1 := oi.2.1
          have q2 := oi'.2.1
          rw [show ((o.toNat : Nat) : Int) = o by omega, ← q1] at q2
          have := hd1 i' i (by omega) (by omega) (by omega) (by omega) q2 (by rw [q2]; exact nz)
          omega
        have hz : ocB (fun k => B.1 450 (200 * (o.toNat : Nat) + k)) (B.1 451 (o.toNat : Nat)).toNat (rowU A r k) = 0 := ho o.toNat (by omega)
        rw [i2', show (((rowN S i' : Nat) : Int)).toNat = rowN S i' by omega, ocB_cg (v := rowU S i') i3', ei] at hz
        omega) (fun s' hs' => by
    obtain ⟨i, i1, i2, i3, -⟩ := rows s' hs'
    have lb := (hL i (by omega) (by omega)).1
    refine ⟨?_, ?_, fun k hk => ⟨?_, rfl⟩⟩
    · show _ = (((B.1 451 s').toNat : Nat) : Int)
      rw [i2]
      omega
    · show (B.1 451 s').toNat ≤ 192
      rw [i2]
      unfold rowN
      omega
    · have hk' : k < rowN S i := by
        have : k < (B.1 451 s').toNat := hk
        rw [i2] at this
        omega
      show 0 ≤ B.1 450 (200 * s' + k) ∧ B.1 450 (200 * s' + k) < 300
      rw [i3 k hk']
      exact (OL_ent h i1 hk').1) j 0 B (by omega) ⟨rfl, by
      rw [sm_0 (n := 300) (f := fun b : Nat => ocB (rowU A r) 0 b * (if S.1 186 b = 0 then 1 else 0)) (fun j _ => Int.zero_mul _)]
      omega, by
      rw [sm_0 (n := 300) (f := fun b : Nat => ocB (rowU A r) 0 b * (if S.1 186 b = 0 then 1 else 0) * A.1 186 b) (fun j _ => by show 0 * _ * _ = _; rw [Int.zero_mul, Int.zero_mul])]
      omega, fun b _ _ => by
      show _ = _ - 0 * _
      omega, fun _ _ _ _ => rfl⟩
  have key : ∀ b : Int, 0 ≤ b → b < 300 → B.1 448 b - ocB (rowU A r) j b * (if S.1 186 b = 0 then 1 else 0) = S.1 448 b ∧ A.1 186 b - ocB (rowU A r) j b * (if S.1 186 b = 0 then 1 else 0) * A.1 186 b = S.1 186 b := by
    intro b b0 b1
    have o := (v5 b b0 b1).2.1
    have p := (hB b b0 b1).2.1
    by_cases c : S.1 186 b = 0
    · rw [c, if_pos rfl] at p
      rw [if_pos c, o, p, c]
      by_cases ca : A.1 186 b = 0
      · have z : ocB (rowU A r) j b = 0 := by
          rcases ocB_01 (rowU A r) b j with y | y
          · exact y
          · obtain ⟨k, k1, k2⟩ := ocB_ex _ y
            have := (v7 k k1).2.1
            rw [k2] at this
            exact absurd ca this
        rw [z, if_pos ca, ca]
        decide
      · rcases (v6 b b0 b1).2 c ca with y | y
        · exact absurd y (fun z => z)
        · rw [y, if_neg ca]
          omega
    · rw [if_neg c] at p
      rw [if_neg c, o, (v6 b b0 b1).1 c, if_neg c, p]
      omega
  refine ⟨T', kT, t1, ⟨?_, ?_⟩, fun b b0 b1 => ?_, t5⟩
  · rw [t2, ← c1, c2, s1, ← sm_sub]
    exact sm_cg (fun k hk => (key k (by omega) (by omega)).1)
  · rw [t3, ← c3, c4, s2, ← sm_sub]
    exact sm_cg (fun k hk => (key k (by omega) (by omega)).2)
  · rw [t4 b b0 b1]
    exact (key b b0 b1).1
end Save4
