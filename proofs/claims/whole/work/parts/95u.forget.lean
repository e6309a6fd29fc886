/-! forget on both sides, its end -/
section Forget2
variable {q : Nat × (Nat → Int32)} {S : ms} {a b d m : Int}
/-- of the first k that go, those that D says are dropped -/
def DR (V R : ms) (u : Nat → Int) (D z : Int → Int) (k : Nat) : Prop := R.2 = V.2 ∧ R.1 367 123 = V.1 367 123 - sm (fun b => ocB u k b * D b) 300 ∧ R.1 367 124 = V.1 367 124 - sm (fun b => ocB u k b * D b * z b) 300 ∧ (∀ b : Int, 0 ≤ b → b < 300 → R.1 448 b = V.1 448 b - ocB u k b * D b) ∧ ∀ (a : Nat) (i : Int), ¬ (a = 367 ∧ (i = 123 ∨ i = 124)) → ¬ (a = 448 ∧ 0 ≤ i ∧ i < 300) → R.1 a i = V.1 a i
theorem ocB_s (u : Nat → Int) (k : Nat) (b : Int) : ocB u (k + 1) b = if u k = b then 1 else ocB u k b := rfl
theorem lp_fg4 {V : ms} {x1 x2 : Int} {N n : Nat} {u : Nat → Int} {D z : Int → Int} {nn : Nat → Nat} {v : Nat → Nat → Int} (hN : V.1 367 129 = N) (hN8 : N ≤ 8) (hn : n ≤ 192) (hD : ∀ b, D b = 0 ∨ D b = 1) (hu : ∀ k, k < n → (0 ≤ u k ∧ u k < 300) ∧ V.1 452 k = u k ∧ V.1 448 (u k) = 1 ∧ V.1 447 (u k) = z (u k) ∧ (D (u k) = 1 ↔ ∀ s, s < N → ocB (v s) (nn s) (u k) = 0)) (hs : ∀ s : Nat, s < N → V.1 451 s = nn s ∧ nn s ≤ 192 ∧ ∀ j : Nat, j < nn s → (0 ≤ v s j ∧ v s j < 300) ∧ V.1 450 (200 * s + j) = v s j) : ∀ (t k : Nat) (R : ms), k + t = n → DR V R u D z k → ∃ T', EV q 427 176 [some (.ref 367), some (vI x1), some (vI x2), some (vI n), some (vI (sm (fun b => ocB u k b * D b) 300)), some (vI k)] [] R (some (vI (sm (fun b => ocB u n b * D b) 300))) T' ∧ DR V T' u D z n := by
  have wn : Unit → w32 (n : Int) = n := fun _ => w32_of (by omega)
  intro t
  induction t with
  | zero =>
    intro k R hk hR
    have e : k = n := by omega
    subst e
    exact ⟨R, vc_MD_forget_176 _ _ _ _ _ ⟨fun _ => ⟨rfl, rfl⟩, fun n => absurd (Int.le_refl _) n⟩, hR⟩
  | succ t ih =>
    intro k R hk hR
    obtain ⟨r1, r2, r3, r4, r5⟩ := hR
    obtain ⟨u1, u2, u3, u4, u5⟩ := hu k (by omega)
    have wk : Unit → w32 (k : Int) = k := fun _ => w32_of (by omega)
    have e452 : R.1 452 k = u k := by rw [r5 _ _ (by omega) (by omega), u2]
    have ek : ((k + 1 : Nat) : Int) = (k : Int) + 1 := by omega
    have dr := md_drop (q := q) (T := R) (x1 := u k) (N := N) (n := nn) (u := v) (by rw [r5 _ _ (by omega) (by omega), hN]) hN8 u1 (fun s hs' => by
      obtain ⟨s1, s2, s3⟩ := hs s hs'
      exact ⟨by rw [r5 _ _ (by omega) (by omega), s1], s2, fun j hj => ⟨(s3 j hj).1, by rw [r5 _ _ (by omega) (by omega)]; exact (s3 j hj).2⟩⟩)
    have o01 := ocB_01 u (u k) k
    by_cases c : D (u k) = 1 ∧ ocB u k (u k) = 0
    · have h1 := dr.2 (u5.mp c.1) (by rw [r4 _ u1.1 u1.2, u3, c.2]; omega)
      have e447 : R.1 447 (u k) = z (u k) := by rw [r5 _ _ (by omega) (by omega), u4]
      rw [e447] at h1
      have hi : (u k).toNat < 300 := by omega
      have ei : (((u k).toNat : Nat) : Int) = u k := by omega
      have e1 : sm (fun b : Nat => ocB u (k + 1) b * D b) 300 = sm (fun b : Nat => ocB u k b * D b) 300 + 1 := by
        rw [sm_upd (f := fun b : Nat => ocB u k b * D b) (g := fun b : Nat => ocB u (k + 1) b * D b) hi (fun j _ hne => by
          show ocB u (k + 1) j * D j = _
          rw [ocB_s, if_neg (by omega)])]
        show _ + (ocB u (k + 1) ((u k).toNat : Nat) * D ((u k).toNat : Nat) - ocB u k ((u k).toNat : Nat) * D ((u k).toNat : Nat)) = _
        rw [ei, ocB_s, if_pos rfl, c.1, c.2]
        omega
      have e2 : sm (fun b : Nat => ocB u (k + 1) b * D b * z b) 300 = sm (fun b : Nat => ocB u k b * D b * z b) 300 + z (u k) := by
        rw [sm_upd (f := fun b : Nat => ocB u k b * D b * z b) (g := fun b : Nat => ocB u (k + 1) b * D b * z b) hi (fun j _ hne => by
          show ocB u (k + 1) j * D j * z j = _
          rw [ocB_s, if_neg (by omega)])]
        show _ + (ocB u (k + 1) ((u k).toNat : Nat) * D ((u k).toNat : Nat) * z ((u k).toNat : Nat) - ocB u k ((u k).toNat : Nat) * D ((u k).toNat : Nat) * z ((u k).toNat : Nat)) = _
        rw [ei, ocB_s, if_pos rfl, c.1, c.2]
        omega
      have q2 : ∀ (a : Nat) (i : Int), (wI (wI (wI R 448 (u k) 0) 367 123 (R.1 367 123 - 1)) 367 124 (R.1 367 124 - z (u k))).1 a i = if a = 367 ∧ i = 124 then R.1 367 124 - z (u k) else if a = 367 ∧ i = 123 then R.1 367 123 - 1 else if a = 448 ∧ i = u k then 0 else R.1 a i := fun _ _ => rfl
      obtain ⟨T', k1, k2⟩ := ih (k + 1) _ (by omega) (show DR V (wI (wI (wI R 448 (u k) 0) 367 123 (R.1 367 123 - 1)) 367 124 (R.1 367 124 - z (u k))) u D z (k + 1) by
        refine ⟨r1, ?_, ?_, fun b b0 b1 => ?_, fun a i h1 h2 => ?_⟩
        · rw [q2, if_neg (by omega), if_pos ⟨rfl, rfl⟩, r2, e1]
          omega
        · rw [q2, if_pos ⟨rfl, rfl⟩, r3, e2]
          omega
        · rw [q2, if_neg (by omega), if_neg (by omega), ocB_s]
          by_cases cb : u k = b
          · rw [if_pos ⟨rfl, cb.symm⟩, if_pos cb, ← cb, u3, c.1]
            omega
          · rw [if_neg (fun z => cb z.2.symm), if_neg cb, r4 b b0 b1]
        · rw [q2, if_neg (by omega), if_neg (by omega), if_neg (by omega), r5 a i h1 h2])
      rw [e1, ek] at k1
      refine ⟨T', vc_MD_forget_176 _ _ _ _ _ ?_, k2⟩
      rw [wn (), wk (), e452]
      exact ⟨fun n => absurd n (by omega), fun _ => ⟨by omega, 1, _, h1, k1⟩⟩
    · have same : ∀ b : Int, ocB u (k + 1) b * D b = ocB u k b * D b := by
        intro b
        rw [ocB_s]
        by_cases cb : u k = b
        · rw [if_pos cb, ← cb]
          rcases hD (u k) with y | y
          · rw [y]
            omega
          · have : ocB u k (u k) = 1 := by omega
            rw [this]
        · rw [if_neg cb]
      have h0 := dr.1 (by
        rcases hD (u k) with y | y
        · refine Or.inl (Classical.byContradiction (fun z => ?_))
          have : D (u k) = 1 := u5.mpr (fun s hs' => by
            rcases ocB_01 (v s) (u k) (nn s) with w | w
            · exact w
            · exact absurd ⟨s, hs', w⟩ z)
          omega
        · refine Or.inr ?_
          have : ocB u k (u k) = 1 := by omega
          rw [r4 _ u1.1 u1.2, u3, this, y]
          rfl)
      have e1 : sm (fun b : Nat => ocB u (k + 1) b * D b) 300 = sm (fun b : Nat => ocB u k b * D b) 300 := sm_cg (fun j _ => same j)
      have e2 : sm (fun b : Nat => ocB u (k + 1) b * D b * z b) 300 = sm (fun b : Nat => ocB u k b * D b * z b) 300 := sm_cg (fun j _ => by show ocB u (k + 1) j * D j * z j = _; rw [same])
      obtain ⟨T', k1, k2⟩ := ih (k + 1) R (by omega) ⟨r1, by rw [e1, r2], by rw [e2, r3], fun b b0 b1 => by rw [same, r4 b b0 b1], r5⟩
      rw [e1, ek] at k1
      refine ⟨T', vc_MD_forget_176 _ _ _ _ _ ?_, k2⟩
      rw [wn (), wk (), e452]
      refine ⟨fun n => absurd n (by omega), fun _ => ⟨by omega, 0, _, h0, ?_⟩⟩
      rw [Int.add_zero]
      exact k1
/-- the cells of the store -/
abbrev XO (a : Nat) (k : Int) : Prop := (184 ≤ a ∧ a ≤ 192) ∨ (446 ≤ a ∧ a ≤ 452) ∨ (a = 367 ∧ (k = 0 ∨ k = 123 ∨ k = 124 ∨ k = 129 ∨ k = 130))
/-- BLOCK b goes with row r -/
def dB (S : ms) (r b : Int) : Int := if S.1 186 b ≠ 0 ∧ S.1 188 b - ocN (fun k => S.1 192 (192 * r + k)) (S.1 191 r).toNat b = 0 then 1 else 0
theorem dB_01 (S : ms) (r b : Int) : dB S r b = 0 ∨ dB S r b = 1 := by
  unfold dB
  split
  · exact Or.inr rfl
  · exact Or.inl rfl
/-- row r of the class -/
def rowU (S : ms) (r : Int) : Nat → Int := fun k => S.1 192 (192 * r + k)
def rowN (S : ms) (r : Int) : Nat := (S.1 191 r).toNat
theorem dB_sum (h : RO m S) {r : Nat} (hr : r < 8) {b : Int} (b0 : 0 ≤ b) (b1 : b < 300) : S.1 188 b - ocN (rowU S r) (rowN S r) b = sm (fun i => if i = r then 0 else ocN (rowU S i) (rowN S i) b) 8 := by
  obtain ⟨-, -, -, -, -, -, h7, -⟩ := h
  rw [(h7 b b0 b1).1]
  rw [sm_upd (f := fun i : Nat => ocN (fun k => S.1 192 (192 * i + k)) (S.1 191 i).toNat b) (g := fun i : Nat => if i = r then 0 else ocN (rowU S i) (rowN S i) b) hr (fun j _ hne => if_neg hne)]
  show _ = _ + ((if r = r then 0 else ocN (rowU S r) (rowN S r) b) - ocN (rowU S r) (rowN S r) b)
  rw [if_pos rfl]
  show _ - ocN (rowU S r) (rowN S r) b = _
  omega
theorem dB_nn (S : ms) (r : Nat) (b : Int) : ∀ i : Nat, i < 8 → 0 ≤ (fun i : Nat => if i = r then (0 : Int) else ocN (rowU S i) (rowN S i) b) i := by
  intro i _
  show 0 ≤ if i = r then (0 : Int) else ocN (rowU S i) (rowN S i) b
  split
  · exact Int.le_refl _
  · exact (ocN_rg _ _ _).1
/-- in another row: it stays -/
theorem dB_other (h : RO m S) {r i : Nat} (hr : r < 8) (hi : i < 8) (hne : i ≠ r) {b : Int} (b0 : 0 ≤ b) (b1 : b < 300) (hb : ocB (rowU S i) (rowN S i) b = 1) : dB S r b = 0 := by
  unfold dB
  refine if_neg (fun z => ?_)
  have e := dB_sum h hr b0 b1
  have e0 : sm (fun i => if i = r then 0 else ocN (rowU S i) (rowN S i) b) 8 = 0 := by rw [← e]; exact z.2
  have y := sm_z (dB_nn S r b) e0 i hi
  have y2 : ocN (rowU S i) (rowN S i) b = 0 := by
    have : (if i = r then (0 : Int) else ocN (rowU S i) (rowN S i) b) = 0 := y
    rw [if_neg hne] at this
    exact this
  have := (ocN_B _ _ _).mp y2
  omega
/-- in row r alone: it goes -/
theorem dB_alone (h : RO m S) {r : Nat} (hr : r < 8) {b : Int} (b0 : 0 ≤ b) (b1 : b < 300) (hb : ocB (rowU S r) (rowN S r) b = 1) (ho : ∀ i : Nat, i < 8 → i ≠ r → ocB (rowU S i) (rowN S i) b = 0) : dB S r b = 1 := by
  unfold dB
  refine if_pos ⟨?_, ?_⟩
  · obtain ⟨j, j1, j2⟩ := ocB_ex _ hb
    obtain ⟨-, -, -, h4, -⟩ := h
    obtain ⟨-, -, -, o4, -⟩ := h4 r (by omega) (by omega)
    have := (o4 j (by omega) (by unfold rowN at j1; omega)).2
    rw [show S.1 192 (192 * (r : Int) + (j : Int)) = b from j2] at this
    exact this
  · have e := dB_sum h hr b0 b1
    refine e.trans (sm_0 (fun i hi => ?_))
    show (if i = r then (0 : Int) else ocN (rowU S i) (rowN S i) b) = 0
    by_cases c : i = r
    · rw [if_pos c]
    · rw [if_neg c]
      exact (ocN_B _ _ _).mpr (ho i hi c)
/-- what goes was in row r -/
theorem dB_in (h : RO m S) {r : Nat} {b : Int} (b0 : 0 ≤ b) (b1 : b < 300) (hb : dB S r b = 1) : ocB (rowU S r) (rowN S r) b = 1 := by
  unfold dB at hb
  by_cases c : S.1 186 b ≠ 0 ∧ S.1 188 b - ocN (fun k => S.1 192 (192 * (r : Int) + k)) (S.1 191 r).toNat b = 0
  · obtain ⟨-, -, -, -, -, -, h7, -⟩ := h
    have h1 := (h7 b b0 b1).2 c.1
    rcases ocB_01 (rowU S r) b (rowN S r) with y | y
    · have y2 := (ocN_B (rowU S r) b (rowN S r)).mpr y
      have y3 : ocN (fun k => S.1 192 (192 * (r : Int) + k)) (S.1 191 r).toNat b = 0 := y2
      omega
    · exact y
  · rw [if_neg c] at hb
    exact absurd hb (by decide)
end Forget2
