/-! forget: the store's relation behind it, and the call -/
section Forget3
variable {q : Nat × (Nat → Int32)} {S T : ms} {a b d m : Int}
abbrev RF (a : Nat) (k : Int) : Prop := (184 ≤ a ∧ a ≤ 192 ∧ a ≠ 189) ∨ (446 ≤ a ∧ a ≤ 451) ∨ (a = 367 ∧ (k = 123 ∨ k = 124 ∨ k = 129 ∨ k = 130))
theorem RO_cg (h : RO m S) (e : ∀ (a : Nat) (k : Int), RF a k → T.1 a k = S.1 a k) : RO m T := by
  have e184 : T.1 184 = S.1 184 := funext (fun k => e _ _ (Or.inl (by decide)))
  have e185 : T.1 185 = S.1 185 := funext (fun k => e _ _ (Or.inl (by decide)))
  have e186 : T.1 186 = S.1 186 := funext (fun k => e _ _ (Or.inl (by decide)))
  have e187 : T.1 187 = S.1 187 := funext (fun k => e _ _ (Or.inl (by decide)))
  have e188 : T.1 188 = S.1 188 := funext (fun k => e _ _ (Or.inl (by decide)))
  have e190 : T.1 190 = S.1 190 := funext (fun k => e _ _ (Or.inl (by decide)))
  have e191 : T.1 191 = S.1 191 := funext (fun k => e _ _ (Or.inl (by decide)))
  have e192 : T.1 192 = S.1 192 := funext (fun k => e _ _ (Or.inl (by decide)))
  have e446 : T.1 446 = S.1 446 := funext (fun k => e _ _ (Or.inr (Or.inl (by decide))))
  have e447 : T.1 447 = S.1 447 := funext (fun k => e _ _ (Or.inr (Or.inl (by decide))))
  have e448 : T.1 448 = S.1 448 := funext (fun k => e _ _ (Or.inr (Or.inl (by decide))))
  have e449 : T.1 449 = S.1 449 := funext (fun k => e _ _ (Or.inr (Or.inl (by decide))))
  have e450 : T.1 450 = S.1 450 := funext (fun k => e _ _ (Or.inr (Or.inl (by decide))))
  have e451 : T.1 451 = S.1 451 := funext (fun k => e _ _ (Or.inr (Or.inl (by decide))))
  have x1 := e 367 123 (Or.inr (Or.inr (by decide)))
  have x2 := e 367 124 (Or.inr (Or.inr (by decide)))
  have x3 := e 367 129 (Or.inr (Or.inr (by decide)))
  have x4 := e 367 130 (Or.inr (Or.inr (by decide)))
  unfold RO OB OL OR at h ⊢
  rw [e184, e185, e186, e187, e188, e190, e191, e192, e446, e447, e448, e449, e450, e451, x1, x2, x3, x4]
  exact h
/-- what forget of the reference's SNAPSHOT s, the class's row r, leaves -/
def FG (S T : ms) (s : Int) (r : Nat) : Prop := (T.1 184 0 = S.1 184 0 - sm (fun b => dB S r b) 300 ∧ T.1 184 1 = S.1 184 1 - sm (fun b => dB S r b * S.1 186 b) 300 ∧ T.1 184 2 = S.1 184 2 - 1 ∧ T.1 184 3 = S.1 184 3) ∧ (T.1 185 = S.1 185 ∧ T.1 187 = S.1 187 ∧ T.1 192 = S.1 192 ∧ T.1 446 = S.1 446 ∧ T.1 447 = S.1 447) ∧ (∀ b : Int, 0 ≤ b → b < 300 → T.1 186 b = S.1 186 b - dB S r b * S.1 186 b ∧ T.1 188 b = S.1 188 b - ocN (rowU S r) (rowN S r) b ∧ T.1 448 b = S.1 448 b - dB S r b) ∧ (∀ i : Int, T.1 190 i = (if i = r then 0 else S.1 190 i) ∧ T.1 191 i = if i = r then 0 else S.1 191 i) ∧ (∀ j : Int, T.1 449 j = (if s ≤ j ∧ j < S.1 184 2 - 1 then S.1 449 (j + 1) else S.1 449 j) ∧ (T.1 451 j = if s ≤ j ∧ j < S.1 184 2 - 1 then S.1 451 (j + 1) else S.1 451 j) ∧ T.1 450 j = if 200 * s ≤ j ∧ j < 200 * (S.1 184 2 - 1) + 0 then S.1 450 (j + 200) else S.1 450 j) ∧ (T.1 367 123 = S.1 367 123 - sm (fun b => dB S r b) 300 ∧ T.1 367 124 = S.1 367 124 - sm (fun b => dB S r b * S.1 186 b) 300 ∧ T.1 367 129 = S.1 367 129 - 1 ∧ T.1 367 130 = S.1 367 130)
theorem OL_ent (h : RO m S) {i : Nat} (hi : i < 8) {k : Nat} (hk : k < rowN S i) : (0 ≤ rowU S i k ∧ rowU S i k < 300) ∧ S.1 186 (rowU S i k) ≠ 0 := by
  obtain ⟨-, -, -, h4, -⟩ := h
  obtain ⟨-, -, -, o4, -⟩ := h4 i (by omega) (by omega)
  exact o4 k (by omega) (by unfold rowN at hk; omega)
theorem FG_OB (h : RO m S) {s : Int} {r : Nat} (f : FG S T s r) {b : Int} (b0 : 0 ≤ b) (b1 : b < 300) : OB T b := by
  obtain ⟨-, ⟨e185, e187, -, e446, e447⟩, f3, -⟩ := f
  obtain ⟨y1, -, y3⟩ := f3 b b0 b1
  obtain ⟨o1, o2, o3⟩ := h.2.2.1 b b0 b1
  have d01 := dB_01 S r b
  unfold OB
  rcases d01 with d0 | d1
  · rw [d0] at y1 y3
    have y1' : T.1 186 b = S.1 186 b := by omega
    have y3' : T.1 448 b = S.1 448 b := by omega
    rw [y1', y3', e185, e187, e446, e447]
    exact ⟨o1, o2, o3⟩
  · have z : S.1 186 b ≠ 0 := by
      intro z
      unfold dB at d1
      rw [if_neg (fun w => w.1 z)] at d1
      exact absurd d1 (by decide)
    rw [if_neg z] at o2
    rw [d1] at y1 y3
    have y1' : T.1 186 b = 0 := by omega
    have y3' : T.1 448 b = 0 := by omega
    rw [y1', y3']
    exact ⟨by decide, rfl, fun n => absurd rfl n⟩
theorem FG_ent (h : RO m S) {s : Int} {r : Nat} (hr : r < 8) (f : FG S T s r) {i : Nat} (hi : i < 8) (hne : i ≠ r) {k : Nat} (hk : k < rowN S i) : T.1 186 (rowU S i k) = S.1 186 (rowU S i k) := by
  obtain ⟨-, -, f3, -⟩ := f
  obtain ⟨v1, v2⟩ := OL_ent h hi hk
  obtain ⟨y1, -, -⟩ := f3 _ v1.1 v1.2
  rw [y1, dB_other h hr hi hne v1.1 v1.2 (ocB_in _ hk rfl)]
  omega
theorem FG_OL (h : RO m S) {s : Int} {r : Nat} (hr : r < 8) (f : FG S T s r) {i : Nat} (hi : i < 8) : OL T (T.1 184 3) i := by
  obtain ⟨⟨-, -, -, x4⟩, ⟨-, -, e192, -⟩, f3, f4, -⟩ := id f
  obtain ⟨g1, g2⟩ := f4 i
  have n0 : 0 ≤ S.1 184 3 := h.2.1.2.1
  unfold OL
  by_cases c : i = r
  · rw [if_pos (by omega)] at g1 g2
    rw [g1, g2, x4]
    exact ⟨by decide, ⟨Int.le_refl _, n0⟩, fun _ => rfl, fun k k0 k1 => absurd k1 (by omega), by show (0 : Int) ≤ 6000; decide⟩
  · rw [if_neg (by omega)] at g1 g2
    obtain ⟨o1, o2, o3, o4, o5⟩ := h.2.2.2.1 i (by omega) (by omega)
    rw [g1, g2, x4, e192]
    have ent : ∀ k : Nat, k < (S.1 191 i).toNat → T.1 186 (S.1 192 (192 * (i : Int) + k)) = S.1 186 (S.1 192 (192 * (i : Int) + k)) := fun k hk => FG_ent h hr f hi c hk
    refine ⟨o1, o2, o3, fun k k0 k1 => ⟨(o4 k k0 k1).1, ?_⟩, ?_⟩
    · have := ent k.toNat (by omega)
      rw [show ((k.toNat : Nat) : Int) = k by omega] at this
      rw [this]
      exact (o4 k k0 k1).2
    · rw [sm_cg (fun k hk => ent k hk)]
      exact o5
/-- SNAPSHOT j behind the move was SNAPSHOT o -/
theorem FG_OR (h : RO m S) {s : Int} {r : Nat} (hs : 0 ≤ s ∧ s < S.1 184 2) (f : FG S T s r) {j o : Int} (hj : 0 ≤ j ∧ j < S.1 184 2 - 1) (ho : o = if j < s then j else j + 1) {i : Int} (hi : i ≠ r) (hO : OR S o i) : OR T j i := by
  obtain ⟨-, ⟨-, -, e192, -⟩, -, f4, f5, -⟩ := f
  obtain ⟨o1, o2, o3, o4⟩ := hO
  obtain ⟨g1, g2⟩ := f4 i
  rw [if_neg hi] at g1 g2
  obtain ⟨k1, k2, -⟩ := f5 j
  obtain ⟨-, -, -, h4, -⟩ := h
  obtain ⟨q1, -⟩ := h4 i o1.1 o1.2
  unfold OR
  rw [g1, g2, e192]
  by_cases c : j < s
  · rw [if_pos c] at ho
    rw [if_neg (by omega)] at k1 k2
    rw [ho] at o2 o3 o4
    refine ⟨o1, by rw [k1, o2], by rw [k2, o3], fun k k0 kn => ?_⟩
    rw [(f5 _).2.2, if_neg (by omega), o4 k k0 kn]
  · rw [if_neg c] at ho
    rw [if_pos (by omega)] at k1 k2
    rw [ho] at o2 o3 o4
    refine ⟨o1, by rw [k1, o2], by rw [k2, o3], fun k k0 kn => ?_⟩
    rw [(f5 _).2.2, if_pos (by omega), show 200 * j + k + 200 = 200 * (j + 1) + k by omega, o4 k k0 kn]
theorem FG_449 {s : Int} {r : Nat} (f : FG S T s r) {j : Int} (hj : 0 ≤ j ∧ j < S.1 184 2 - 1) : T.1 449 j = S.1 449 (if j < s then j else j + 1) := by
  obtain ⟨-, -, -, -, f5, -⟩ := f
  rw [(f5 j).1]
  by_cases c : j < s
  · rw [if_neg (by omega), if_pos c]
  · rw [if_pos (by omega), if_neg c]
theorem FG_RO (h : RO m S) {s : Int} {r : Nat} (hr : r < 8) (hs : 0 ≤ s ∧ s < S.1 184 2) (hO : OR S s r) (f : FG S T s r) : RO m T := by
  have hT3 : ∀ i : Nat, i < 8 → OL T (T.1 184 3) i := fun i hi => FG_OL h hr f hi
  obtain ⟨⟨x1, x2, x3, x4⟩, ⟨e185, e187, e192, e446, e447⟩, f3, f4, f5, y1, y2, y3, y4⟩ := id f
  obtain ⟨⟨c1, c2, c3, c4⟩, ⟨n1, n2, n3, n4⟩, hB, hL, ⟨hd1, hd2⟩, ⟨hm1, hm2⟩, hu, s1, s2, s3⟩ := id h
  have rs : S.1 190 r = S.1 449 s := hO.2.1
  have oNe : ∀ j : Int, (0 ≤ j ∧ j < S.1 184 2 - 1) → (if j < s then j else j + 1) ≠ s ∧ 0 ≤ (if j < s then j else j + 1) ∧ (if j < s then j else j + 1) < S.1 184 2 := by
    intro j hj
    split <;> omega
  have iNe : ∀ (o i : Int), 0 ≤ o → o < S.1 184 2 → o ≠ s → OR S o i → i ≠ r := by
    intro o i o0 o1 on hi e
    have e2 := hi.2.1
    rw [e, rs] at e2
    exact on (hd2 o s o0 o1 hs.1 hs.2 e2.symm)
  refine ⟨⟨by omega, by omega, by omega, by omega⟩, ⟨by omega, by omega, by omega, n4⟩, fun b b0 b1 => FG_OB h f b0 b1, fun i i0 i1 => ?_, ⟨fun i i' i0 i1 j0 j1 e hne => ?_, fun j j' j0 j1 k0 k1 e => ?_⟩, ⟨fun j j0 j1 => ?_, fun i i0 i1 hne => ?_⟩, fun b b0 b1 => ?_, ?_, ?_, ?_⟩
  · have := hT3 i.toNat (by omega)
    rw [show ((i.toNat : Nat) : Int) = i by omega] at this
    exact this
  · rw [(f4 i).1] at e hne
    rw [(f4 i').1] at e
    by_cases c : i = r
    · rw [if_pos c] at hne
      exact absurd rfl hne
    · rw [if_neg c] at e hne
      by_cases c' : i' = r
      · rw [if_pos c'] at e
        exact absurd e hne
      · rw [if_neg c'] at e
        exact hd1 i i' i0 i1 j0 j1 e hne
  · have b1 : 0 ≤ j ∧ j < S.1 184 2 - 1 := by omega
    have b2 : 0 ≤ j' ∧ j' < S.1 184 2 - 1 := by omega
    rw [FG_449 f b1, FG_449 f b2] at e
    have z1 := oNe j b1
    have z2 := oNe j' b2
    have := hd2 _ _ z1.2.1 z1.2.2 z2.2.1 z2.2.2 e
    by_cases c : j < s
    · rw [if_pos c] at this
      by_cases c' : j' < s
      · rw [if_pos c'] at this
        exact this
      · rw [if_neg c'] at this
        omega
    · rw [if_neg c] at this
      by_cases c' : j' < s
      · rw [if_pos c'] at this
        omega
      · rw [if_neg c'] at this
        omega
  · have b1 : 0 ≤ j ∧ j < S.1 184 2 - 1 := by omega
    have z1 := oNe j b1
    obtain ⟨p1, i, hi⟩ := hm1 _ z1.2.1 z1.2.2
    exact ⟨by rw [FG_449 f b1]; exact p1, i, FG_OR h hs f b1 rfl (iNe _ _ z1.2.1 z1.2.2 z1.1 hi) hi⟩
  · rw [(f4 i).1] at hne
    by_cases c : i = r
    · rw [if_pos c] at hne
      exact absurd rfl hne
    · rw [if_neg c] at hne
      obtain ⟨o, o1, hi⟩ := hm2 i i0 i1 hne
      have on : o ≠ s := by
        intro e
        have e2 := hi.2.1
        rw [e, ← rs] at e2
        exact c (hd1 i r i0 i1 (by omega) (by omega) e2 hne)
      by_cases co : o < s
      · exact ⟨o, by omega, FG_OR h hs f (by omega) (by rw [if_pos co]) c hi⟩
      · exact ⟨o - 1, by omega, FG_OR h hs f (by omega) (by rw [if_neg (by omega)]; omega) c hi⟩
  · obtain ⟨g1, g2, g3⟩ := f3 b b0 b1
    have sb := dB_sum h hr b0 b1
    constructor
    · rw [g2, sb]
      refine sm_cg (fun i hi => ?_)
      show (if i = r then (0 : Int) else ocN (rowU S i) (rowN S i) b) = ocN (fun k => T.1 192 (192 * (i : Int) + k)) (T.1 191 i).toNat b
      rw [(f4 i).2, e192]
      by_cases c : i = r
      · rw [if_pos c, if_pos (by omega)]
        rfl
      · rw [if_neg c, if_neg (by omega)]
        rfl
    · intro hz
      have nn := sm_nn (dB_nn S r b)
      rcases dB_01 S r b with d0 | d1
      · rw [d0] at g1
        have hz' : S.1 186 b ≠ 0 := by
          intro z
          rw [z] at g1
          omega
        unfold dB at d0
        by_cases c : S.1 188 b - ocN (rowU S r) (rowN S r) b = 0
        · rw [if_pos ⟨hz', c⟩] at d0
          exact absurd d0 (by decide)
        · rw [g2]
          omega
      · rw [d1] at g1
        exact absurd (by omega) hz
  · rw [x1, s1, ← sm_sub]
    exact sm_cg (fun j hj => ((f3 j (by omega) (by omega)).2.2).symm)
  · rw [x2, s2, ← sm_sub]
    exact sm_cg (fun j hj => ((f3 j (by omega) (by omega)).1).symm)
  · have : 0 ≤ sm (fun b : Nat => dB S r b * S.1 186 b) 300 := sm_nn (fun j hj => by
      have d01 := dB_01 S r j
      have z := (hB j (by omega) (by omega)).1
      show 0 ≤ dB S r j * S.1 186 j
      exact Int.mul_nonneg (by omega) z.1)
    omega
/-- forget(snapshot) -/
theorem op34_ok (ha : -2147483648 ≤ a ∧ a < 2147483648) (h : RO m S) : op_34 q a b d S (fun T => EX XO S T ∧ RO m T) := by
  have e129 : (wI S 367 0 0).1 367 129 = S.1 367 129 := r0 129 (by decide)
  have e449 : ∀ i : Int, (wI S 367 0 0).1 449 i = S.1 449 i := fun i => r0a 449 i (by decide)
  rcases st_find (q := q) h ha with ⟨s, r, hs, -, -, hO, c1, c2⟩ | ⟨c1, c2⟩
  · obtain ⟨rn, ern⟩ : ∃ rn : Nat, r = rn := ⟨r.toNat, by have := hO.1; omega⟩
    subst ern
    obtain ⟨⟨x1, x2, x3, x4⟩, ⟨n1, n2, n3, n4⟩, hB, hL, ⟨hd1, hd2⟩, ⟨hm1, hm2⟩, hu, s1, s2, s3⟩ := id h
    obtain ⟨o1, o2, o3, o4⟩ := id hO
    have hr8 : rn < 8 := by omega
    obtain ⟨⟨e1, e2⟩, hur⟩ := RO_row h o1
    have wr : Unit → w32 (rn : Int) = rn := fun _ => w32_of (by omega)
    have ws : w32 s = s := w32_of (by omega)
    have wn : Unit → w32 ((rowN S rn : Nat) : Int) = rowN S rn := fun _ => w32_of (by unfold rowN; omega)
    have en : S.1 191 rn = ((rowN S rn : Nat) : Int) := e1.symm
    have uz : ∀ b : Int, 0 ≤ b → b < 300 → 0 ≤ S.1 188 b - ocN (rowU S rn) (rowN S rn) b ∧ S.1 188 b - ocN (rowU S rn) (rowN S rn) b ≤ 1536 := by
      intro b b0 b1
      rw [dB_sum h hr8 b0 b1]
      refine ⟨sm_nn (dB_nn S rn b), ?_⟩
      have := sm_le (n := 8) (f := fun i : Nat => if i = rn then 0 else ocN (rowU S i) (rowN S i) b) (c := 192) (fun i hi => by
        show (if i = rn then (0 : Int) else ocN (rowU S i) (rowN S i) b) ≤ 192
        split
        · decide
        · have z := (ocN_rg (rowU S i) b (rowN S i)).2
          have z2 := (hL i (by omega) (by omega)).1
          have z3 : ((rowN S i : Nat) : Int) ≤ 192 := by
            unfold rowN
            omega
          omega)
      omega
    -- the class
    obtain ⟨C, kC, hC⟩ : ∃ C, EV q 251 2 [some (.ref 184), some (vI rn), some (vI ((0 : Nat) : Int))] [] S (some (vI (sm (fun b => dB S rn b) 300))) C ∧ (C.2 = S.2 ∧ (C.1 184 0 = S.1 184 0 - sm (fun b => dB S rn b) 300 ∧ C.1 184 1 = S.1 184 1 - sm (fun b => dB S rn b * S.1 186 b) 300 ∧ C.1 184 2 = S.1 184 2 - 1) ∧ (∀ b : Int, 0 ≤ b → b < 300 → C.1 186 b = S.1 186 b - dB S rn b * S.1 186 b ∧ C.1 188 b = S.1 188 b - ocN (rowU S rn) (rowN S rn) b) ∧ (∀ i : Int, C.1 190 i = (if i = rn then 0 else S.1 190 i) ∧ C.1 191 i = if i = rn then 0 else S.1 191 i) ∧ ∀ (a : Nat) (k : Int), ¬ (a = 184 ∧ (k = 0 ∨ k = 1 ∨ k = 2)) → a ≠ 186 → a ≠ 188 → a ≠ 190 → a ≠ 191 → C.1 a k = S.1 a k) := by
      refine lp_leave (q := q) (S := S) (r := rn) (n := rowN S rn) (u := rowU S rn) o1 en e2 (fun j hj => hur j hj) (fun T hT => ?_) (rowN S rn) 0 S (by omega) ⟨rfl, fun _ _ _ => rfl, fun b b0 b1 => (Int.sub_zero _).symm⟩
      obtain ⟨t1, t2, t3⟩ := hT
      have q3 : ∀ (a : Nat) (k : Int), (wI (wI (wI T 190 rn 0) 191 rn 0) 184 2 (S.1 184 2 - 1)).1 a k = if a = 184 ∧ k = 2 then S.1 184 2 - 1 else if a = 191 ∧ k = rn then 0 else if a = 190 ∧ k = rn then 0 else T.1 a k := fun _ _ => rfl
      have w186 : ∀ b : Int, (wI (wI (wI T 190 rn 0) 191 rn 0) 184 2 (S.1 184 2 - 1)).1 186 b = S.1 186 b := fun b => by rw [q3, if_neg (by omega), if_neg (by omega), if_neg (by omega), t2 _ _ (by omega)]
      have w188 : ∀ b : Int, 0 ≤ b → b < 300 → (wI (wI (wI T 190 rn 0) 191 rn 0) 184 2 (S.1 184 2 - 1)).1 188 b = S.1 188 b - ocN (rowU S rn) (rowN S rn) b := fun b b0 b1 => by rw [q3, if_neg (by omega), if_neg (by omega), if_neg (by omega), t3 b b0 b1]
      have edd : ∀ b : Int, 0 ≤ b → b < 300 → dd (wI (wI (wI T 190 rn 0) 191 rn 0) 184 2 (S.1 184 2 - 1)) b = dB S rn b := by
        intro b b0 b1
        unfold dd dB
        rw [w186, w188 b b0 b1]
        rfl
      obtain ⟨C, kC, z1, z2, z3, z4, z5⟩ := sp_sweep (q := q) (S := wI (wI (wI T 190 rn 0) 191 rn 0) 184 2 (S.1 184 2 - 1)) (fun b b0 b1 => by rw [w186]; exact (hB b b0 b1).1) (fun b b0 b1 => by
        rw [w188 b b0 b1]
        have := uz b b0 b1
        exact w32_of (by omega))
      have ed1 : sm (fun b : Nat => dd (wI (wI (wI T 190 rn 0) 191 rn 0) 184 2 (S.1 184 2 - 1)) b) 300 = sm (fun b : Nat => dB S rn b) 300 := sm_cg (fun j hj => edd j (by omega) (by omega))
      have ed2 : sm (fun b : Nat => dd (wI (wI (wI T 190 rn 0) 191 rn 0) 184 2 (S.1 184 2 - 1)) b * (wI (wI (wI T 190 rn 0) 191 rn 0) 184 2 (S.1 184 2 - 1)).1 186 b) 300 = sm (fun b : Nat => dB S rn b * S.1 186 b) 300 := sm_cg (fun j hj => by
        show dd _ (j : Int) * _ = _
        rw [edd j (by omega) (by omega), w186])
      rw [ed1] at kC z2
      rw [ed2] at z3
      have e184 : ∀ k : Int, k = 0 ∨ k = 1 → (wI (wI (wI T 190 rn 0) 191 rn 0) 184 2 (S.1 184 2 - 1)).1 184 k = S.1 184 k := fun k hk => by rw [q3, if_neg (by omega), if_neg (by omega), if_neg (by omega), t2 _ _ (by omega)]
      rw [e184 0 (Or.inl rfl)] at z2
      rw [e184 1 (Or.inr rfl)] at z3
      refine ⟨C, vc_Store_leave_2 _ _ ?_, z1.trans t1, ⟨z2, z3, ?_⟩, fun b b0 b1 => ⟨?_, ?_⟩, fun i => ⟨?_, ?_⟩, fun a k h1 h2 h3 h4 h5 => ?_⟩
      · rw [wr (), t2 191 _ (by omega), en]
        refine ⟨by omega, fun _ => ⟨by omega, fun S3 f3 => ⟨by omega, fun S5 f5 S6 f6 => ⟨_, C, ?_, rfl, rfl⟩⟩⟩, fun n => absurd (Int.le_refl _) n⟩
        have e5 : S5.1 184 2 = S.1 184 2 := by
          subst f5 f3
          rw [rI_I, if_neg (by omega), rI_I, if_neg (by omega), t2 _ _ (by omega)]
        rw [e5] at f6
        subst f3 f5 f6
        exact kC
      · rw [z5 _ _ (by omega) (by omega), q3, if_pos ⟨rfl, rfl⟩]
      · rw [z4 b b0 b1, edd b b0 b1, w186]
      · rw [z5 _ _ (by omega) (by omega), w188 b b0 b1]
      · rw [z5 _ _ (by omega) (by omega), q3, if_neg (by omega), if_neg (by omega)]
        by_cases ci : i = rn
        · rw [if_pos ⟨rfl, ci⟩, if_pos ci]
        · rw [if_neg (fun z => ci z.2), if_neg ci, t2 _ _ (by omega)]
      · rw [z5 _ _ (by omega) (by omega), q3, if_neg (by omega)]
        by_cases ci : i = rn
        · rw [if_pos ⟨rfl, ci⟩, if_pos ci]
        · rw [if_neg (fun z => ci z.2), if_neg ci, if_neg (by omega), t2 _ _ (by omega)]
      · rw [z5 _ _ (by omega) (by omega), q3, if_neg (by omega), if_neg (by omega), if_neg (by omega), t2 _ _ (by omega)]
    obtain ⟨p1, ⟨p2, p3, p4⟩, p5, p6, p7⟩ := hC
    have oc : ∀ (a : Nat) (k : Int), 366 < a → ¬ (a = 367 ∧ k = 0) → (wI C 367 0 0).1 a k = S.1 a k := fun a k h1 h2 => by rw [rI_I, if_neg h2, p7 _ _ (by omega) (by omega) (by omega) (by omega) (by omega)]
    -- the reference
    obtain ⟨N, hN⟩ : ∃ N : Nat, S.1 184 2 = N := ⟨(S.1 184 2).toNat, by omega⟩
    let G := wC (wI C 367 0 0) 452 0 (rowN S rn : Nat) (fun k => (wI C 367 0 0).1 450 (200 * s + k))
    have gG : ∀ (a : Nat) (k : Int), a ≠ 452 → G.1 a k = (wI C 367 0 0).1 a k := fun a k h1 => wC_ne _ _ _ _ h1
    obtain ⟨T, kT, hT⟩ : ∃ T, EV q 427 62 [some (.ref 367), some (vI a), some (vI s), some (vI (rowN S rn : Nat)), some (vI s), none] [] G (some (vI (sm (fun b => dB S rn b) 300))) T ∧ (EX XO S T ∧ RO m T) := by
      refine lp_fg3 (q := q) (S := G) (s := s) (N := N) hs.1 (by omega) (by rw [gG _ _ (by decide), oc _ _ (by decide) (by decide), x3, hN]) (by omega) (fun U hU => ?_) (N - 1 - s.toNat) s G (Int.le_refl _) (by omega) ⟨rfl, fun j => by rw [if_neg (by omega)], fun j => by rw [if_neg (by omega)], fun i => by rw [if_neg (by omega)], fun _ _ _ _ _ => rfl⟩
      obtain ⟨u1, u2, u3, u4, u5⟩ := hU
      have q4 : ∀ (a : Nat) (k : Int), (wI U 367 129 ((N : Int) - 1)).1 a k = if a = 367 ∧ k = 129 then (N : Int) - 1 else U.1 a k := fun _ _ => rfl
      -- the rows behind the move
      have mv : ∀ s' : Nat, s' < N - 1 → ∃ i : Nat, i < 8 ∧ i ≠ rn ∧ (wI U 367 129 ((N : Int) - 1)).1 451 s' = (rowN S i : Nat) ∧ (∀ j : Nat, j < rowN S i → (wI U 367 129 ((N : Int) - 1)).1 450 (200 * s' + j) = rowU S i j) ∧ S.1 190 i = S.1 449 (if (s' : Int) < s then (s' : Int) else s' + 1) := by
        intro s' hs'
        obtain ⟨o, ho⟩ : ∃ o : Int, o = if (s' : Int) < s then (s' : Int) else s' + 1 := ⟨_, rfl⟩
        have ob : 0 ≤ o ∧ o < S.1 184 2 ∧ o ≠ s := by
          by_cases c : (s' : Int) < s
          · rw [if_pos c] at ho
            omega
          · rw [if_neg c] at ho
            omega
        obtain ⟨-, i, hi⟩ := hm1 o ob.1 ob.2.1
        obtain ⟨i1, i2, i3, i4⟩ := hi
        have ine : i ≠ rn := by
          intro e
          rw [e, o2] at i2
          exact ob.2.2 (hd2 o s ob.1 ob.2.1 hs.1 hs.2 i2.symm)
        have hl := (hL i i1.1 i1.2).1
        have ei : ((i.toNat : Nat) : Int) = i := by omega
        refine ⟨i.toNat, by omega, by omega, ?_, fun j hj => ?_, ?_⟩
        · unfold rowN
          rw [q4, if_neg (by omega), u3, ei]
          by_cases c : (s' : Int) < s
          · rw [if_pos c] at ho
            rw [if_neg (by omega), gG _ _ (by decide), oc _ _ (by decide) (by omega), ← ho, i3]
            omega
          · rw [if_neg c] at ho
            rw [if_pos (by omega), gG _ _ (by decide), oc _ _ (by decide) (by omega), ← ho, i3]
            omega
        · unfold rowN at hj
          rw [ei] at hj
          unfold rowU
          rw [q4, if_neg (by omega), u4, ei]
          by_cases c : (s' : Int) < s
          · rw [if_pos c] at ho
            rw [if_neg (by omega), gG _ _ (by decide), oc _ _ (by decide) (by omega), ← ho, i4 j (by omega) (by omega)]
          · rw [if_neg c] at ho
            rw [if_pos (by omega), gG _ _ (by decide), oc _ _ (by decide) (by omega), show 200 * (s' : Int) + j + 200 = 200 * o + j by omega, i4 j (by omega) (by omega)]
        · rw [ei, i2, ho]
      have e452 : ∀ k : Nat, k < rowN S rn → (wI U 367 129 ((N : Int) - 1)).1 452 k = rowU S rn k := by
        intro k hk
        rw [q4, if_neg (by omega), u5 _ _ (by decide) (by decide) (by decide)]
        rw [show G.1 452 (k : Int) = (wI C 367 0 0).1 450 (200 * s + ((k : Int) - 0)) from wC_in (f := fun k => (wI C 367 0 0).1 450 (200 * s + k)) (by omega) (by omega), Int.sub_zero, oc _ _ (by decide) (by omega), o4 k (by omega) (by omega)]
        rfl
      have eV : ∀ (a : Nat) (k : Int), 366 < a → a ≠ 449 → a ≠ 450 → a ≠ 451 → a ≠ 452 → ¬ (a = 367 ∧ (k = 0 ∨ k = 129)) → (wI U 367 129 ((N : Int) - 1)).1 a k = S.1 a k := by
        intro a k h1 h2 h3 h4 h5 h6
        rw [q4, if_neg (by omega), u5 _ _ h2 h3 h4, gG _ _ h5, oc _ _ h1 (by omega)]
      obtain ⟨T, kT, d1, d2, d3, d4, d5⟩ := lp_fg4 (q := q) (V := wI U 367 129 ((N : Int) - 1)) (x1 := a) (x2 := s) (N := N - 1) (n := rowN S rn) (u := rowU S rn) (D := fun b => dB S rn b) (z := fun b => S.1 186 b) (nn := fun s' => ((wI U 367 129 ((N : Int) - 1)).1 451 s').toNat) (v := fun s' j => (wI U 367 129 ((N : Int) - 1)).1 450 (200 * s' + j)) (by rw [q4, if_pos ⟨rfl, rfl⟩]; omega) (by omega) e2 (fun b => dB_01 S rn b) (fun k hk => by
        obtain ⟨v1, v2⟩ := OL_ent h hr8 hk
        obtain ⟨y1, y2, y3⟩ := hB _ v1.1 v1.2
        refine ⟨v1, e452 k hk, ?_, ?_, fun hd s' hs' => ?_, fun ho => ?_⟩
        · rw [eV _ _ (by decide) (by decide) (by decide) (by decide) (by decide) (by omega), y2, if_neg v2]
        · rw [eV _ _ (by decide) (by decide) (by decide) (by decide) (by decide) (by omega), (y3 v2).1]
        · obtain ⟨i, i1, i2, i3, i4, -⟩ := mv s' hs'
          show ocB (fun j => (wI U 367 129 ((N : Int) - 1)).1 450 (200 * s' + j)) ((wI U 367 129 ((N : Int) - 1)).1 451 s').toNat _ = 0
          rw [i3, show (((rowN S i : Nat) : Int)).toNat = rowN S i by omega, ocB_cg (v := rowU S i) i4]
          rcases ocB_01 (rowU S i) (rowU S rn k) (rowN S i) with w | w
          · exact w
          · have := dB_other h hr8 i1 i2 v1.1 v1.2 w
            omega
        · refine dB_alone h hr8 v1.1 v1.2 (ocB_in _ hk rfl) (fun i hi hne => ?_)
          by_cases c0 : S.1 190 i = 0
          · have z0 : rowN S i = 0 := by
              have := (hL i (by omega) (by omega)).2.2.1 c0
              unfold rowN
              omega
            rw [z0]
            rfl
          · obtain ⟨o, b1, hi2⟩ := hm2 i (by omega) (by omega) c0
            have on : o ≠ s := by
              intro e
              have e2 := hi2.2.1
              rw [e, ← o2] at e2
              exact hne (by have := hd1 i rn (by omega) (by omega) (by omega) (by omega) e2 c0; omega)
            obtain ⟨s', hs', es'⟩ : ∃ s' : Nat, s' < N - 1 ∧ (if (s' : Int) < s then (s' : Int) else s' + 1) = o := by
              by_cases co : o < s
              · exact ⟨o.toNat, by omega, by rw [if_pos (by omega)]; omega⟩
              · exact ⟨(o - 1).toNat, by omega, by rw [if_neg (by omega)]; omega⟩
            obtain ⟨i', i1, i2, i3, i4, i5⟩ := mv s' hs'
            have ei : i' = i := by
              rw [es', ← hi2.2.1] at i5
              have := hd1 i' i (by omega) (by omega) (by omega) (by omega) i5 (by rw [i5]; exact c0)
              omega
            have hz : ocB (fun j => (wI U 367 129 ((N : Int) - 1)).1 450 (200 * s' + j)) ((wI U 367 129 ((N : Int) - 1)).1 451 s').toNat (rowU S rn k) = 0 := ho s' hs'
            rw [i3, show (((rowN S i' : Nat) : Int)).toNat = rowN S i' by omega, ocB_cg (v := rowU S i') i4, ei] at hz
            exact hz) (fun s' hs' => by
        obtain ⟨i, i1, i2, i3, i4, -⟩ := mv s' hs'
        have hl := (hL i (by omega) (by omega)).1
        refine ⟨?_, ?_, fun j hj => ⟨?_, rfl⟩⟩
        · show _ = ((((wI U 367 129 ((N : Int) - 1)).1 451 s').toNat : Nat) : Int)
          rw [i3]
          omega
        · show ((wI U 367 129 ((N : Int) - 1)).1 451 s').toNat ≤ 192
          rw [i3]
          unfold rowN
          omega
        · have hj' : j < rowN S i := by
            have : j < ((wI U 367 129 ((N : Int) - 1)).1 451 s').toNat := hj
            rw [i3] at this
            omega
          show 0 ≤ (wI U 367 129 ((N : Int) - 1)).1 450 (200 * s' + j) ∧ (wI U 367 129 ((N : Int) - 1)).1 450 (200 * s' + j) < 300
          rw [i4 j hj']
          exact (OL_ent h i1 hj').1) (rowN S rn) 0 (wI U 367 129 ((N : Int) - 1)) (by omega) ⟨rfl, by
          rw [sm_0 (n := 300) (f := fun b : Nat => ocB (rowU S rn) 0 b * dB S rn b) (fun j _ => Int.zero_mul _)]
          omega, by
          rw [sm_0 (n := 300) (f := fun b : Nat => ocB (rowU S rn) 0 b * dB S rn b * S.1 186 b) (fun j _ => by show 0 * _ * _ = _; rw [Int.zero_mul, Int.zero_mul])]
          omega, fun b _ _ => by
          show _ = _ - 0 * _
          omega, fun _ _ _ _ => rfl⟩
      have same : ∀ b : Int, 0 ≤ b → b < 300 → ocB (rowU S rn) (rowN S rn) b * dB S rn b = dB S rn b := by
        intro b b0 b1
        rcases dB_01 S rn b with y | y
        · rw [y]
          omega
        · rw [y, dB_in h b0 b1 y]
          rfl
      have es1 : sm (fun b : Nat => ocB (rowU S rn) (rowN S rn) b * dB S rn b) 300 = sm (fun b : Nat => dB S rn b) 300 := sm_cg (fun j hj => same j (by omega) (by omega))
      have es2 : sm (fun b : Nat => ocB (rowU S rn) (rowN S rn) b * dB S rn b * S.1 186 b) 300 = sm (fun b : Nat => dB S rn b * S.1 186 b) 300 := sm_cg (fun j hj => by
        show ocB (rowU S rn) (rowN S rn) j * dB S rn j * _ = _
        rw [same j (by omega) (by omega)])
      have es0 : sm (fun b : Nat => ocB (rowU S rn) 0 b * dB S rn b) 300 = 0 := sm_0 (fun j _ => Int.zero_mul _)
      rw [es1, es0] at kT
      rw [es1] at d2
      rw [es2] at d3
      refine ⟨T, kT, ⟨?_, fun a k hx => ?_⟩, FG_RO h hr8 hs hO ⟨⟨?_, ?_, ?_, ?_⟩, ⟨?_, ?_, ?_, ?_, ?_⟩, fun b b0 b1 => ⟨?_, ?_, ?_⟩, fun i => ⟨?_, ?_⟩, fun j => ⟨?_, ?_, ?_⟩, ?_, ?_, ?_, ?_⟩⟩
      · rw [d1]
        show U.2 = S.2
        rw [u1]
        exact p1
      · rw [d5 _ _ (by omega) (by omega), q4, if_neg (by omega), u5 _ _ (by omega) (by omega) (by omega), gG _ _ (by omega), rI_I, if_neg (by omega), p7 _ _ (by omega) (by omega) (by omega) (by omega) (by omega)]
      · rw [d5 _ _ (by omega) (by omega), q4, if_neg (by omega), u5 _ _ (by omega) (by omega) (by omega), gG _ _ (by omega), rI_I, if_neg (by omega), p2]
      · rw [d5 _ _ (by omega) (by omega), q4, if_neg (by omega), u5 _ _ (by omega) (by omega) (by omega), gG _ _ (by omega), rI_I, if_neg (by omega), p3]
      · rw [d5 _ _ (by omega) (by omega), q4, if_neg (by omega), u5 _ _ (by omega) (by omega) (by omega), gG _ _ (by omega), rI_I, if_neg (by omega), p4]
      · rw [d5 _ _ (by omega) (by omega), q4, if_neg (by omega), u5 _ _ (by omega) (by omega) (by omega), gG _ _ (by omega), rI_I, if_neg (by omega), p7 _ _ (by omega) (by omega) (by omega) (by omega) (by omega)]
      · funext k
        rw [d5 _ _ (by omega) (by omega), q4, if_neg (by omega), u5 _ _ (by omega) (by omega) (by omega), gG _ _ (by omega), rI_I, if_neg (by omega), p7 _ _ (by omega) (by omega) (by omega) (by omega) (by omega)]
      · funext k
        rw [d5 _ _ (by omega) (by omega), q4, if_neg (by omega), u5 _ _ (by omega) (by omega) (by omega), gG _ _ (by omega), rI_I, if_neg (by omega), p7 _ _ (by omega) (by omega) (by omega) (by omega) (by omega)]
      · funext k
        rw [d5 _ _ (by omega) (by omega), q4, if_neg (by omega), u5 _ _ (by omega) (by omega) (by omega), gG _ _ (by omega), rI_I, if_neg (by omega), p7 _ _ (by omega) (by omega) (by omega) (by omega) (by omega)]
      · funext k
        rw [d5 _ _ (by omega) (by omega), eV _ _ (by decide) (by decide) (by decide) (by decide) (by decide) (by omega)]
      · funext k
        rw [d5 _ _ (by omega) (by omega), eV _ _ (by decide) (by decide) (by decide) (by decide) (by decide) (by omega)]
      · rw [d5 _ _ (by omega) (by omega), q4, if_neg (by omega), u5 _ _ (by omega) (by omega) (by omega), gG _ _ (by omega), rI_I, if_neg (by omega), (p5 b b0 b1).1]
      · rw [d5 _ _ (by omega) (by omega), q4, if_neg (by omega), u5 _ _ (by omega) (by omega) (by omega), gG _ _ (by omega), rI_I, if_neg (by omega), (p5 b b0 b1).2]
      · rw [d4 b b0 b1, same b b0 b1, eV _ _ (by decide) (by decide) (by decide) (by decide) (by decide) (by omega)]
      · rw [d5 _ _ (by omega) (by omega), q4, if_neg (by omega), u5 _ _ (by omega) (by omega) (by omega), gG _ _ (by omega), rI_I, if_neg (by omega), (p6 i).1]
      · rw [d5 _ _ (by omega) (by omega), q4, if_neg (by omega), u5 _ _ (by omega) (by omega) (by omega), gG _ _ (by omega), rI_I, if_neg (by omega), (p6 i).2]
      · rw [d5 _ _ (by omega) (by omega), q4, if_neg (by omega), u2, hN, gG _ _ (by decide), gG _ _ (by decide), oc _ _ (by decide) (by omega), oc _ _ (by decide) (by omega)]
      · rw [d5 _ _ (by omega) (by omega), q4, if_neg (by omega), u3, hN, gG _ _ (by decide), gG _ _ (by decide), oc _ _ (by decide) (by omega), oc _ _ (by decide) (by omega)]
      · rw [d5 _ _ (by omega) (by omega), q4, if_neg (by omega), u4, hN, gG _ _ (by decide), gG _ _ (by decide), oc _ _ (by decide) (by omega), oc _ _ (by decide) (by omega)]
      · rw [d2, eV _ _ (by decide) (by decide) (by decide) (by decide) (by decide) (by omega)]
      · rw [d3, eV _ _ (by decide) (by decide) (by decide) (by decide) (by decide) (by omega)]
      · rw [d5 _ _ (by omega) (by omega), q4, if_pos ⟨rfl, rfl⟩, x3, hN]
      · rw [d5 _ _ (by omega) (by omega), eV _ _ (by decide) (by decide) (by decide) (by decide) (by decide) (by omega)]
    have kg := lp_fg1 (q := q) (S := wI C 367 0 0) (x1 := a) (s := s) (n := rowN S rn) (by omega) e2 (rowN S rn) 0 (by omega) kT
    rw [show ((0 : Nat) : Int) = 0 from rfl, wC_00] at kg
    refine ⟨_, C, _, T, vc_PH_forget a ⟨rn, S, c1, fun _ => ⟨_, C, vc_Store_leave _ kC, rfl, rfl⟩, fun n => absurd (by rw [wr ()]; omega) n⟩, vc_MD_forget a (fun S1 f => ?_), rfl, hT⟩
    subst f
    refine ⟨s, _, c2 _ (oc _ _ (by decide) (by decide)) (fun i => oc _ _ (by decide) (by omega)), fun _ => ⟨by omega, ?_⟩, fun n => absurd (by omega) n⟩
    rw [ws, oc 451 s (by decide) (by omega), o3, en]
    exact kg
  · refine ⟨-1, S, -1, wI S 367 0 0, vc_PH_forget a ⟨-1, S, c1, fun n => absurd n (by decide), fun _ => ⟨rfl, rfl⟩⟩, vc_MD_forget a (fun S1 f => ?_), rfl, (EX.refl _ _).wr (Or.inr (Or.inr ⟨rfl, Or.inl rfl⟩)), RO_cg h (fun a k z => by rw [rI_I, if_neg (by omega)])⟩
    subst f
    exact ⟨-1, _, c2 _ e129 e449, fun n => absurd n (by decide), fun _ => ⟨rfl, rfl⟩⟩
end Forget3
