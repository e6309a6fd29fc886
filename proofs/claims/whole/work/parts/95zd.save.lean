/-! save: its two ends -/
section Save3
variable {q : Nat × (Nat → Int32)} {S A B T : ms} {r s n0 fr m : Int} {l j n : Nat}
theorem ocN_cg {u v : Nat → Int} {b : Int} : ∀ {n : Nat}, (∀ j, j < n → u j = v j) → ocN u n b = ocN v n b
  | 0, _ => rfl
  | n + 1, h => by
    show ocN u n b + (if u n = b then (1 : Int) else 0) = ocN v n b + (if v n = b then (1 : Int) else 0)
    rw [h n (by omega), ocN_cg (fun j hj => h j (by omega))]
/-- a BLOCK that is not there is in no row -/
theorem RO_188 (h : RO m S) {b : Int} (b0 : 0 ≤ b) (b1 : b < 300) (hz : S.1 186 b = 0) : S.1 188 b = 0 ∧ ∀ i : Nat, i < 8 → ocB (rowU S i) (rowN S i) b = 0 := by
  have no : ∀ i : Nat, i < 8 → ocB (rowU S i) (rowN S i) b = 0 := by
    intro i hi
    rcases ocB_01 (rowU S i) b (rowN S i) with y | y
    · exact y
    · obtain ⟨k, k1, k2⟩ := ocB_ex _ y
      have := (OL_ent h hi k1).2
      rw [k2] at this
      exact absurd hz this
  refine ⟨?_, no⟩
  obtain ⟨-, -, -, -, -, -, h7, -⟩ := h
  rw [(h7 b b0 b1).1]
  exact sm_0 (fun i hi => (ocN_B _ _ _).mpr (no i hi))
/-- a BLOCK that is there is in a row -/
theorem RO_live (h : RO m S) {b : Int} (b0 : 0 ≤ b) (b1 : b < 300) (hz : S.1 186 b ≠ 0) : ∃ i : Nat, i < 8 ∧ ocB (rowU S i) (rowN S i) b = 1 := by
  apply Classical.byContradiction
  intro n
  obtain ⟨-, -, -, -, -, -, h7, -⟩ := h
  have h1 := (h7 b b0 b1).2 hz
  have h2 : S.1 188 b = 0 := by
    rw [(h7 b b0 b1).1]
    refine sm_0 (fun i hi => (ocN_B _ _ _).mpr ?_)
    rcases ocB_01 (rowU S i) b (rowN S i) with y | y
    · exact y
    · exact absurd ⟨i, hi, y⟩ n
  omega
/-- what a save that has room leaves -/
def SG (S A B T : ms) (r s : Int) (n : Nat) : Prop := (T.1 184 0 = A.1 184 0 ∧ T.1 184 1 = A.1 184 1 ∧ T.1 184 2 = S.1 184 2 + 1 ∧ T.1 184 3 = S.1 184 3 + 1) ∧ (T.1 367 123 = B.1 367 123 ∧ T.1 367 124 = B.1 367 124 ∧ T.1 367 129 = S.1 184 2 + 1 ∧ T.1 367 130 = S.1 184 3 + 1) ∧ (T.1 185 = A.1 185 ∧ T.1 186 = A.1 186 ∧ T.1 187 = A.1 187 ∧ T.1 446 = B.1 446 ∧ T.1 447 = B.1 447 ∧ T.1 448 = B.1 448) ∧ (∀ b : Int, 0 ≤ b → b < 300 → T.1 188 b = S.1 188 b + ocN (rowU A r) n b) ∧ (∀ i : Int, T.1 190 i = (if i = r then S.1 184 3 + 1 else S.1 190 i) ∧ T.1 191 i = if i = r then (n : Int) else S.1 191 i) ∧ (∀ k : Int, T.1 192 k = A.1 192 k) ∧ (∀ i : Int, T.1 449 i = (if i = s then S.1 184 3 + 1 else S.1 449 i) ∧ T.1 451 i = if i = s then (n : Int) else S.1 451 i) ∧ ∀ k : Int, T.1 450 k = B.1 450 k
theorem SG_RO (h : RO m S) (hm : m < 100000) (hr : 0 ≤ r ∧ r < 8) (hr0 : S.1 190 r = 0) (hs : s = S.1 184 2) (hs8 : S.1 184 2 < 8) (hn : n0 ≤ 6000) (sv : SV S A B r s n0 n n0) (g : SG S A B T r s n) : RO (m + 1) T := by
  obtain ⟨⟨x1, x2, x3, x4⟩, ⟨y1, y2, y3, y4⟩, ⟨e185, e186, e187, e446, e447, e448⟩, g4, g5, g6, g7, g8⟩ := g
  obtain ⟨-, v5, v6, v7, ⟨d1, d2, d3, d4⟩, ⟨c1, c2, c3, c4, c5, c6⟩, ⟨-, v10⟩, v11⟩ := sv
  obtain ⟨-, ⟨n1, n2, n3, n4⟩, hB, hL, ⟨hd1, hd2⟩, ⟨hm1, hm2⟩, hu, s1, s2, s3⟩ := id h
  have nb : (n : Int) ≤ 192 := by omega
  have row : ∀ (i k : Int), 0 ≤ i → i < 8 → i ≠ r → 0 ≤ k → k < 192 → T.1 192 (192 * i + k) = S.1 192 (192 * i + k) := fun i k i0 i1 hi k0 k1 => by
    rw [g6, v10 _ _ (by omega)]
  have mrow : ∀ (i k : Int), 0 ≤ i → i ≠ s → 0 ≤ k → k < 200 → T.1 450 (200 * i + k) = S.1 450 (200 * i + k) := fun i k i0 hi k0 k1 => by
    rw [g8, v11 _ _ (by omega)]
  have r191 : S.1 191 r = 0 := (hL r hr.1 hr.2).2.2.1 hr0
  have lt449 : ∀ i : Int, 0 ≤ i → i < S.1 184 2 → 1 ≤ S.1 449 i ∧ S.1 449 i ≤ S.1 184 3 := by
    intro i i0 i1
    obtain ⟨p1, rr, o1, o2, -⟩ := hm1 i i0 i1
    have := (hL rr o1.1 o1.2).2.1
    omega
  have orOld : ∀ i rr : Int, 0 ≤ i → i < S.1 184 2 → OR S i rr → S.1 449 i ≥ 1 → OR T i rr := by
    intro i rr i0 i1 o p1
    obtain ⟨o1, o2, o3, o4⟩ := o
    have rne : rr ≠ r := fun e => by
      rw [e, hr0] at o2
      omega
    have lb := (hL rr o1.1 o1.2).1
    refine ⟨o1, ?_, ?_, fun k k0 k1 => ?_⟩
    · rw [(g5 rr).1, if_neg rne, (g7 i).1, if_neg (by omega), o2]
    · rw [(g5 rr).2, if_neg rne, (g7 i).2, if_neg (by omega), o3]
    · rw [(g5 rr).2, if_neg rne] at k1
      rw [row rr k o1.1 o1.2 rne k0 (by omega), mrow i k i0 (by omega) k0 (by omega), o4 k k0 k1]
  have orNew : OR T s r := by
    refine ⟨hr, ?_, ?_, fun k k0 k1 => ?_⟩
    · rw [(g5 r).1, if_pos rfl, (g7 s).1, if_pos rfl]
    · rw [(g5 r).2, if_pos rfl, (g7 s).2, if_pos rfl]
    · rw [(g5 r).2, if_pos rfl] at k1
      have := (v7 k.toNat (by omega)).2.2
      rw [show ((k.toNat : Nat) : Int) = k by omega] at this
      rw [g8, g6, this]
      show A.1 192 (192 * r + (k.toNat : Nat)) = _
      rw [show ((k.toNat : Nat) : Int) = k by omega]
  refine ⟨⟨by omega, by omega, by omega, by omega⟩, ⟨by omega, by omega, by omega, by omega⟩, fun b b0 b1 => ?_, fun i i0 i1 => ?_, ⟨fun i i' i0 i1 j0 j1 e hne => ?_, fun i i' i0 i1 j0 j1 e => ?_⟩, ⟨fun i i0 i1 => ?_, fun i i0 i1 hne => ?_⟩, fun b b0 b1 => ⟨?_, fun hz => ?_⟩, ?_, ?_, ?_⟩
  · have o := v5 b b0 b1
    unfold OX at o
    unfold OB
    rw [e185, e186, e187, e446, e447, e448]
    exact o
  · by_cases c : i = r
    · subst c
      refine ⟨by rw [(g5 i).2, if_pos rfl]; omega, by rw [(g5 i).1, if_pos rfl, x4]; omega, fun z => ?_, fun k k0 k1 => ?_, ?_⟩
      · rw [(g5 i).1, if_pos rfl] at z
        omega
      · rw [(g5 i).2, if_pos rfl] at k1
        obtain ⟨w1, w2, -⟩ := v7 k.toNat (by omega)
        have eu : rowU A i k.toNat = A.1 192 (192 * i + k) := by
          show A.1 192 (192 * i + (k.toNat : Nat)) = _
          rw [show ((k.toNat : Nat) : Int) = k by omega]
        rw [eu] at w1 w2
        rw [g6, e186]
        exact ⟨w1, w2⟩
      · rw [(g5 i).2, if_pos rfl, e186, show (((n : Nat) : Int)).toNat = n by omega, sm_cg (g := fun k => A.1 186 (rowU A i k)) (fun k hk => by
          show A.1 186 (T.1 192 (192 * i + k)) = A.1 186 (A.1 192 (192 * i + k))
          rw [g6]), d2]
        exact hn
    · obtain ⟨o1, o2, o3, o4, o5⟩ := hL i i0 i1
      have ent : ∀ k : Int, 0 ≤ k → k < S.1 191 i → T.1 186 (T.1 192 (192 * i + k)) = S.1 186 (S.1 192 (192 * i + k)) := by
        intro k k0 k1
        obtain ⟨w1, w2⟩ := o4 k k0 k1
        rw [row i k i0 i1 c k0 (by omega), e186, (v6 _ w1.1 w1.2).1 w2]
      refine ⟨by rw [(g5 i).2, if_neg c]; exact o1, by rw [(g5 i).1, if_neg c, x4]; omega, fun z => ?_, fun k k0 k1 => ?_, ?_⟩
      · rw [(g5 i).1, if_neg c] at z
        rw [(g5 i).2, if_neg c]
        exact o3 z
      · rw [(g5 i).2, if_neg c] at k1
        obtain ⟨w1, w2⟩ := o4 k k0 k1
        rw [ent k k0 k1, row i k i0 i1 c k0 (by omega)]
        exact ⟨w1, w2⟩
      · rw [(g5 i).2, if_neg c, sm_cg (g := fun k => S.1 186 (S.1 192 (192 * i + k))) (fun k hk => ent k (by omega) (by omega))]
        exact o5
  · rw [(g5 i).1] at e hne
    rw [(g5 i').1] at e
    by_cases c : i = r
    · by_cases c' : i' = r
      · rw [c, c']
      · rw [if_pos c, if_neg c'] at e
        have := (hL i' j0 j1).2.1
        omega
    · by_cases c' : i' = r
      · rw [if_neg c, if_pos c'] at e
        have := (hL i i0 i1).2.1
        omega
      · rw [if_neg c] at e hne
        rw [if_neg c'] at e
        exact hd1 i i' i0 i1 j0 j1 e hne
  · rw [(g7 i).1, (g7 i').1] at e
    by_cases c : i = s
    · by_cases c' : i' = s
      · rw [c, c']
      · rw [if_pos c, if_neg c'] at e
        have := lt449 i' j0 (by omega)
        omega
    · by_cases c' : i' = s
      · rw [if_neg c, if_pos c'] at e
        have := lt449 i i0 (by omega)
        omega
      · rw [if_neg c, if_neg c'] at e
        exact hd2 i i' i0 (by omega) j0 (by omega) e
  · by_cases c : i = s
    · subst c
      exact ⟨by rw [(g7 i).1, if_pos rfl]; omega, r, orNew⟩
    · obtain ⟨p1, rr, o⟩ := hm1 i i0 (by omega)
      exact ⟨by rw [(g7 i).1, if_neg c]; exact p1, rr, orOld i rr i0 (by omega) o p1⟩
  · by_cases c : i = r
    · subst c
      exact ⟨s, by omega, orNew⟩
    · rw [(g5 i).1, if_neg c] at hne
      obtain ⟨o, o1, hi⟩ := hm2 i i0 i1 hne
      exact ⟨o, by omega, orOld o i o1.1 o1.2 hi (lt449 o o1.1 o1.2).1⟩
  · have er : r.toNat < 8 := by omega
    rw [g4 b b0 b1, (hu b b0 b1).1, sm_upd (n := 8) (i := r.toNat) (f := fun i : Nat => ocN (fun k => S.1 192 (192 * i + k)) (S.1 191 i).toNat b) (g := fun i : Nat => ocN (fun k => T.1 192 (192 * i + k)) (T.1 191 i).toNat b) er (fun i hi hne => by
      have lb := (hL i (by omega) (by omega)).1
      show ocN (fun k => T.1 192 (192 * (i : Int) + k)) (T.1 191 i).toNat b = ocN (fun k => S.1 192 (192 * (i : Int) + k)) (S.1 191 i).toNat b
      rw [(g5 i).2, if_neg (by omega)]
      exact ocN_cg (fun k hk => row i k (by omega) (by omega) (by omega) (by omega) (by omega)))]
    show _ = _ + (ocN (fun k => T.1 192 (192 * (r.toNat : Nat) + k)) (T.1 191 (r.toNat : Nat)).toNat b - ocN (fun k => S.1 192 (192 * (r.toNat : Nat) + k)) (S.1 191 (r.toNat : Nat)).toNat b)
    rw [show ((r.toNat : Nat) : Int) = r by omega, r191, (g5 r).2, if_pos rfl, show (((n : Nat) : Int)).toNat = n by omega]
    have e0 : ocN (fun k => S.1 192 (192 * r + (k : Nat))) (0 : Int).toNat b = 0 := rfl
    have e1 : ocN (fun k => T.1 192 (192 * r + (k : Nat))) n b = ocN (rowU A r) n b := ocN_cg (fun k hk => g6 _)
    rw [e0, e1]
    omega
  · have o0 := (ocN_rg (rowU A r) b n).1
    rw [e186] at hz
    rw [g4 b b0 b1]
    by_cases c : S.1 186 b = 0
    · have z8 := (RO_188 h b0 b1 c).1
      rcases (v6 b b0 b1).2 c hz with y | y
      · exact absurd y (fun z => z)
      · have : ocN (rowU A r) n b ≠ 0 := fun z => by
          have := (ocN_B _ _ _).mp z
          omega
        omega
    · have := (hu b b0 b1).2 c
      omega
  · rw [x1, e448, c2]
  · rw [x2, e186, c4]
  · omega
/-- what a save that has no room leaves -/
def SX (S A B T : ms) : Prop := (T.1 184 0 = S.1 184 0 ∧ T.1 184 1 = S.1 184 1 ∧ T.1 184 2 = S.1 184 2 ∧ T.1 184 3 = S.1 184 3) ∧ (T.1 367 123 = S.1 184 0 ∧ T.1 367 124 = S.1 184 1 ∧ T.1 367 129 = S.1 367 129 ∧ T.1 367 130 = S.1 367 130) ∧ (T.1 185 = A.1 185 ∧ T.1 187 = A.1 187 ∧ T.1 446 = B.1 446 ∧ T.1 447 = B.1 447) ∧ (∀ b : Int, 0 ≤ b → b < 300 → T.1 186 b = S.1 186 b ∧ T.1 448 b = S.1 448 b) ∧ T.1 188 = S.1 188 ∧ T.1 190 = S.1 190 ∧ T.1 191 = S.1 191 ∧ T.1 192 = A.1 192 ∧ T.1 449 = S.1 449 ∧ T.1 450 = B.1 450 ∧ T.1 451 = B.1 451
theorem SX_RO (h : RO m S) (hr : 0 ≤ r ∧ r < 8) (hr0 : S.1 190 r = 0) (hs : s = S.1 184 2) (sv : SV S A B r s n0 n fr) (g : SX S A B T) : RO m T := by
  obtain ⟨⟨x1, x2, x3, x4⟩, ⟨y1, y2, y3, y4⟩, ⟨e185, e187, e446, e447⟩, g4, e188, e190, e191, e192, e449, e450, e451⟩ := g
  obtain ⟨-, v5, v6, v7, -, -, ⟨-, v10⟩, v11⟩ := sv
  obtain ⟨⟨w1, w2, w3, w4⟩, ⟨n1, n2, n3, n4⟩, hB, hL, ⟨hd1, hd2⟩, ⟨hm1, hm2⟩, hu, s1, s2, s3⟩ := id h
  have r191 : S.1 191 r = 0 := (hL r hr.1 hr.2).2.2.1 hr0
  have row : ∀ (i k : Int), 0 ≤ i → i < 8 → 0 ≤ k → k < S.1 191 i → T.1 192 (192 * i + k) = S.1 192 (192 * i + k) := fun i k i0 i1 k0 k1 => by
    have lb := (hL i i0 i1).1
    have : i ≠ r := fun e => by
      rw [e, r191] at k1
      omega
    rw [e192, v10 _ _ (by omega)]
  have orT : ∀ i rr : Int, 0 ≤ i → i < S.1 184 2 → OR S i rr → OR T i rr := by
    intro i rr i0 i1 o
    obtain ⟨o1, o2, o3, o4⟩ := o
    have lb := (hL rr o1.1 o1.2).1
    refine ⟨o1, by rw [e190, e449, o2], ?_, fun k k0 k1 => ?_⟩
    · rw [e191, e451, v11 _ _ (by omega), o3]
    · rw [e191] at k1
      rw [row rr k o1.1 o1.2 k0 k1, e450, v11 _ _ (by omega), o4 k k0 k1]
  refine ⟨⟨by omega, by omega, by omega, by omega⟩, ⟨by omega, by omega, by omega, n4⟩, fun b b0 b1 => ?_, fun i i0 i1 => ?_, ⟨?_, ?_⟩, ⟨fun i i0 i1 => ?_, fun i i0 i1 hne => ?_⟩, fun b b0 b1 => ⟨?_, fun hz => ?_⟩, ?_, ?_, ?_⟩
  · obtain ⟨z1, z2⟩ := g4 b b0 b1
    obtain ⟨o1, o2, o3⟩ := hB b b0 b1
    refine ⟨by rw [z1]; exact o1, by rw [z1, z2]; exact o2, fun hz => ?_⟩
    rw [z1] at hz
    have ea := (v6 b b0 b1).1 hz
    have o := (v5 b b0 b1).2.2 (by rw [ea]; exact hz)
    rw [ea] at o
    rw [z1, e185, e187, e446, e447]
    exact o
  · obtain ⟨o1, o2, o3, o4, o5⟩ := hL i i0 i1
    have ent : ∀ k : Int, 0 ≤ k → k < S.1 191 i → T.1 186 (T.1 192 (192 * i + k)) = S.1 186 (S.1 192 (192 * i + k)) := by
      intro k k0 k1
      obtain ⟨q1, q2⟩ := o4 k k0 k1
      rw [row i k i0 i1 k0 k1, (g4 _ q1.1 q1.2).1]
    refine ⟨by rw [e191]; exact o1, by rw [e190, x4]; exact o2, by rw [e190, e191]; exact o3, fun k k0 k1 => ?_, ?_⟩
    · rw [e191] at k1
      rw [ent k k0 k1, row i k i0 i1 k0 k1]
      exact o4 k k0 k1
    · rw [e191, sm_cg (g := fun k => S.1 186 (S.1 192 (192 * i + k))) (fun k hk => ent k (by omega) (by omega))]
      exact o5
  · rw [e190]
    exact hd1
  · rw [e449, x3]
    exact hd2
  · rw [x3] at i1
    obtain ⟨p1, rr, o⟩ := hm1 i i0 i1
    exact ⟨by rw [e449]; exact p1, rr, orT i rr i0 i1 o⟩
  · rw [e190] at hne
    obtain ⟨o, o1, hi⟩ := hm2 i i0 i1 hne
    exact ⟨o, by omega, orT o i o1.1 o1.2 hi⟩
  · rw [e188, (hu b b0 b1).1]
    refine sm_cg (fun i hi => ?_)
    have lb := (hL i (by omega) (by omega)).1
    show ocN (fun k => S.1 192 (192 * (i : Int) + k)) (S.1 191 i).toNat b = ocN (fun k => T.1 192 (192 * (i : Int) + k)) (T.1 191 i).toNat b
    rw [e191]
    exact ocN_cg (fun k hk => (row i k (by omega) (by omega) (by omega) (by omega)).symm)
  · rw [(g4 b b0 b1).1] at hz
    rw [e188]
    exact (hu b b0 b1).2 hz
  · rw [x1, s1]
    exact sm_cg (fun k hk => ((g4 k (by omega) (by omega)).2).symm)
  · rw [x2, s2]
    exact sm_cg (fun k hk => ((g4 k (by omega) (by omega)).1).symm)
  · omega
end Save3
