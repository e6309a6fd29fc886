/-! save: the relation over the pieces, and its steps -/
section Save2
variable {q : Nat × (Nat → Int32)} {S A B : ms} {r s n0 fr : Int} {l j : Nat}
abbrev XA (r : Int) (a : Nat) (k : Int) : Prop := a = 185 ∨ a = 186 ∨ a = 187 ∨ (a = 184 ∧ (k = 0 ∨ k = 1 ∨ k = 12)) ∨ (a = 192 ∧ 192 * r ≤ k ∧ k < 192 * r + 192)
abbrev XK (s : Int) (a : Nat) (k : Int) : Prop := a = 449 ∨ (a = 450 ∧ ¬ (200 * s ≤ k ∧ k < 200 * s + 200)) ∨ (a = 451 ∧ k ≠ s) ∨ (a = 367 ∧ (k = 129 ∨ k = 130))
/-- j pieces, fr octets, are done; what is new is in the row, or in E -/
def SVx (E : Int → Prop) (S A B : ms) (r s n0 : Int) (j : Nat) (fr : Int) : Prop := (A.1 1 1 = n0 ∧ A.1 2 = S.1 2 ∧ B.1 367 2 = n0 ∧ B.1 368 = S.1 368) ∧ (∀ b : Int, 0 ≤ b → b < 300 → OX A B b) ∧ (∀ b : Int, 0 ≤ b → b < 300 → (S.1 186 b ≠ 0 → A.1 186 b = S.1 186 b) ∧ (S.1 186 b = 0 → A.1 186 b ≠ 0 → E b ∨ ocB (rowU A r) j b = 1)) ∧ (∀ k : Nat, k < j → (0 ≤ rowU A r k ∧ rowU A r k < 300) ∧ A.1 186 (rowU A r k) ≠ 0 ∧ B.1 450 (200 * s + k) = rowU A r k) ∧ (B.1 451 s = j ∧ sm (fun k => A.1 186 (rowU A r k)) j = fr ∧ (0 ≤ fr ∧ fr ≤ n0) ∧ (32 * (j : Int) ≤ fr ∨ (fr = n0 ∧ 32 * (j : Int) ≤ fr + 32))) ∧ (A.1 184 0 = B.1 367 123 ∧ A.1 184 0 = sm (fun b => B.1 448 b) 300 ∧ A.1 184 1 = B.1 367 124 ∧ A.1 184 1 = sm (fun b => A.1 186 b) 300 ∧ 0 ≤ A.1 184 1 ∧ A.1 184 1 ≤ 40000) ∧ (A.2 = S.2 ∧ ∀ (a : Nat) (k : Int), ¬ XA r a k → A.1 a k = S.1 a k) ∧ ∀ (a : Nat) (k : Int), XK s a k → B.1 a k = S.1 a k
def SV (S A B : ms) (r s n0 : Int) (j : Nat) (fr : Int) : Prop := SVx (fun _ => False) S A B r s n0 j fr
theorem sv_hash {E : Int → Prop} (h : SV S A B r s n0 j fr) (v : Int) : SVx E S (wI A 184 12 v) B r s n0 j fr := by
  obtain ⟨⟨h1, h2, h3, h4⟩, h5, h6, h7, h8, ⟨c1, c2, c3, c4, c5⟩, ⟨h9, h10⟩, h11⟩ := h
  have e : ∀ (a : Nat), a ≠ 184 → (wI A 184 12 v).1 a = A.1 a := fun a ha => funext (fun k => by rw [rI_I, if_neg (fun z => ha z.1)])
  have e0 : (wI A 184 12 v).1 184 0 = A.1 184 0 := rfl
  have e1 : (wI A 184 12 v).1 184 1 = A.1 184 1 := rfl
  have er : rowU (wI A 184 12 v) r = rowU A r := rfl
  unfold SVx OX
  rw [e 1 (by decide), e 2 (by decide), e 186 (by decide), e 185 (by decide), e 187 (by decide), e0, e1, er]
  refine ⟨⟨h1, h2, h3, h4⟩, h5, fun b b0 b1 => ⟨(h6 b b0 b1).1, fun z1 z2 => ?_⟩, h7, h8, ⟨c1, c2, c3, c4, c5⟩, ⟨h9, fun a k ha => ?_⟩, h11⟩
  · rcases (h6 b b0 b1).2 z1 z2 with y | y
    · exact absurd y (fun z => z)
    · exact Or.inr y
  · rw [rI_I, if_neg (fun z => ha (Or.inr (Or.inr (Or.inr (Or.inl ⟨z.1, Or.inr (Or.inr z.2)⟩))))), h10 a k ha]
/-- a piece, BLOCK b, comes into the row -/
theorem sv_row {b : Int} (h : SVx (fun x => x = b) S A B r s n0 j fr) (hr : 0 ≤ r ∧ r < 8) (hs : 0 ≤ s ∧ s < 8) (hn : n0 ≤ 6000) (hb : 0 ≤ b ∧ b < 300) (hl : A.1 186 b = l) (l1 : 1 ≤ l) (l3 : fr + l ≤ n0) (l4 : 32 ≤ l ∨ fr + l = n0) : SV S (wI A 192 (192 * r + j) b) (wI (wI B 450 (200 * s + j) b) 451 s ((j : Int) + 1)) r s n0 (j + 1) (fr + l) := by
  obtain ⟨⟨h1, h2, h3, h4⟩, h5, h6, h7, ⟨d1, d2, d3, d4⟩, ⟨c1, c2, c3, c4, c5⟩, ⟨h9, h10⟩, h11⟩ := h
  have j192 : j < 192 := by omega
  have e : ∀ (a : Nat), a ≠ 192 → (wI A 192 (192 * r + j) b).1 a = A.1 a := fun a ha => funext (fun k => by rw [rI_I, if_neg (fun z => ha z.1)])
  have qB : ∀ (a : Nat) (k : Int), (wI (wI B 450 (200 * s + j) b) 451 s ((j : Int) + 1)).1 a k = if a = 451 ∧ k = s then (j : Int) + 1 else if a = 450 ∧ k = 200 * s + j then b else B.1 a k := fun _ _ => rfl
  have eB : ∀ (a : Nat), a ≠ 450 → a ≠ 451 → (wI (wI B 450 (200 * s + j) b) 451 s ((j : Int) + 1)).1 a = B.1 a := fun a h1 h2 => funext (fun k => by rw [qB, if_neg (fun z => h2 z.1), if_neg (fun z => h1 z.1)])
  have er : ∀ k : Nat, k < j → rowU (wI A 192 (192 * r + j) b) r k = rowU A r k := fun k hk => by
    show (wI A 192 (192 * r + j) b).1 192 (192 * r + k) = A.1 192 (192 * r + k)
    rw [rI_I, if_neg (by omega)]
  have ej : rowU (wI A 192 (192 * r + j) b) r j = b := by
    show (wI A 192 (192 * r + j) b).1 192 (192 * r + j) = b
    rw [rI_I, if_pos ⟨rfl, rfl⟩]
  unfold SV SVx OX
  rw [e 1 (by decide), e 2 (by decide), e 186 (by decide), e 185 (by decide), e 187 (by decide), e 184 (by decide), eB 367 (by decide) (by decide), eB 368 (by decide) (by decide), eB 446 (by decide) (by decide), eB 447 (by decide) (by decide), eB 448 (by decide) (by decide)]
  refine ⟨⟨h1, h2, h3, h4⟩, h5, fun x x0 x1 => ⟨(h6 x x0 x1).1, fun z1 z2 => Or.inr ?_⟩, fun k hk => ?_, ⟨?_, ?_, by omega, by omega⟩, ⟨c1, c2, c3, c4, c5⟩, ⟨h9, fun a k ha => ?_⟩, fun a k ha => ?_⟩
  · rw [ocB_s, ej]
    rcases (h6 x x0 x1).2 z1 z2 with y | y
    · rw [if_pos y.symm]
    · rw [ocB_cg (v := rowU A r) er, y]
      split <;> rfl
  · by_cases ck : k = j
    · subst ck
      rw [ej]
      refine ⟨hb, by omega, ?_⟩
      rw [qB, if_neg (by omega), if_pos ⟨rfl, rfl⟩]
    · rw [er k (by omega)]
      obtain ⟨y1, y2, y3⟩ := h7 k (by omega)
      exact ⟨y1, y2, by rw [qB, if_neg (by omega), if_neg (by omega), y3]⟩
  · rw [qB, if_pos ⟨rfl, rfl⟩]
    omega
  · show sm (fun k => A.1 186 (rowU (wI A 192 (192 * r + j) b) r k)) j + A.1 186 (rowU (wI A 192 (192 * r + j) b) r j) = fr + l
    rw [ej, hl, sm_cg (g := fun k => A.1 186 (rowU A r k)) (fun k hk => by show A.1 186 _ = A.1 186 _; rw [er k hk]), d2]
  · rw [rI_I, if_neg (by omega), h10 a k ha]
  · rw [qB, if_neg (by omega), if_neg (by omega), h11 a k ha]
/-- a new BLOCK F -/
theorem sv_new {F h' : Int} (h : SV S A B r s n0 j fr) (hn : n0 ≤ 6000) (oc : ∀ k : Int, 0 ≤ k → k < n0 → (0 ≤ S.1 2 k ∧ S.1 2 k < 256) ∧ S.1 368 k = b8 (S.1 2 k)) (z188 : S.1 186 F = 0 → S.1 188 F = 0) (hF : FB A F) (hF2 : F < 300) (l1 : 1 ≤ l) (l2 : l ≤ 200) (l3 : fr + l ≤ n0) (hh : h' = hsF (fun k => S.1 2 (fr + k)) l) (room : A.1 184 1 + l ≤ 40000) : SVx (fun x => x = F) S (NBc (wI A 184 12 h') fr l F) (NBm B fr l F) r s n0 j fr := by
  obtain ⟨⟨h1, h2, h3, h4⟩, h5, h6, h7, ⟨d1, d2, d3, d4⟩, ⟨c1, c2, c3, c4, c5⟩, ⟨h9, h10⟩, h11⟩ := h
  obtain ⟨f1, f2, f3⟩ := hF
  have fz := f3 hF2
  have sz : S.1 186 F = 0 := by
    apply Classical.byContradiction
    intro n
    have := (h6 F f1.1 hF2).1 n
    omega
  have qA : ∀ (a : Nat) (k : Int), (NBc (wI A 184 12 h') fr l F).1 a k = if a = 184 ∧ k = 1 then A.1 184 1 + l else if a = 184 ∧ k = 0 then A.1 184 0 + 1 else if a = 188 ∧ k = F then 0 else if a = 187 ∧ k = F then h' else if a = 186 ∧ k = F then (l : Int) else if a = 185 ∧ 200 * F ≤ k ∧ k < 200 * F + l then S.1 2 (fr + (k - 200 * F)) else if a = 184 ∧ k = 12 then h' else A.1 a k := fun a k => by
    rw [← h2]
    rfl
  have qB : ∀ (a : Nat) (k : Int), (NBm B fr l F).1 a k = if a = 367 ∧ k = 124 then B.1 367 124 + l else if a = 367 ∧ k = 123 then B.1 367 123 + 1 else if a = 446 ∧ 200 * F ≤ k ∧ k < 200 * F + l then b8 (B.1 368 (fr + (k - 200 * F))) else if a = 447 ∧ k = F then (l : Int) else if a = 448 ∧ k = F then 1 else B.1 a k := fun _ _ => rfl
  have a186 : ∀ b : Int, (NBc (wI A 184 12 h') fr l F).1 186 b = if b = F then (l : Int) else A.1 186 b := fun b => by
    rw [qA, if_neg (by omega), if_neg (by omega), if_neg (by omega), if_neg (by omega)]
    by_cases cb : b = F
    · rw [if_pos ⟨rfl, cb⟩, if_pos cb]
    · rw [if_neg (fun z => cb z.2), if_neg (by omega), if_neg (by omega), if_neg cb]
  have a185 : ∀ k : Int, ¬ (200 * F ≤ k ∧ k < 200 * F + l) → (NBc (wI A 184 12 h') fr l F).1 185 k = A.1 185 k := fun k hk => by
    rw [qA, if_neg (by omega), if_neg (by omega), if_neg (by omega), if_neg (by omega), if_neg (by omega), if_neg (fun z => hk z.2), if_neg (by omega)]
  have a185F : ∀ k : Int, 0 ≤ k → k < l → (NBc (wI A 184 12 h') fr l F).1 185 (200 * F + k) = S.1 2 (fr + k) := fun k k0 k1 => by
    rw [qA, if_neg (by omega), if_neg (by omega), if_neg (by omega), if_neg (by omega), if_neg (by omega), if_pos ⟨rfl, by omega, by omega⟩, show 200 * F + k - 200 * F = k by omega]
  have er : ∀ k : Nat, rowU (NBc (wI A 184 12 h') fr l F) r k = rowU A r k := fun k => by
    show (NBc (wI A 184 12 h') fr l F).1 192 (192 * r + k) = A.1 192 (192 * r + k)
    rw [qA, if_neg (by omega), if_neg (by omega), if_neg (by omega), if_neg (by omega), if_neg (by omega), if_neg (by omega), if_neg (by omega)]
  have er' : rowU (NBc (wI A 184 12 h') fr l F) r = rowU A r := funext er
  have b448 : ∀ b : Int, (NBm B fr l F).1 448 b = if b = F then 1 else B.1 448 b := fun b => by
    rw [qB, if_neg (by omega), if_neg (by omega), if_neg (by omega), if_neg (by omega)]
    by_cases cb : b = F
    · rw [if_pos ⟨rfl, cb⟩, if_pos cb]
    · rw [if_neg (fun z => cb z.2), if_neg cb]
  have oF := h5 F f1.1 hF2
  have bF : B.1 448 F = 0 := by rw [oF.2.1, if_pos fz]
  refine ⟨⟨?_, funext (fun k => ?_), ?_, funext (fun k => ?_)⟩, fun b b0 b1 => ?_, fun b b0 b1 => ⟨fun z => ?_, fun z1 z2 => ?_⟩, fun k hk => ?_, ⟨?_, ?_, d3, d4⟩, ⟨?_, ?_, ?_, ?_, ?_, ?_⟩, ⟨h9, fun a k ha => ?_⟩, fun a k ha => ?_⟩
  · rw [qA, if_neg (by omega), if_neg (by omega), if_neg (by omega), if_neg (by omega), if_neg (by omega), if_neg (by omega), if_neg (by omega), h1]
  · rw [qA, if_neg (by omega), if_neg (by omega), if_neg (by omega), if_neg (by omega), if_neg (by omega), if_neg (by omega), if_neg (by omega), h2]
  · rw [qB, if_neg (by omega), if_neg (by omega), if_neg (by omega), if_neg (by omega), if_neg (by omega), h3]
  · rw [qB, if_neg (by omega), if_neg (by omega), if_neg (by omega), if_neg (by omega), if_neg (by omega), h4]
  · by_cases cb : b = F
    · subst cb
      refine ⟨by rw [a186, if_pos rfl]; omega, by rw [a186, if_pos rfl, b448, if_pos rfl, if_neg (by omega)], fun _ => ⟨?_, ?_, fun k k0 k1 => ?_⟩⟩
      · rw [a186, if_pos rfl, qB, if_neg (by omega), if_neg (by omega), if_neg (by omega), if_pos ⟨rfl, rfl⟩]
      · rw [a186, if_pos rfl, qA, if_neg (by omega), if_neg (by omega), if_neg (by omega), if_pos ⟨rfl, rfl⟩, hh, show (((l : Nat) : Int)).toNat = l by omega]
        exact congrArg w32 (hsF_cg (fun k hk => (a185F k (by omega) (by omega)).symm))
      · rw [a186, if_pos rfl] at k1
        obtain ⟨o1, o2⟩ := oc (fr + k) (by omega) (by omega)
        rw [a185F k k0 k1, qB, if_neg (by omega), if_neg (by omega), if_pos ⟨rfl, by omega, by omega⟩, show 200 * b + k - 200 * b = k by omega, h4, o2, b8_of (b8_rg _)]
        exact ⟨o1, rfl⟩
    · obtain ⟨x1, x2, x3⟩ := h5 b b0 b1
      refine ⟨by rw [a186, if_neg cb]; exact x1, by rw [a186, if_neg cb, b448, if_neg cb]; exact x2, fun z => ?_⟩
      rw [a186, if_neg cb] at z
      obtain ⟨y1, y2, y3⟩ := x3 z
      refine ⟨?_, ?_, fun k k0 k1 => ?_⟩
      · rw [a186, if_neg cb, qB, if_neg (by omega), if_neg (by omega), if_neg (by omega), if_neg (by omega), if_neg (by omega), y1]
      · rw [a186, if_neg cb, qA, if_neg (by omega), if_neg (by omega), if_neg (by omega), if_neg (by omega), if_neg (by omega), if_neg (by omega), if_neg (by omega), y2]
        exact congrArg w32 (hsF_cg (fun k hk => (a185 _ (by omega)).symm))
      · rw [a186, if_neg cb] at k1
        obtain ⟨w1, w2⟩ := y3 k k0 k1
        rw [a185 _ (by omega), qB, if_neg (by omega), if_neg (by omega), if_neg (by omega), if_neg (by omega), if_neg (by omega), w2]
        exact ⟨w1, rfl⟩
  · rw [a186, if_neg (fun y => z (by rw [y]; exact sz)), (h6 b b0 b1).1 z]
  · by_cases cb : b = F
    · exact Or.inl cb
    · rw [a186, if_neg cb] at z2
      rcases (h6 b b0 b1).2 z1 z2 with y | y
      · exact absurd y (fun z => z)
      · rw [er']
        exact Or.inr y
  · obtain ⟨y1, y2, y3⟩ := h7 k hk
    rw [er k]
    refine ⟨y1, ?_, ?_⟩
    · rw [a186]
      by_cases cb : rowU A r k = F
      · rw [if_pos cb]
        omega
      · rw [if_neg cb]
        exact y2
    · rw [qB, if_neg (by omega), if_neg (by omega), if_neg (by omega), if_neg (by omega), if_neg (by omega), y3]
  · rw [qB, if_neg (by omega), if_neg (by omega), if_neg (by omega), if_neg (by omega), if_neg (by omega), d1]
  · rw [← d2]
    refine sm_cg (fun k hk => ?_)
    obtain ⟨y1, y2, y3⟩ := h7 k hk
    show (NBc (wI A 184 12 h') fr l F).1 186 (rowU (NBc (wI A 184 12 h') fr l F) r k) = A.1 186 (rowU A r k)
    rw [er k, a186, if_neg (fun y => y2 (by rw [y]; exact fz))]
  · rw [qA, if_neg (by omega), if_pos ⟨rfl, rfl⟩, qB, if_neg (by omega), if_pos ⟨rfl, rfl⟩, c1]
  · rw [qA, if_neg (by omega), if_pos ⟨rfl, rfl⟩, c2, sm_upd (n := 300) (i := F.toNat) (f := fun b : Nat => B.1 448 b) (g := fun b : Nat => (NBm B fr l F).1 448 b) (by omega) (fun k _ hne => by
      show (NBm B fr l F).1 448 k = B.1 448 k
      rw [b448, if_neg (by omega)])]
    show _ = _ + ((NBm B fr l F).1 448 (F.toNat : Nat) - B.1 448 (F.toNat : Nat))
    rw [show ((F.toNat : Nat) : Int) = F by omega, b448, if_pos rfl, bF]
    omega
  · rw [qA, if_pos ⟨rfl, rfl⟩, qB, if_pos ⟨rfl, rfl⟩, c3]
  · rw [qA, if_pos ⟨rfl, rfl⟩, c4, sm_upd (n := 300) (i := F.toNat) (f := fun b : Nat => A.1 186 b) (g := fun b : Nat => (NBc (wI A 184 12 h') fr l F).1 186 b) (by omega) (fun k _ hne => by
      show (NBc (wI A 184 12 h') fr l F).1 186 k = A.1 186 k
      rw [a186, if_neg (by omega)])]
    show _ = _ + ((NBc (wI A 184 12 h') fr l F).1 186 (F.toNat : Nat) - A.1 186 (F.toNat : Nat))
    rw [show ((F.toNat : Nat) : Int) = F by omega, a186, if_pos rfl, fz]
    omega
  · rw [qA, if_pos ⟨rfl, rfl⟩]
    omega
  · rw [qA, if_pos ⟨rfl, rfl⟩]
    exact room
  · rw [qA, if_neg (by omega), if_neg (by omega)]
    by_cases c8 : a = 188 ∧ k = F
    · rw [if_pos c8, c8.1, c8.2, z188 sz]
    · rw [if_neg c8, if_neg (by omega), if_neg (by omega), if_neg (by omega), if_neg (by omega), h10 a k ha]
  · rw [qB, if_neg (by omega), if_neg (by omega), if_neg (by omega), if_neg (by omega), if_neg (by omega), h11 a k ha]
/-- are all BLOCKS taken? -/
theorem sv_full {F : Int} (h : SV S A B r s n0 j fr) (hF : FB A F) : (F < 300 ↔ A.1 184 0 < 300) ∧ 0 ≤ A.1 184 0 ∧ A.1 184 0 ≤ 300 := by
  obtain ⟨-, h5, -, -, -, ⟨-, c2, -⟩, -⟩ := h
  obtain ⟨f1, f2, f3⟩ := hF
  have b01 : ∀ k : Nat, k < 300 → 0 ≤ B.1 448 k ∧ B.1 448 k ≤ 1 := fun k hk => by
    rw [(h5 k (by omega) (by omega)).2.1]
    split <;> decide
  have le := sm_le (n := 300) (f := fun b : Nat => B.1 448 b) (c := 1) (fun k hk => (b01 k hk).2)
  have nn := sm_nn (n := 300) (u := fun b : Nat => B.1 448 b) (fun k hk => (b01 k hk).1)
  rw [← c2] at le nn
  refine ⟨⟨fun hlt => ?_, fun hlt => ?_⟩, nn, by omega⟩
  · have bF : B.1 448 F = 0 := by rw [(h5 F f1.1 hlt).2.1, if_pos (f3 hlt)]
    have up := sm_upd (n := 300) (i := F.toNat) (f := fun b : Nat => B.1 448 b) (g := fun b : Nat => if b = F.toNat then 1 else B.1 448 b) (by omega) (fun k _ hne => by
      show (if k = F.toNat then (1 : Int) else B.1 448 k) = B.1 448 k
      rw [if_neg hne])
    have le2 := sm_le (n := 300) (f := fun b : Nat => if b = F.toNat then (1 : Int) else B.1 448 b) (c := 1) (fun k hk => by
      show (if k = F.toNat then (1 : Int) else B.1 448 k) ≤ 1
      split
      · decide
      · exact (b01 k hk).2)
    have e : (if F.toNat = F.toNat then (1 : Int) else B.1 448 (F.toNat : Nat)) - B.1 448 (F.toNat : Nat) = 1 := by
      rw [if_pos rfl, show ((F.toNat : Nat) : Int) = F by omega, bF]
      rfl
    rw [← c2] at up
    have up' : sm (fun b : Nat => if b = F.toNat then (1 : Int) else B.1 448 b) 300 = A.1 184 0 + ((if F.toNat = F.toNat then (1 : Int) else B.1 448 (F.toNat : Nat)) - B.1 448 (F.toNat : Nat)) := up
    rw [e] at up'
    omega
  · apply Classical.byContradiction
    intro n
    have all : ∀ k : Nat, k < 300 → B.1 448 k = 1 := fun k hk => by
      rw [(h5 k (by omega) (by omega)).2.1, if_neg (f2 k (by omega) (by omega))]
    have e1 : sm (fun b : Nat => B.1 448 b) 300 = sm (fun _ : Nat => (1 : Int)) 300 := sm_cg all
    have e2 : sm (fun _ : Nat => (1 : Int)) 300 = 300 := by decide +kernel
    omega
end Save2
