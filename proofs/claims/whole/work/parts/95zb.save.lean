/-! save: a new BLOCK, and one piece, on both sides -/
section Save1
variable {q : Nat × (Nat → Int32)} {S A B : ms} {fr : Int} {l : Nat}
/-- the class's memory with the piece as BLOCK F -/
def NBc (A : ms) (fr : Int) (l : Nat) (F : Int) : ms := wI (wI (wI (wI (wI (wC A 185 (200 * F) l (fun i => A.1 2 (fr + i))) 186 F l) 187 F (A.1 184 12)) 188 F 0) 184 0 (A.1 184 0 + 1)) 184 1 (A.1 184 1 + l)
theorem NBc_at (F : Int) (a : Nat) (k : Int) : (NBc A fr l F).1 a k = if a = 184 ∧ k = 1 then A.1 184 1 + l else if a = 184 ∧ k = 0 then A.1 184 0 + 1 else if a = 188 ∧ k = F then 0 else if a = 187 ∧ k = F then A.1 184 12 else if a = 186 ∧ k = F then (l : Int) else if a = 185 ∧ 200 * F ≤ k ∧ k < 200 * F + l then A.1 2 (fr + (k - 200 * F)) else A.1 a k := rfl
theorem lp_new {F n0 : Int} (hF : 0 ≤ F ∧ F < 300) (h0 : 0 ≤ fr) (hl : fr + l ≤ n0) (hn : n0 ≤ 6000) (l2 : l ≤ 200) : ∀ (t : Nat) (i : Nat), i + t = l → EV q 244 83 [some (.ref 184), some (.ref 1), some (vI fr), some (vI l), some (vI F), some (vI i)] [] (wC A 185 (200 * F) i (fun i => A.1 2 (fr + i))) (some (vI F)) (NBc A fr l F) := by
  have r1 : isRow 1 6000 := ⟨rfl, rfl⟩
  have wF : w32 F = F := w32_of (by omega)
  intro t
  induction t with
  | zero =>
    intro i hi
    have e : i = l := by omega
    subst e
    refine vc_Store_placeOf_83 _ _ _ _ 1 6000 r1 ?_
    rw [wF]
    refine ⟨fun _ => ⟨by omega, fun S2 f2 => ⟨by omega, fun S4 f4 => ⟨by omega, fun S6 f6 S7 f7 S8 f8 => ⟨rfl, ?_⟩⟩⟩⟩, fun n => absurd (Int.le_refl _) n⟩
    have e2 : S2.1 184 12 = A.1 184 12 := by
      rw [f2, rI_I, if_neg (by omega), wC_ne _ _ _ _ (by decide)]
    rw [e2] at f4
    have e6 : S6.1 184 0 = A.1 184 0 := by
      rw [f6, rI_I, if_neg (by omega), f4, rI_I, if_neg (by omega), f2, rI_I, if_neg (by omega), wC_ne _ _ _ _ (by decide)]
    rw [e6] at f7
    have e7 : S7.1 184 1 = A.1 184 1 := by
      rw [f7, rI_I, if_neg (by omega), f6, rI_I, if_neg (by omega), f4, rI_I, if_neg (by omega), f2, rI_I, if_neg (by omega), wC_ne _ _ _ _ (by decide)]
    rw [e7] at f8
    subst f2 f4 f6 f7 f8
    rfl
  | succ t ih =>
    intro i hi
    have z0 : ¬ (l : Int) ≤ i := by omega
    have z1 : 0 ≤ fr + (i : Int) ∧ fr + (i : Int) < (6000 : Nat) := by omega
    have z2 : 0 ≤ F * 200 + (i : Int) ∧ F * 200 + (i : Int) < (60000 : Nat) := by omega
    have wx : w32 (fr + i) = fr + i := w32_of (by omega)
    have wy : w32 (F * 200 + i) = F * 200 + i := w32_of (by omega)
    have ek : (i : Int) + 1 = ((i + 1 : Nat) : Int) := by omega
    have em : F * 200 + (i : Int) = 200 * F + i := by omega
    have gd := wC_gd A 185 (200 * F) i (fun i => A.1 2 (fr + i)) (by omega)
    have ki : i + 1 + t = l := by omega
    have e2 : (wC A 185 (200 * F) i (fun i => A.1 2 (fr + i))).1 (1 + 1) (fr + i) = A.1 2 (fr + i) := wC_ne _ _ _ _ (by decide)
    have wi : Unit → w32 (i : Int) = i := fun _ => w32_of (by omega)
    have wl : Unit → w32 (l : Int) = l := fun _ => w32_of (by omega)
    refine vc_Store_placeOf_83 _ _ _ _ 1 6000 r1 ?_
    rw [wl (), wi (), wx, wy, e2, em]
    refine ⟨fun n => absurd n z0, fun _ => ⟨z1, by rw [← em]; exact z2, fun S11 f => ?_⟩⟩
    rw [gd, ek] at f
    subst f
    rw [ek]
    exact ih (i + 1) ki
/-- placeOf of the class: three ways -/
theorem sp_place {n0 F : Int} (h0 : 0 ≤ fr) (hl : fr + l ≤ n0) (hn : n0 ≤ 6000) (l1 : 1 ≤ l) (l2 : l ≤ 200) (to : TO A n0) (ox : ∀ b : Int, 0 ≤ b → b < 300 → OX A B b) (hh : A.1 184 12 = hsF (fun k => A.1 2 (fr + k)) l) (ho : 0 ≤ A.1 184 1 ∧ A.1 184 1 ≤ 40000) (hF : FB A F) : (∀ b : Int, 0 ≤ b → b < 300 → LK A fr l b → (∀ j : Int, 0 ≤ j → j < b → ¬ LK A fr l j) → EV q 244 0 [some (.ref 184), some (.ref 1), some (vI fr), some (vI l), none, none] [] A (some (vI b)) A) ∧ ((∀ b : Int, 0 ≤ b → b < 300 → ¬ LK A fr l b) → (F < 300 → A.1 184 1 + l ≤ 40000 → EV q 244 0 [some (.ref 184), some (.ref 1), some (vI fr), some (vI l), none, none] [] A (some (vI F)) (NBc A fr l F)) ∧ (¬ (F < 300 ∧ A.1 184 1 + l ≤ 40000) → EV q 244 0 [some (.ref 184), some (.ref 1), some (vI fr), some (vI l), none, none] [] A (some (vI (-1))) A)) := by
  have r1 : isRow 1 6000 := ⟨rfl, rfl⟩
  obtain ⟨f1, f2, f3⟩ := id hF
  have start : ∀ {rr : Option Value} {A' : ms} (e : Int), 0 ≤ e → e ≤ 300 → (∀ b : Int, 0 ≤ b → b < e → ¬ LK A fr l b) → EV q 244 6 [some (.ref 184), some (.ref 1), some (vI fr), some (vI l), some (vI (if F < e then F else -1)), some (vI e)] [] A rr A' → EV q 244 0 [some (.ref 184), some (.ref 1), some (vI fr), some (vI l), none, none] [] A rr A' := by
    intro rr A' e e0 e1 no k
    have kk := lp_place (q := q) h0 hl hn l1 l2 to ox hh hF ⟨e0, e1⟩ no k e.toNat 0 (by omega) (by omega)
    rw [if_neg (by omega)] at kk
    exact vc_Store_placeOf _ _ 1 6000 r1 kk
  refine ⟨fun b b0 b1 lk no => start b b0 (by omega) no (vc_Store_placeOf_6 _ _ _ _ 1 6000 r1 ?_), fun no => ⟨fun cF co => start 300 (by omega) (by omega) no (vc_Store_placeOf_6 _ _ _ _ 1 6000 r1 ?_), fun cn => start 300 (by omega) (by omega) no (vc_Store_placeOf_6 _ _ _ _ 1 6000 r1 ?_)⟩⟩
  · obtain ⟨x1, -, -⟩ := ox b b0 b1
    have lz := lk.1
    have wb : w32 b = b := w32_of (by omega)
    have wz : w32 (A.1 186 b) = A.1 186 b := w32_of (by omega)
    have li := (sp_like (q := q) (b := b) ⟨b0, b1⟩ h0 hl hn l1 l2 to (ox b b0 b1) hh).1 lk
    rw [wb, wz]
    exact ⟨fun n => absurd n (by omega), fun _ => ⟨by omega, fun _ => ⟨1, A, li, fun n => absurd n (by decide), fun _ => ⟨rfl, rfl⟩⟩, fun n => absurd (by omega) n⟩⟩
  · have kn := lp_new (q := q) (A := A) (fr := fr) (l := l) (F := F) ⟨f1.1, cF⟩ h0 hl hn l2 l 0 (by omega)
    rw [show ((0 : Nat) : Int) = 0 from rfl, wC_00] at kn
    rw [if_pos cF]
    have wF : w32 F = F := w32_of (by omega)
    have wo : w32 (40000 - A.1 184 1) = 40000 - A.1 184 1 := w32_of (by omega)
    have zo : (l : Int) ≤ 40000 - A.1 184 1 := by omega
    have wl : Unit → w32 (l : Int) = l := fun _ => w32_of (by omega)
    rw [wF, wo, wl ()]
    exact ⟨fun _ => ⟨fun n => absurd n (by omega), fun _ => ⟨fun _ => kn, fun n => absurd zo n⟩⟩, fun n => absurd (by decide) n⟩
  · by_cases cF : F < 300
    · rw [if_pos cF]
      have wF : w32 F = F := w32_of (by omega)
      have wo : w32 (40000 - A.1 184 1) = 40000 - A.1 184 1 := w32_of (by omega)
      have zo : ¬ (l : Int) ≤ 40000 - A.1 184 1 := fun z => cn ⟨cF, by omega⟩
      have wl : Unit → w32 (l : Int) = l := fun _ => w32_of (by omega)
      rw [wF, wo, wl ()]
      exact ⟨fun _ => ⟨fun _ => ⟨rfl, rfl⟩, fun _ => ⟨fun z => absurd z zo, fun _ => ⟨rfl, rfl⟩⟩⟩, fun n => absurd (by decide) n⟩
    · rw [if_neg cF]
      exact ⟨fun _ => ⟨fun _ => ⟨rfl, rfl⟩, fun n => absurd (by decide) n⟩, fun n => absurd (by decide) n⟩
/-- blockOf of the reference -/
theorem md_place {n0 : Int} (h0 : 0 ≤ fr) (hl : fr + l ≤ n0) (hn : n0 ≤ 6000) (l1 : 1 ≤ l) (l2 : l ≤ 200) (to : TO A n0) (hB : ∀ k : Int, 0 ≤ k → k < n0 → B.1 368 k = b8 (A.1 2 k)) (ox : ∀ b : Int, 0 ≤ b → b < 300 → OX A B b) : (∀ b : Int, 0 ≤ b → b < 300 → LK A fr l b → (∀ j : Int, 0 ≤ j → j < b → ¬ LK A fr l j) → EV q 423 0 [some (.ref 367), some (vI fr), some (vI l), none, none, none] [] B (some (vI b)) B) ∧ ((∀ b : Int, 0 ≤ b → b < 300 → ¬ LK A fr l b) → EV q 423 0 [some (.ref 367), some (vI fr), some (vI l), none, none, none] [] B (some (vI (-1))) B) := by
  refine ⟨fun b b0 b1 lk no => vc_MD_blockOf _ _ (lp_mplace (q := q) h0 hl hn l1 l2 to hB ox ⟨b0, by omega⟩ no ?_ b.toNat 0 (by omega) (by omega)), fun no => vc_MD_blockOf _ _ (lp_mplace (q := q) (e := 300) h0 hl hn l1 l2 to hB ox (by omega) no (vc_MD_blockOf_2 _ _ _ ⟨fun _ => ⟨rfl, rfl⟩, fun n => absurd (by decide) n⟩) 300 0 (by omega) (by omega))⟩
  obtain ⟨x1, x2, x3⟩ := id (ox b b0 b1)
  have lz := lk.1
  have nz : A.1 186 b ≠ 0 := by omega
  have wb : w32 b = b := w32_of (by omega)
  have wz : w32 (A.1 186 b) = A.1 186 b := w32_of (by omega)
  have kk := lp_mlike (q := q) (A := A) (b := b) (rr := some (vI b)) (B' := B) ⟨b0, b1⟩ h0 hl hn l1 l2 to hB (ox b b0 b1) lz (fun _ => ⟨rfl, rfl⟩) (fun n => absurd lk n) l 0 (by omega) (fun j hj => absurd hj (by omega))
  have wl : Unit → w32 (l : Int) = l := fun _ => w32_of (by omega)
  refine vc_MD_blockOf_2 _ _ _ ?_
  rw [wb, x2, if_neg nz, (x3 nz).1, wz, wl ()]
  exact ⟨fun n => absurd n (by omega), fun _ => ⟨by omega, fun n => absurd n (by decide), fun _ => ⟨by omega, fun n => absurd lz n, fun _ => vc_MD_blockOf_33 _ _ _ _ kk⟩⟩⟩
/-- the reference's memory with the piece as BLOCK F -/
def NBm (B : ms) (fr : Int) (l : Nat) (F : Int) : ms := wI (wI (wC (wI (wI B 448 F 1) 447 F l) 446 (200 * F) l (fun i => b8 (B.1 368 (fr + i)))) 367 123 (B.1 367 123 + 1)) 367 124 (B.1 367 124 + l)
theorem NBm_at (F : Int) (a : Nat) (k : Int) : (NBm B fr l F).1 a k = if a = 367 ∧ k = 124 then B.1 367 124 + l else if a = 367 ∧ k = 123 then B.1 367 123 + 1 else if a = 446 ∧ 200 * F ≤ k ∧ k < 200 * F + l then b8 (B.1 368 (fr + (k - 200 * F))) else if a = 447 ∧ k = F then (l : Int) else if a = 448 ∧ k = F then 1 else B.1 a k := rfl
theorem lp_mnew {x1 F n0 : Int} (hF : 0 ≤ F ∧ F < 300) (h0 : 0 ≤ fr) (hl : fr + l ≤ n0) (hn : n0 ≤ 6000) (l2 : l ≤ 200) {rr : Option Value} {B' : ms} (k : EV q 421 209 [some (.ref 367), some (vI x1), some (vI 1), some (vI fr), some (vI (fr + l)), some (vI F), none] [] (NBm B fr l F) rr B') : ∀ (t : Nat) (i : Nat), i + t = l → EV q 421 148 [some (.ref 367), some (vI x1), some (vI 1), some (vI fr), some (vI (fr + l)), some (vI F), some (vI i)] [] (wC (wI (wI B 448 F 1) 447 F l) 446 (200 * F) i (fun i => b8 (B.1 368 (fr + i)))) rr B' := by
  have el : fr + (l : Int) - fr = l := by omega
  intro t
  induction t with
  | zero =>
    intro i hi
    have e : i = l := by omega
    subst e
    refine vc_MD_save_148 _ _ _ _ _ _ ?_
    rw [el]
    refine ⟨fun _ S1 f1 S2 f2 => ?_, fun n => absurd (Int.le_refl _) n⟩
    have e1 : S1.1 367 124 = B.1 367 124 := by
      rw [f1, rI_I, if_neg (by omega), wC_ne _ _ _ _ (by decide), rI_I, if_neg (by omega), rI_I, if_neg (by omega)]
    have e0 : (wC (wI (wI B 448 F 1) 447 F i) 446 (200 * F) i (fun i => b8 (B.1 368 (fr + i)))).1 367 123 = B.1 367 123 := by
      rw [wC_ne _ _ _ _ (by decide), rI_I, if_neg (by omega), rI_I, if_neg (by omega)]
    rw [e1] at f2
    rw [e0] at f1
    subst f1 f2
    exact k
  | succ t ih =>
    intro i hi
    have z0 : ¬ (l : Int) ≤ i := by omega
    have z1 : 0 ≤ fr + (i : Int) ∧ fr + (i : Int) < (6000 : Nat) := by omega
    have z2 : 0 ≤ 200 * F + (i : Int) ∧ 200 * F + (i : Int) < (60000 : Nat) := by omega
    have wx : w32 (fr + i) = fr + i := w32_of (by omega)
    have wy : w32 (200 * F + i) = 200 * F + i := w32_of (by omega)
    have ek : (i : Int) + 1 = ((i + 1 : Nat) : Int) := by omega
    have gd := wC_gd (wI (wI B 448 F 1) 447 F l) 446 (200 * F) i (fun i => b8 (B.1 368 (fr + i))) (by omega)
    have ki : i + 1 + t = l := by omega
    have e2 : (wC (wI (wI B 448 F 1) 447 F l) 446 (200 * F) i (fun i => b8 (B.1 368 (fr + i)))).1 368 (fr + i) = B.1 368 (fr + i) := by
      rw [wC_ne _ _ _ _ (by decide), rI_I, if_neg (by omega), rI_I, if_neg (by omega)]
    have wi : Unit → w32 (i : Int) = i := fun _ => w32_of (by omega)
    have wl : Unit → w32 (l : Int) = l := fun _ => w32_of (by omega)
    refine vc_MD_save_148 _ _ _ _ _ _ ?_
    rw [el, wl (), wi (), wx, wy, e2]
    refine ⟨fun n => absurd n z0, fun _ => ⟨z1, z2, fun S5 f => ?_⟩⟩
    rw [gd, ek] at f
    subst f
    rw [ek]
    exact ih (i + 1) ki
/-- the reference finds the first free place F -/
theorem lp_mfree {x1 x4 F : Int} (hF : 0 ≤ F ∧ F < 300) (hB : ∀ j : Int, 0 ≤ j → j < F → B.1 448 j = 1) (hB0 : B.1 448 F = 0) {rr : Option Value} {B' : ms} (k : EV q 421 122 [some (.ref 367), some (vI x1), some (vI 1), some (vI fr), some (vI x4), some (vI F), none] [] B rr B') : ∀ (t : Nat) (i : Int), 0 ≤ i → i + t = F → EV q 421 102 [some (.ref 367), some (vI x1), some (vI 1), some (vI fr), some (vI x4), some (vI i), none] [] B rr B' := by
  intro t
  induction t with
  | zero =>
    intro i i0 hi
    have e : i = F := by omega
    rw [e]
    have wi : w32 F = F := w32_of (by omega)
    refine vc_MD_save_102 _ _ _ _ _ ?_
    rw [wi, hB0]
    exact ⟨fun n => absurd n (by decide), fun _ => ⟨by omega, fun _ => k, fun n => absurd rfl n⟩⟩
  | succ t ih =>
    intro i i0 hi
    have wi : w32 i = i := w32_of (by omega)
    refine vc_MD_save_102 _ _ _ _ _ ?_
    rw [wi, hB i i0 (by omega)]
    exact ⟨fun n => absurd n (by decide), fun _ => ⟨by omega, fun n => absurd n (by decide), fun _ => ih (i + 1) (by omega) (by omega)⟩⟩
end Save1
