/-! the BLOCK that is like a piece, or a new one, on both sides -/
section Place
variable {q : Nat × (Nat → Int32)} {S A B : ms} {fr : Int} {l : Nat}
/-- BLOCK b is like the l octets from fr on -/
def LK (A : ms) (fr : Int) (l : Nat) (b : Int) : Prop := A.1 186 b = l ∧ ∀ i : Nat, i < l → A.1 185 (200 * b + i) = A.1 2 (fr + i)
/-- BLOCK b on the two sides, which may be two memories -/
def OX (A B : ms) (b : Int) : Prop := (0 ≤ A.1 186 b ∧ A.1 186 b ≤ 200) ∧ B.1 448 b = (if A.1 186 b = 0 then 0 else 1) ∧ (A.1 186 b ≠ 0 → B.1 447 b = A.1 186 b ∧ w32 (A.1 187 b) = w32 (hsF (fun k => A.1 185 (200 * b + k)) (A.1 186 b).toNat) ∧ ∀ k : Int, 0 ≤ k → k < A.1 186 b → (0 ≤ A.1 185 (200 * b + k) ∧ A.1 185 (200 * b + k) < 256) ∧ B.1 446 (200 * b + k) = b8 (A.1 185 (200 * b + k)))
theorem hsF_cg {g g' : Nat → Int} : ∀ {n : Nat}, (∀ k, k < n → g k = g' k) → hsF g n = hsF g' n
  | 0, _ => rfl
  | n + 1, h => by
    show hsF g n * 31 + g n + 1 = hsF g' n * 31 + g' n + 1
    rw [hsF_cg (fun k hk => h k (by omega)), h n (by omega)]
/-- the octets of the TRAY -/
def TO (A : ms) (n0 : Int) : Prop := ∀ k : Int, 0 ≤ k → k < n0 → 0 ≤ A.1 2 k ∧ A.1 2 k < 256
theorem lp_like {b n0 : Int} (hb : 0 ≤ b ∧ b < 300) (h0 : 0 ≤ fr) (hl : fr + l ≤ n0) (hn : n0 ≤ 6000) (l2 : l ≤ 200) (to : TO A n0) (hsz : A.1 186 b = l) (oc : ∀ k : Int, 0 ≤ k → k < l → 0 ≤ A.1 185 (200 * b + k) ∧ A.1 185 (200 * b + k) < 256) {rr : Option Value} (k1 : LK A fr l b → rr = some (vI 1)) (k2 : ¬ LK A fr l b → rr = some (vI 0)) : ∀ (t i : Nat), i + t = l → (∀ j : Nat, j < i → A.1 185 (200 * b + j) = A.1 2 (fr + j)) → EV q 245 29 [some (.ref 184), some (vI b), some (.ref 1), some (vI fr), some (vI l), some (vI i)] [] A rr A := by
  have r1 : isRow 1 6000 := ⟨rfl, rfl⟩
  intro t
  induction t with
  | zero =>
    intro i hi hj
    have e : i = l := by omega
    subst e
    exact vc_Store_isLike_29 _ _ _ _ 1 6000 r1 ⟨fun _ => ⟨k1 ⟨hsz, hj⟩, rfl⟩, fun n => absurd (Int.le_refl _) n⟩
  | succ t ih =>
    intro i hi hj
    have o1 := oc i (by omega) (by omega)
    have o2 := to (fr + i) (by omega) (by omega)
    have z0 : ¬ (l : Int) ≤ i := by omega
    have z1 : 0 ≤ b * 200 + (i : Int) ∧ b * 200 + (i : Int) < (60000 : Nat) := by omega
    have z2 : 0 ≤ fr + (i : Int) ∧ fr + (i : Int) < (6000 : Nat) := by omega
    have wx : w32 (b * 200 + i) = b * 200 + i := w32_of (by omega)
    have wy : w32 (fr + i) = fr + i := w32_of (by omega)
    have e1 : A.1 185 (b * 200 + i) = A.1 185 (200 * b + i) := by rw [Int.mul_comm]
    have e2 : A.1 (1 + 1) (fr + i) = A.1 2 (fr + i) := rfl
    have w1 : w32 (A.1 185 (200 * b + i)) = A.1 185 (200 * b + i) := w32_of (by omega)
    have w2 : w32 (A.1 2 (fr + i)) = A.1 2 (fr + i) := w32_of (by omega)
    have ki : i + 1 + t = l := by omega
    have ek : (i : Int) + 1 = ((i + 1 : Nat) : Int) := by omega
    have ll : i < l := by omega
    have wi : Unit → w32 (i : Int) = i := fun _ => w32_of (by omega)
    have wl : Unit → w32 (l : Int) = l := fun _ => w32_of (by omega)
    refine vc_Store_isLike_29 _ _ _ _ 1 6000 r1 ?_
    rw [wl (), wi (), wx, wy, e1, e2, w1, w2, ek]
    refine ⟨fun n => absurd n z0, fun _ => ⟨z1, z2, fun c => ih (i + 1) ki (fun j hj' => ?_), fun c => ⟨k2 (fun y => c (y.2 i ll)), rfl⟩⟩⟩
    by_cases cj : j = i
    · subst cj
      exact c
    · exact hj j (by omega)
/-- isLike of the class -/
theorem sp_like {b n0 : Int} (hb : 0 ≤ b ∧ b < 300) (h0 : 0 ≤ fr) (hl : fr + l ≤ n0) (hn : n0 ≤ 6000) (l1 : 1 ≤ l) (l2 : l ≤ 200) (to : TO A n0) (ox : OX A B b) (hh : A.1 184 12 = hsF (fun k => A.1 2 (fr + k)) l) : (LK A fr l b → EV q 245 0 [some (.ref 184), some (vI b), some (.ref 1), some (vI fr), some (vI l), none] [] A (some (vI 1)) A) ∧ (¬ LK A fr l b → EV q 245 0 [some (.ref 184), some (vI b), some (.ref 1), some (vI fr), some (vI l), none] [] A (some (vI 0)) A) := by
  have r1 : isRow 1 6000 := ⟨rfl, rfl⟩
  obtain ⟨x1, -, x3⟩ := ox
  have wb : w32 b = b := w32_of (by omega)
  have wz : w32 (A.1 186 b) = A.1 186 b := w32_of (by omega)
  have wl : Unit → w32 (l : Int) = l := fun _ => w32_of (by omega)
  have ln : (l : Int) ≠ 0 := by omega
  constructor
  · intro lk
    obtain ⟨-, y2, y3⟩ := x3 (by rw [lk.1]; exact ln)
    refine vc_Store_isLike _ _ _ 1 6000 r1 ?_
    rw [wb, wz, wl (), hh]
    refine ⟨by omega, fun n => absurd lk.1 n, fun _ => ⟨by omega, fun _ => lp_like (q := q) (rr := some (vI 1)) hb h0 hl hn l2 to lk.1 (fun k k0 k1 => (y3 k k0 (by rw [lk.1]; exact k1)).1) (fun _ => rfl) (fun n => absurd lk n) l 0 (by omega) (fun j hj => absurd hj (by omega)), fun n => absurd ?_ n⟩⟩
    rw [y2, lk.1, show (((l : Nat) : Int)).toNat = l by omega]
    exact congrArg w32 (hsF_cg (fun k hk => lk.2 k hk))
  · intro lk
    refine vc_Store_isLike _ _ _ 1 6000 r1 ?_
    rw [wb, wz, wl ()]
    refine ⟨by omega, fun _ => ⟨rfl, rfl⟩, fun c => ⟨by omega, fun _ => ?_, fun _ => ⟨rfl, rfl⟩⟩⟩
    have c' := Classical.not_not.mp c
    obtain ⟨-, y2, y3⟩ := x3 (by rw [c']; exact ln)
    exact lp_like (q := q) (rr := some (vI 0)) hb h0 hl hn l2 to c' (fun k k0 k1 => (y3 k k0 (by rw [c']; exact k1)).1) (fun y => absurd y lk) (fun _ => rfl) l 0 (by omega) (fun j hj => absurd hj (by omega))
/-- the first free BLOCK is F (300: none) -/
def FB (A : ms) (F : Int) : Prop := (0 ≤ F ∧ F ≤ 300) ∧ (∀ j : Int, 0 ≤ j → j < F → A.1 186 j ≠ 0) ∧ (F < 300 → A.1 186 F = 0)
theorem fb_up (A : ms) : ∀ (t : Nat) (i : Int), 0 ≤ i → i + t = 300 → (∀ j : Int, 0 ≤ j → j < i → A.1 186 j ≠ 0) → ∃ F, FB A F := by
  intro t
  induction t with
  | zero => exact fun i i0 hi hj => ⟨i, by omega, hj, fun n => absurd n (by omega)⟩
  | succ t ih =>
    intro i i0 hi hj
    by_cases c : A.1 186 i = 0
    · exact ⟨i, by omega, hj, fun _ => c⟩
    · refine ih (i + 1) (by omega) (by omega) (fun j j0 j1 => ?_)
      by_cases cj : j = i
      · rw [cj]
        exact c
      · exact hj j j0 (by omega)
theorem fb_ex (A : ms) : ∃ F, FB A F := fb_up A 300 0 (by decide) (by decide) (fun j j0 j1 => absurd j1 (by omega))
/-- the class looks through the BLOCKS as far as e; none of them is like -/
theorem lp_place {n0 F e : Int} (h0 : 0 ≤ fr) (hl : fr + l ≤ n0) (hn : n0 ≤ 6000) (l1 : 1 ≤ l) (l2 : l ≤ 200) (to : TO A n0) (ox : ∀ b : Int, 0 ≤ b → b < 300 → OX A B b) (hh : A.1 184 12 = hsF (fun k => A.1 2 (fr + k)) l) (hF : FB A F) (he : 0 ≤ e ∧ e ≤ 300) (no : ∀ b : Int, 0 ≤ b → b < e → ¬ LK A fr l b) {rr : Option Value} {A' : ms} (k : EV q 244 6 [some (.ref 184), some (.ref 1), some (vI fr), some (vI l), some (vI (if F < e then F else -1)), some (vI e)] [] A rr A') : ∀ (t : Nat) (i : Int), 0 ≤ i → i + t = e → EV q 244 6 [some (.ref 184), some (.ref 1), some (vI fr), some (vI l), some (vI (if F < i then F else -1)), some (vI i)] [] A rr A' := by
  have r1 : isRow 1 6000 := ⟨rfl, rfl⟩
  obtain ⟨f1, f2, f3⟩ := hF
  intro t
  induction t with
  | zero =>
    intro i i0 hi
    have e : i = e := by omega
    rw [e]
    exact k
  | succ t ih =>
    intro i i0 hi
    have nx := vc_Store_placeOf_56 (q := q) fr l (if F < i + 1 then F else -1) i 1 6000 r1 (ih (i + 1) (by omega) (by omega))
    obtain ⟨x1, -, -⟩ := ox i i0 (by omega)
    have wi : w32 i = i := w32_of (by omega)
    have wz : w32 (A.1 186 i) = A.1 186 i := w32_of (by omega)
    have nl := (sp_like (q := q) (b := i) ⟨i0, by omega⟩ h0 hl hn l1 l2 to (ox i i0 (by omega)) hh).2 (no i i0 (by omega))
    refine vc_Store_placeOf_6 _ _ _ _ 1 6000 r1 ?_
    rw [wi, wz]
    refine ⟨fun n => absurd n (by omega), fun _ => ⟨by omega, fun c => ⟨0, A, nl, fun _ => ?_, fun n => absurd rfl n⟩, fun c => ?_⟩⟩
    · have e1 : (if F < i + 1 then F else -1) = if F < i then F else -1 := by
        by_cases cf : F < i
        · rw [if_pos cf, if_pos (by omega)]
        · by_cases cf2 : F = i
          · exact absurd (f3 (by omega)) (by rw [cf2]; exact c)
          · rw [if_neg cf, if_neg (by omega)]
      rw [e1] at nx
      exact nx
    · have c' := Classical.not_not.mp c
      by_cases cf : F < i
      · rw [if_pos cf]
        rw [if_pos (by omega)] at nx
        have wF : w32 F = F := w32_of (by omega)
        rw [wF]
        exact ⟨fun _ => vc_Store_placeOf_36 _ _ _ _ _ 1 6000 r1 nx, fun n => absurd (by omega) n⟩
      · have eF : F = i := by
          apply Classical.byContradiction
          intro n
          exact f2 i i0 (by omega) c'
        rw [if_neg cf]
        rw [if_pos (by omega), eF] at nx
        exact ⟨fun n => absurd n (by decide), fun _ => vc_Store_placeOf_36 _ _ _ _ _ 1 6000 r1 nx⟩
/-- the reference compares one BLOCK -/
theorem lp_mlike {b n0 : Int} (hb : 0 ≤ b ∧ b < 300) (h0 : 0 ≤ fr) (hl : fr + l ≤ n0) (hn : n0 ≤ 6000) (l1 : 1 ≤ l) (l2 : l ≤ 200) (to : TO A n0) (hB : ∀ k : Int, 0 ≤ k → k < n0 → B.1 368 k = b8 (A.1 2 k)) (ox : OX A B b) (hsz : A.1 186 b = l) {rr : Option Value} {B' : ms} (k1 : LK A fr l b → rr = some (vI b) ∧ B' = B) (k2 : ¬ LK A fr l b → EV q 423 2 [some (.ref 367), some (vI fr), some (vI l), some (vI (b + 1)), none, none] [] B rr B') : ∀ (t i : Nat), i + t = l → (∀ j : Nat, j < i → A.1 185 (200 * b + j) = A.1 2 (fr + j)) → EV q 423 38 [some (.ref 367), some (vI fr), some (vI l), some (vI b), some (vI 1), some (vI i)] [] B rr B' := by
  obtain ⟨-, -, x3⟩ := ox
  have ln : (l : Int) ≠ 0 := by omega
  obtain ⟨-, -, y3⟩ := x3 (by rw [hsz]; exact ln)
  intro t
  induction t with
  | zero =>
    intro i hi hj
    have e : i = l := by omega
    subst e
    exact vc_MD_blockOf_38 _ _ _ _ _ ⟨fun _ => vc_MD_blockOf_87 _ _ _ _ _ ⟨fun n => absurd n (by decide), fun _ => k1 ⟨hsz, hj⟩⟩, fun n => absurd (Int.le_refl _) n⟩
  | succ t ih =>
    intro i hi hj
    obtain ⟨o1, o3⟩ := y3 i (by omega) (by omega)
    have o2 := to (fr + i) (by omega) (by omega)
    have o4 := hB (fr + i) (by omega) (by omega)
    have z0 : ¬ (l : Int) ≤ i := by omega
    have z1 : 0 ≤ 200 * b + (i : Int) ∧ 200 * b + (i : Int) < (60000 : Nat) := by omega
    have z2 : 0 ≤ fr + (i : Int) ∧ fr + (i : Int) < (6000 : Nat) := by omega
    have wx : w32 (200 * b + i) = 200 * b + i := w32_of (by omega)
    have wy : w32 (fr + i) = fr + i := w32_of (by omega)
    have g1 := b8_rg (A.1 185 (200 * b + i))
    have g2 := b8_rg (A.1 2 (fr + i))
    have w1 : w32 (b8 (A.1 185 (200 * b + i))) = b8 (A.1 185 (200 * b + i)) := w32_of (by omega)
    have w2 : w32 (b8 (A.1 2 (fr + i))) = b8 (A.1 2 (fr + i)) := w32_of (by omega)
    have be := b8_eq o1 o2
    have ki : i + 1 + t = l := by omega
    have ek : (i : Int) + 1 = ((i + 1 : Nat) : Int) := by omega
    have ll : i < l := by omega
    have wi : Unit → w32 (i : Int) = i := fun _ => w32_of (by omega)
    have wl : Unit → w32 (l : Int) = l := fun _ => w32_of (by omega)
    refine vc_MD_blockOf_38 _ _ _ _ _ ?_
    rw [wl (), wi (), wx, wy, o3, o4, w1, w2, be]
    refine ⟨fun n => absurd n z0, fun _ => ⟨fun n => absurd n (by decide), fun _ => ⟨z1, z2, fun c => vc_MD_blockOf_79 _ _ _ _ _ _ ?_, fun c => vc_MD_blockOf_79 _ _ _ _ _ _ ?_⟩⟩⟩
    · have nl : ¬ LK A fr l b := fun y => c (y.2 i ll)
      have f87 : ∀ x5 : Int, EV q 423 87 [some (.ref 367), some (vI fr), some (vI l), some (vI b), some (vI 0), some (vI x5)] [] B rr B' := fun x5 => vc_MD_blockOf_87 _ _ _ _ _ ⟨fun _ => k2 nl, fun n => absurd rfl n⟩
      exact vc_MD_blockOf_38 _ _ _ _ _ ⟨fun _ => f87 _, fun _ => ⟨fun _ => f87 _, fun n => absurd rfl n⟩⟩
    · rw [ek]
      refine ih (i + 1) ki (fun j hj' => ?_)
      by_cases cj : j = i
      · subst cj
        exact Classical.not_not.mp c
      · exact hj j (by omega)
/-- the reference looks through the BLOCKS as far as e; none of them is like -/
theorem lp_mplace {n0 e : Int} (h0 : 0 ≤ fr) (hl : fr + l ≤ n0) (hn : n0 ≤ 6000) (l1 : 1 ≤ l) (l2 : l ≤ 200) (to : TO A n0) (hB : ∀ k : Int, 0 ≤ k → k < n0 → B.1 368 k = b8 (A.1 2 k)) (ox : ∀ b : Int, 0 ≤ b → b < 300 → OX A B b) (he : 0 ≤ e ∧ e ≤ 300) (no : ∀ b : Int, 0 ≤ b → b < e → ¬ LK A fr l b) {rr : Option Value} {B' : ms} (k : EV q 423 2 [some (.ref 367), some (vI fr), some (vI l), some (vI e), none, none] [] B rr B') : ∀ (t : Nat) (i : Int), 0 ≤ i → i + t = e → EV q 423 2 [some (.ref 367), some (vI fr), some (vI l), some (vI i), none, none] [] B rr B' := by
  intro t
  induction t with
  | zero =>
    intro i i0 hi
    have e : i = e := by omega
    rw [e]
    exact k
  | succ t ih =>
    intro i i0 hi
    have nx := ih (i + 1) (by omega) (by omega)
    have oxi := ox i i0 (by omega)
    obtain ⟨x1, x2, x3⟩ := id oxi
    have nl := no i i0 (by omega)
    have zl : ¬ (l : Int) ≤ 0 := by omega
    have zi : 0 ≤ i ∧ i < (300 : Nat) := by omega
    have zn : ¬ 300 ≤ i := by omega
    have wi : w32 i = i := w32_of (by omega)
    have wz : w32 (A.1 186 i) = A.1 186 i := w32_of (by omega)
    have f87 : ∀ x5 : Int, EV q 423 87 [some (.ref 367), some (vI fr), some (vI l), some (vI i), some (vI 0), some (vI x5)] [] B rr B' := fun x5 => vc_MD_blockOf_87 _ _ _ _ _ ⟨fun _ => nx, fun n => absurd rfl n⟩
    have f32 : EV q 423 32 [some (.ref 367), some (vI fr), some (vI l), some (vI i), none, none] [] B rr B' := vc_MD_blockOf_32 _ _ _ (vc_MD_blockOf_33 _ _ _ _ (vc_MD_blockOf_38 _ _ _ _ _ ⟨fun _ => f87 _, fun _ => ⟨fun _ => f87 _, fun n => absurd rfl n⟩⟩))
    have lk0 : A.1 186 i = l → EV q 423 38 [some (.ref 367), some (vI fr), some (vI l), some (vI i), some (vI 1), some (vI ((0 : Nat) : Int))] [] B rr B' := fun e => lp_mlike (q := q) (A := A) (b := i) zi h0 hl hn l1 l2 to hB oxi e (fun y => absurd y nl) (fun _ => nx) l 0 (by omega) (fun j hj => absurd hj (by omega))
    have wl : Unit → w32 (l : Int) = l := fun _ => w32_of (by omega)
    refine vc_MD_blockOf_2 _ _ _ ?_
    rw [wi, x2]
    by_cases c0 : A.1 186 i = 0
    · rw [if_pos c0]
      exact ⟨fun n => absurd n zn, fun _ => ⟨zi, fun _ => f32, fun n => absurd rfl n⟩⟩
    · rw [if_neg c0, (x3 c0).1, wz, wl ()]
      exact ⟨fun n => absurd n zn, fun _ => ⟨zi, fun n => absurd n (by decide), fun _ => ⟨zi, fun _ => f32, fun c => vc_MD_blockOf_33 _ _ _ _ (lk0 (Classical.not_not.mp c))⟩⟩⟩
theorem lk_least {P : Int → Prop} : ∀ (t : Nat) (i : Int), 0 ≤ i → i + t = 300 → (∀ b : Int, 0 ≤ b → b < i → ¬ P b) → (∃ b : Int, (0 ≤ b ∧ b < 300) ∧ P b ∧ ∀ j : Int, 0 ≤ j → j < b → ¬ P j) ∨ ∀ b : Int, 0 ≤ b → b < 300 → ¬ P b := by
  intro t
  induction t with
  | zero => exact fun i i0 hi h => Or.inr (fun b b0 b1 => h b b0 (by omega))
  | succ t ih =>
    intro i i0 hi h
    by_cases c : P i
    · exact Or.inl ⟨i, by omega, c, h⟩
    · refine ih (i + 1) (by omega) (by omega) (fun b b0 b1 => ?_)
      by_cases cb : b = i
      · rw [cb]
        exact c
      · exact h b b0 (by omega)
end Place
