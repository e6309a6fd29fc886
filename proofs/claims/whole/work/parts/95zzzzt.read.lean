/-! read: names and ENTRIES that come in -/
section Rea3
variable {q : Nat × (Nat → Int32)} {x p : Int} {t : Int → Int}
theorem b5_row {sh : Nat} (h : isSh sh) : isRow (sh + 5) 100 := by
  rcases h with e | e <;> subst e <;> exact ⟨rfl, rfl⟩
/-- octets of the TRAY, added to a label as far as the first 0: tapeLabel's two loops -/
theorem sp_lab21 {sh : Nat} {g : Int → Int} {u : Nat} (hs : isSh sh) (h0 : 0 ≤ p) (h1 : p + 512 ≤ x) (hx : x ≤ 6000) (hu : upR t (p + 345) 155 u) (hg : ∀ k : Nat, k < u → g k = t (p + 345 + k)) : ∀ (d j : Nat) (A : ms), j + d = u → TC A x t → LabC A (sh + 5) j g → ∃ A1, EX (fun a _ => a = sh + 5 ∨ a = sh + 6) A A1 ∧ LabC A1 (sh + 5) u g ∧ ∀ (r : Option Value) (T : ms), EV q 198 54 [some (.ref sh), some (.ref 2), some (vI p), some (vI (345 + (u : Int)))] [] A1 r T → EV q 198 21 [some (.ref sh), some (.ref 2), some (vI p), some (vI (345 + (j : Int)))] [] A r T := by
  have hsl := isSh_is hs
  have sh2 : sh ≠ 2 ∧ sh + 5 ≠ 2 ∧ sh + 6 ≠ 2 := by rcases hs with e | e <;> omega
  intro d
  induction d with
  | zero =>
    intro j A hj hA hL
    have e : j = u := by omega
    subst e
    refine ⟨A, EX.refl _ A, hL, fun r T k => vc_Shelf_tapeLabel_21 _ _ sh hsl 2 6000 sh_2 ?_⟩
    have wj : Unit → w32 (345 + (j : Int)) = 345 + j := fun _ => w32_of (by have := hu.1; omega)
    have wpj : Unit → w32 (p + (345 + (j : Int))) = p + 345 + j := fun _ => by rw [w32_of (by have := hu.1; omega)]; omega
    rw [wj (), wpj ()]
    by_cases c : j < 155
    · have ht := hA (p + 345 + j) (by omega) (by omega)
      rw [ht.2, hu.2.2 c]
      exact cNo (by omega) ⟨by omega, cY (by decide) k⟩
    · exact cY (by omega) k
  | succ d ih =>
    intro j A hj hA hL
    have hj2 := hu.1
    have wj : Unit → w32 (345 + (j : Int)) = 345 + j := fun _ => w32_of (by omega)
    have wpj : Unit → w32 (p + (345 + (j : Int))) = p + 345 + j := fun _ => by rw [w32_of (by omega)]; omega
    have ej : 345 + ((j + 1 : Nat) : Int) = 345 + (j : Int) + 1 := by omega
    have ht := hA (p + 345 + j) (by omega) (by omega)
    have wt : w32 (t (p + 345 + j)) = t (p + 345 + j) := w32_of (by omega)
    obtain ⟨A1, k1, k2, k3⟩ := lab_add (q := q) (b5_row hs) hL ht.1 (by omega) (hg j (by omega))
    have hA1 : TC A1 x t := fun k k0 k1' => ⟨(hA k k0 k1').1, by rw [k1.2 2 k (by omega)]; exact (hA k k0 k1').2⟩
    obtain ⟨A2, k4, k5, k6⟩ := ih (j + 1) A1 (by omega) hA1 k2
    refine ⟨A2, EX.trans k1 k4, k5, fun r T k => vc_Shelf_tapeLabel_21 _ _ sh hsl 2 6000 sh_2 ?_⟩
    have k7 := k6 r T k
    rw [ej] at k7
    rw [wj (), wpj (), ht.2, wt]
    exact cNo (by omega) ⟨by omega, cNo (hu.2.1 j (by omega)) ⟨by omega, A1, k3, k7⟩⟩
theorem sp_lab65 {sh : Nat} {g : Int → Int} {b u : Nat} (hs : isSh sh) (h0 : 0 ≤ p) (h1 : p + 512 ≤ x) (hx : x ≤ 6000) (hb : b ≤ 1000) (hu : upR t p 100 u) (hg : ∀ k : Nat, k < u → g ((b + k : Nat) : Int) = t (p + k)) : ∀ (d j : Nat) (A : ms), j + d = u → TC A x t → LabC A (sh + 5) (b + j) g → ∃ A1, EX (fun a _ => a = sh + 5 ∨ a = sh + 6) A A1 ∧ LabC A1 (sh + 5) (b + u) g ∧ EV q 198 65 [some (.ref sh), some (.ref 2), some (vI p), some (vI j)] [] A none A1 := by
  have hsl := isSh_is hs
  have sh2 : sh ≠ 2 ∧ sh + 5 ≠ 2 ∧ sh + 6 ≠ 2 := by rcases hs with e | e <;> omega
  intro d
  induction d with
  | zero =>
    intro j A hj hA hL
    have e : j = u := by omega
    subst e
    refine ⟨A, EX.refl _ A, hL, vc_Shelf_tapeLabel_65 _ _ sh hsl 2 6000 sh_2 ?_⟩
    have wj : Unit → w32 ((j : Nat) : Int) = j := fun _ => w32_of (by have := hu.1; omega)
    have wpj : Unit → w32 (p + (j : Int)) = p + j := fun _ => w32_of (by have := hu.1; omega)
    rw [wj (), wpj ()]
    by_cases c : j < 100
    · have ht := hA (p + j) (by omega) (by omega)
      rw [ht.2, hu.2.2 c]
      exact cNo (by omega) ⟨by omega, cY (by decide) ⟨rfl, rfl⟩⟩
    · exact cY (by omega) ⟨rfl, rfl⟩
  | succ d ih =>
    intro j A hj hA hL
    have hj2 := hu.1
    have wj : Unit → w32 ((j : Nat) : Int) = j := fun _ => w32_of (by omega)
    have wpj : Unit → w32 (p + (j : Int)) = p + j := fun _ => w32_of (by omega)
    have ej : ((j + 1 : Nat) : Int) = (j : Int) + 1 := by omega
    have ht := hA (p + j) (by omega) (by omega)
    have wt : w32 (t (p + j)) = t (p + j) := w32_of (by omega)
    obtain ⟨A1, k1, k2, k3⟩ := lab_add (q := q) (b5_row hs) hL ht.1 (by omega) (hg j (by omega))
    have hA1 : TC A1 x t := fun k k0 k1' => ⟨(hA k k0 k1').1, by rw [k1.2 2 k (by omega)]; exact (hA k k0 k1').2⟩
    obtain ⟨A2, k4, k5, k6⟩ := ih (j + 1) A1 (by omega) hA1 k2
    rw [ej] at k6
    refine ⟨A2, EX.trans k1 k4, k5, vc_Shelf_tapeLabel_65 _ _ sh hsl 2 6000 sh_2 ?_⟩
    rw [wj (), wpj (), ht.2, wt]
    exact cNo (by omega) ⟨by omega, cNo (hu.2.1 j (by omega)) ⟨by omega, A1, k3, k6⟩⟩
/-- the label of a TAPE's row: a prefix of u octets and a stroke, if there is one; then v octets -/
def lbF (t : Int → Int) (p : Int) (u : Nat) : Int → Int := fun k => if u = 0 then t (p + k) else if k < u then t (p + 345 + k) else if k = u then 47 else t (p + (k - u - 1))
def lbN (u v : Nat) : Nat := if u = 0 then v else u + 1 + v
theorem sp_label {sh : Nat} {A : ms} {u v : Nat} (hs : isSh sh) (h0 : 0 ≤ p) (h1 : p + 512 ≤ x) (hx : x ≤ 6000) (hu : upR t (p + 345) 155 u) (hv : upR t p 100 v) (hA : TC A x t) : ∃ A1, EX (fun a _ => a = sh + 5 ∨ a = sh + 6) A A1 ∧ LabC A1 (sh + 5) (lbN u v) (lbF t p u) ∧ EV q 198 0 [some (.ref sh), some (.ref 2), some (vI p), none] [] A none A1 := by
  have hsl := isSh_is hs
  have sh2 : sh ≠ 2 ∧ sh + 5 ≠ 2 ∧ sh + 6 ≠ 2 := by rcases hs with e | e <;> omega
  have keep : ∀ B C : ms, TC B x t → EX (fun a _ => a = sh + 5 ∨ a = sh + 6) B C → TC C x t := fun B C hB e k k0 k1 => ⟨(hB k k0 k1).1, by rw [e.2 2 k (by omega)]; exact (hB k k0 k1).2⟩
  obtain ⟨c1, c2, c3⟩ := lab_clr (q := q) (A := A) (b5_row hs) (lbF t p u)
  have hA0 := keep _ _ hA c2
  have w345 : w32 (p + 345) = p + 345 := w32_of (by omega)
  have ht := hA0 (p + 345) (by omega) (by omega)
  have wt : w32 (t (p + 345)) = t (p + 345) := w32_of (by omega)
  by_cases z : u = 0
  · have e0 : t (p + 345) = 0 := by
      have := hu.2.2 (by omega)
      rw [z, show p + 345 + ((0 : Nat) : Int) = p + 345 from Int.add_zero _] at this
      exact this
    obtain ⟨A1, k1, k2, k3⟩ := sp_lab65 (q := q) (g := lbF t p u) (b := 0) hs h0 h1 hx (by omega) hv (fun k hk => by
      unfold lbF
      rw [if_pos z, Nat.zero_add]) v 0 _ (by omega) hA0 c3
    refine ⟨A1, EX.trans c2 k1, ?_, vc_Shelf_tapeLabel _ sh hsl 2 6000 sh_2 ⟨_, c1, ?_⟩⟩
    · unfold lbN
      rw [if_pos z]
      rw [Nat.zero_add] at k2
      exact k2
    · rw [w345, ht.2, wt]
      exact ⟨by omega, cY e0 (vc_Shelf_tapeLabel_63 _ sh hsl 2 6000 sh_2 k3)⟩
  · have e0 : t (p + 345) ≠ 0 := by
      have := hu.2.1 0 (by omega)
      rw [show p + 345 + ((0 : Nat) : Int) = p + 345 from Int.add_zero _] at this
      exact this
    obtain ⟨A1, k1, k2, k3⟩ := sp_lab21 (q := q) (g := lbF t p u) hs h0 h1 hx hu (fun k hk => by
      unfold lbF
      rw [if_neg z, if_pos (by omega)]) u 0 _ (by omega) hA0 c3
    obtain ⟨A2, k4, k5, k6⟩ := lab_add (q := q) (v := 47) (b5_row hs) k2 (by decide) (by have := hu.1; omega) (by
      unfold lbF
      rw [if_neg z, if_neg (by omega), if_pos rfl])
    have hA2 := keep _ _ (keep _ _ hA0 k1) k4
    obtain ⟨A3, k7, k8, k9⟩ := sp_lab65 (q := q) (g := lbF t p u) (b := u + 1) hs h0 h1 hx (by have := hu.1; omega) hv (fun k hk => by
      unfold lbF
      rw [if_neg z, if_neg (by omega), if_neg (by omega), show ((u + 1 + k : Nat) : Int) - u - 1 = k by omega]) v 0 _ (by omega) hA2 k5
    refine ⟨A3, EX.trans c2 (EX.trans k1 (EX.trans k4 k7)), ?_, vc_Shelf_tapeLabel _ sh hsl 2 6000 sh_2 ⟨_, c1, ?_⟩⟩
    · unfold lbN
      rw [if_neg z]
      exact k8
    · rw [w345, ht.2, wt]
      exact ⟨by omega, cNo e0 (k3 _ _ (vc_Shelf_tapeLabel_54 _ _ sh hsl 2 6000 sh_2 ⟨A2, k6, vc_Shelf_tapeLabel_63 _ sh hsl 2 6000 sh_2 k9⟩))⟩
/-- the reference's new name of c octets -/
def NamM (B : ms) (fr c : Nat) (g : Int → Int) : Prop := B.1 426 fr = c ∧ ∀ k : Nat, k < c → B.1 425 (100 * (fr : Int) + k) = b8 (g k)
def xNm (fr : Nat) (a : Nat) (k : Int) : Prop := (a = 425 ∧ 100 * (fr : Int) ≤ k ∧ k < 100 * (fr : Int) + 100) ∨ (a = 426 ∧ k = fr)
theorem md_nm {fr c : Nat} {g : Int → Int} {n : Nat} (hf : fr < 16) (h0 : 0 ≤ p) (h1 : p + n ≤ x) (hx : x ≤ 6000) (hc : c + n ≤ 100) (hg : ∀ k : Nat, k < n → g ((c + k : Nat) : Int) = t (p + k)) : ∀ (d i : Nat) (B : ms), i + d = n → TM B x t → B.1 367 95 = fr → NamM B fr (c + i) g → ∃ B1, EX (xNm fr) B B1 ∧ NamM B1 fr (c + n) g ∧ EV q 396 2 [some (.ref 367), some (vI p), some (vI n), some (vI i)] [] B (some (vI 1)) B1 := by
  have wf : Unit → w32 ((fr : Nat) : Int) = fr := fun _ => w32_of (by omega)
  have wn : Unit → w32 ((n : Nat) : Int) = n := fun _ => w32_of (by omega)
  intro d
  induction d with
  | zero =>
    intro i B hi hB h95 hN
    have e : i = n := by omega
    subst e
    exact ⟨B, EX.refl _ B, hN, vc_MD_newName_2 _ _ _ (cY (Int.le_refl _) ⟨rfl, rfl⟩)⟩
  | succ d ih =>
    intro i B hi hB h95 hN
    have wi : Unit → w32 ((i : Nat) : Int) = i := fun _ => w32_of (by omega)
    have wpi : Unit → w32 (p + (i : Int)) = p + i := fun _ => w32_of (by omega)
    have wc : Unit → w32 ((c + i : Nat) : Int) = (c + i : Nat) := fun _ => w32_of (by omega)
    have wk : Unit → w32 (100 * (fr : Int) + ((c + i : Nat) : Int)) = 100 * (fr : Int) + ((c + i : Nat) : Int) := fun _ => w32_of (by omega)
    have ei : ((i + 1 : Nat) : Int) = (i : Int) + 1 := by omega
    have eci : ((c + (i + 1) : Nat) : Int) = ((c + i : Nat) : Int) + 1 := by omega
    have ht := hB (p + i) (by omega) (by omega)
    have e8 : b8 (b8 (t (p + i))) = b8 (t (p + i)) := b8_of (b8_rg _)
    obtain ⟨B1, eB⟩ : ∃ B1 : ms, B1 = wI B 425 (100 * (fr : Int) + ((c + i : Nat) : Int)) (b8 (t (p + i))) := ⟨_, rfl⟩
    have f1 : B1.1 367 95 = fr := by rw [eB, wI_no _ (by omega)]; exact h95
    have f2 : B1.1 426 fr = (c + i : Nat) := by rw [eB, wI_no _ (by omega)]; exact hN.1
    obtain ⟨B2, k1, k2, k3⟩ := ih (i + 1) (wI B1 426 fr (((c + i : Nat) : Int) + 1)) (by omega) (fun k k0 k1 => ⟨(hB k k0 k1).1, by rw [wI_no _ (by omega), eB, wI_no _ (by omega)]; exact (hB k k0 k1).2⟩) (by rw [wI_no _ (by omega)]; exact f1) ⟨by rw [wI_at, eci], fun k hk => by
      rw [wI_no _ (by omega), eB]
      by_cases z : k = c + i
      · subst z; rw [wI_at, hg i (by omega)]
      · rw [wI_no _ (by omega)]; exact hN.2 k (by omega)⟩
    rw [ei] at k3
    have ex : EX (xNm fr) B (wI B1 426 fr (((c + i : Nat) : Int) + 1)) := by
      rw [eB]
      exact EX.wr (EX.wr (EX.refl _ B) (show xNm fr 425 _ from Or.inl ⟨rfl, by omega, by omega⟩)) (show xNm fr 426 _ from Or.inr ⟨rfl, rfl⟩)
    refine ⟨B2, EX.trans ex k1, k2, vc_MD_newName_2 _ _ _ ?_⟩
    rw [wn (), wi (), h95, wf (), hN.1, wc (), wk (), wpi (), ht.2, e8]
    refine cNo (by omega) ⟨by omega, cNo (by omega) ⟨by omega, by omega, by omega, fun S5 e5 => ?_⟩⟩
    rw [← eB] at e5
    subst e5
    rw [f1, wf (), f2]
    exact ⟨by omega, by omega, fun S8 e8 => by rw [e8]; exact k3⟩
end Rea3
