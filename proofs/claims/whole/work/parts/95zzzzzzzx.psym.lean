/-! pack: SORTED; symbols -/
section PSym
variable {q : Nat × (Nat → Int32)}
/-- the place of c -/
def plS (ls : Nat → Int) (c : Int) : Nat → Nat → Nat
  | 0, k => k
  | v + 1, k => if ls k = c then k else plS ls c v (k + 1)
theorem plS_s (ls : Nat → Int) (c : Int) (v k : Nat) : plS ls c (v + 1) k = if ls k = c then k else plS ls c v (k + 1) := rfl
theorem plS_p {ls : Nat → Int} {c : Int} : ∀ (v k : Nat), (∃ j : Nat, k ≤ j ∧ j < k + v ∧ ls j = c) → (k ≤ plS ls c v k ∧ plS ls c v k < k + v) ∧ ls (plS ls c v k) = c ∧ ∀ j : Nat, k ≤ j → j < plS ls c v k → ls j ≠ c
  | 0, k, ⟨j, h1, h2, _⟩ => absurd h2 (by omega)
  | v + 1, k, ⟨j, h1, h2, h3⟩ => by
    rw [plS_s]
    by_cases e : ls k = c
    · rw [if_pos e]
      exact ⟨by omega, e, fun i i0 i1 => absurd i1 (by omega)⟩
    · rw [if_neg e]
      have jk : j ≠ k := fun y => e (by rw [← y]; exact h3)
      have ih := plS_p v (k + 1) ⟨j, by omega, by omega, h3⟩
      refine ⟨by omega, ih.2.1, fun i i0 i1 => ?_⟩
      by_cases d : i = k
      · rw [d]; exact e
      · exact ih.2.2 i (by omega) i1
def mtF (ls : Nat → Int) (p i : Nat) : Int := if i = 0 then ls p else if i ≤ p then ls (i - 1) else ls i
theorem mtF_m {ls : Nat → Int} {p m : Nat} (hp : p < m) (v : Int) : (∃ j : Nat, j < m ∧ mtF ls p j = v) ↔ ∃ j : Nat, j < m ∧ ls j = v := by
  unfold mtF
  refine ⟨fun ⟨j, h1, h2⟩ => ?_, fun ⟨j, h1, h2⟩ => ?_⟩
  · by_cases c0 : j = 0
    · rw [if_pos c0] at h2; exact ⟨p, hp, h2⟩
    · rw [if_neg c0] at h2
      by_cases c1 : j ≤ p
      · rw [if_pos c1] at h2; exact ⟨j - 1, by omega, h2⟩
      · rw [if_neg c1] at h2; exact ⟨j, h1, h2⟩
  · by_cases c1 : j < p
    · exact ⟨j + 1, by omega, by rw [if_neg (by omega), if_pos (by omega)]; exact h2⟩
    · by_cases c2 : j = p
      · exact ⟨0, by omega, by rw [if_pos rfl, ← c2]; exact h2⟩
      · exact ⟨j, h1, by rw [if_neg (by omega), if_neg (by omega)]; exact h2⟩
def dgR : Nat → Nat → Rst → Rst
  | 0, _, s => s
  | f + 1, r, s => if r = 0 then s else dgR f ((r - (2 - r % 2)) / 2) (rPut (1 - ((r % 2 : Nat) : Int)) s)
theorem dgR_s (f r : Nat) (s : Rst) : dgR (f + 1) r s = if r = 0 then s else dgR f ((r - (2 - r % 2)) / 2) (rPut (1 - ((r % 2 : Nat) : Int)) s) := rfl
/-- symbols below M -/
def sOk (M : Int) (s : Rst) : Prop := ∀ i : Nat, i < s.1 → 0 ≤ s.2 i ∧ s.2 i < M
theorem sOk_p {M v : Int} {s : Rst} (h : sOk M s) (hv : 0 ≤ v ∧ v < M) : sOk M (rPut v s) := fun i hi => by
  have hi' : i < s.1 + 1 := hi
  show 0 ≤ (if i = s.1 then v else s.2 i) ∧ (if i = s.1 then v else s.2 i) < M
  by_cases e : i = s.1
  · rw [if_pos e]; exact hv
  · rw [if_neg e]; exact h i (by omega)
theorem dgR_n {M : Int} (hM : 2 ≤ M) : ∀ (f r : Nat) (s : Rst), sOk M s → sOk M (dgR f r s) ∧ s.1 ≤ (dgR f r s).1 ∧ (dgR f r s).1 ≤ s.1 + r
  | 0, r, s, h => ⟨h, Nat.le_refl _, by show s.1 ≤ s.1 + r; omega⟩
  | f + 1, r, s, h => by
    rw [dgR_s]
    by_cases c : r = 0
    · rw [if_pos c]; exact ⟨h, Nat.le_refl _, by omega⟩
    · rw [if_neg c]
      have e : (rPut (1 - ((r % 2 : Nat) : Int)) s).1 = s.1 + 1 := rfl
      have := dgR_n hM f ((r - (2 - r % 2)) / 2) (rPut (1 - ((r % 2 : Nat) : Int)) s) (sOk_p h (by omega))
      exact ⟨this.1, by omega, by omega⟩
def CSy (A : ms) (s : Rst) : Prop := A.1 94 11 = s.1 ∧ ∀ i : Nat, i < s.1 → A.1 103 i = s.2 i
def MSy (B : ms) (s : Rst) : Prop := B.1 367 72 = s.1 ∧ ∀ i : Nat, i < s.1 → B.1 411 i = s.2 i
def XSy (a : Nat) (k : Int) : Prop := a = 103 ∨ (a = 94 ∧ k = 11)
def XSz (a : Nat) (k : Int) : Prop := a = 411 ∨ (a = 367 ∧ k = 72)
theorem CSy_p {A : ms} {s : Rst} {v : Int} (h : CSy A s) : CSy (wI (wI A 103 s.1 v) 94 11 ((s.1 : Int) + 1)) (rPut v s) := by
  refine ⟨by rw [wI_at]; show (s.1 : Int) + 1 = ((s.1 + 1 : Nat) : Int); omega, fun i hi => ?_⟩
  have hi' : i < s.1 + 1 := hi
  show _ = (if i = s.1 then v else s.2 i)
  rw [wI_no _ (by omega)]
  by_cases e : i = s.1
  · rw [if_pos e, e, wI_at]
  · rw [if_neg e, wI_no _ (by omega)]
    exact h.2 i (by omega)
theorem MSy_p {B : ms} {s : Rst} {v : Int} (h : MSy B s) : MSy (wI (wI B 411 s.1 v) 367 72 ((s.1 : Int) + 1)) (rPut v s) := by
  refine ⟨by rw [wI_at]; show (s.1 : Int) + 1 = ((s.1 + 1 : Nat) : Int); omega, fun i hi => ?_⟩
  have hi' : i < s.1 + 1 := hi
  show _ = (if i = s.1 then v else s.2 i)
  rw [wI_no _ (by omega)]
  by_cases e : i = s.1
  · rw [if_pos e, e, wI_at]
  · rw [if_neg e, wI_no _ (by omega)]
    exact h.2 i (by omega)
theorem cl_put {A : ms} {s : Rst} {v : Int} (hs : s.1 ≤ 2500) (h : CSy A s) : ∃ A', EX XSy A A' ∧ CSy A' (rPut v s) ∧ EV q 105 0 [some (.ref 94), some (vI v)] [] A none A' := by
  refine ⟨wI (wI A 103 s.1 v) 94 11 ((s.1 : Int) + 1), ((EX.refl _ A).wr (Or.inl rfl)).wr (Or.inr ⟨rfl, rfl⟩), CSy_p h, vc_Sorted_addSymbol _ ?_⟩
  rw [h.1, show w32 (s.1 : Int) = s.1 from w32_of (by omega), show w32 ((2501 : Nat) : Int) = 2501 by decide]
  refine cNo (by omega) ⟨by omega, fun S2 q2 S3 q3 => ⟨rfl, ?_⟩⟩
  have e3 : S2.1 94 11 = s.1 := by rw [q2, wI_no _ (by omega)]; exact h.1
  rw [e3, q2] at q3
  exact q3.symm
theorem cl_dig {x1 : Int} : ∀ (f r i : Nat) (s : Rst) (A : ms), i + f = 32 → s.1 + r ≤ 2500 → CSy A s → ∃ A', EX XSy A A' ∧ CSy A' (dgR f r s) ∧ EV q 104 4 [some (.ref 94), some (vI x1), some (vI r), some (vI i), none] [] A none A' := by
  intro f
  induction f with
  | zero =>
    intro r i s A hi hr h
    have e : i = 32 := by omega
    subst e
    exact ⟨A, EX.refl _ A, h, vc_Sorted_addDigits_4 _ _ _ (cY (by decide) ⟨rfl, rfl⟩)⟩
  | succ f ih =>
    intro r i s A hi hr h
    rw [dgR_s]
    by_cases c : r = 0
    · rw [if_pos c]
      refine ⟨A, EX.refl _ A, h, vc_Sorted_addDigits_4 _ _ _ ?_⟩
      rw [show w32 (i : Int) = i from w32_of (by omega), show w32 (r : Int) = r from w32_of (by omega)]
      exact cNo (by omega) (cY (by omega) ⟨rfl, rfl⟩)
    · rw [if_neg c]
      obtain ⟨A1, a1, a2, a3⟩ := cl_put (q := q) (v := 1 - ((r % 2 : Nat) : Int)) (by omega) h
      have e : (rPut (1 - ((r % 2 : Nat) : Int)) s).1 = s.1 + 1 := rfl
      obtain ⟨A', g1, g2, g3⟩ := ih ((r - (2 - r % 2)) / 2) (i + 1) _ A1 (by omega) (by omega) a2
      refine ⟨A', a1.trans g1, g2, vc_Sorted_addDigits_4 _ _ _ ?_⟩
      have w2 : w32 2 = 2 := by decide
      rw [show w32 (i : Int) = i from w32_of (by omega), show w32 (r : Int) = r from w32_of (by omega), w2, Int.tmod_eq_emod_of_nonneg (by omega), w32_of (x := (r : Int) - (2 - (r : Int) % 2)) (by omega), Int.tdiv_eq_ediv_of_nonneg (by omega)]
      rw [show ((i + 1 : Nat) : Int) = (i : Int) + 1 by omega, show (((r - (2 - r % 2)) / 2 : Nat) : Int) = ((r : Int) - (2 - (r : Int) % 2)) / 2 by omega] at g3
      rw [show 1 - ((r % 2 : Nat) : Int) = 2 - (r : Int) % 2 - 1 by omega] at a3
      exact cNo (by omega) (cNo (by omega) ⟨A1, a3, g3⟩)
theorem md_dig {x1 : Int} : ∀ (f r : Nat) (s : Rst) (B : ms), r < 2 ^ f → s.1 + r ≤ 2500 → MSy B s → ∃ B', EX XSz B B' ∧ MSy B' (dgR f r s) ∧ EV q 323 2 [some (.ref 367), some (vI x1), some (vI r), none] [] B none B' := by
  intro f
  induction f with
  | zero =>
    intro r s B hf hr h
    have e : r = 0 := by have : 2 ^ 0 = 1 := rfl; omega
    subst e
    exact ⟨B, EX.refl _ B, h, vc_MD_zeros_2 _ _ (cY (by decide) ⟨rfl, rfl⟩)⟩
  | succ f ih =>
    intro r s B hf hr h
    rw [dgR_s]
    by_cases c : r = 0
    · rw [if_pos c]
      refine ⟨B, EX.refl _ B, h, vc_MD_zeros_2 _ _ ?_⟩
      rw [show w32 (r : Int) = r from w32_of (by omega)]
      exact cY (by omega) ⟨rfl, rfl⟩
    · rw [if_neg c]
      have p2 : 2 ^ (f + 1) = 2 ^ f * 2 := rfl
      have e : (rPut (1 - ((r % 2 : Nat) : Int)) s).1 = s.1 + 1 := rfl
      obtain ⟨B1, e1⟩ : ∃ B1, B1 = wI (wI B 411 s.1 (1 - ((r % 2 : Nat) : Int))) 367 72 ((s.1 : Int) + 1) := ⟨_, rfl⟩
      have h1 := MSy_p (v := 1 - ((r % 2 : Nat) : Int)) h
      rw [← e1] at h1
      obtain ⟨B', g1, g2, g3⟩ := ih ((r - (2 - r % 2)) / 2) _ B1 (by omega) (by omega) h1
      refine ⟨B', EX.trans (by rw [e1]; exact ((EX.refl _ B).wr (Or.inl rfl)).wr (Or.inr ⟨rfl, rfl⟩)) g1, g2, vc_MD_zeros_2 _ _ ?_⟩
      have w2 : w32 2 = 2 := by decide
      have k18 : ∀ y0 : Int, y0 = 2 - (r : Int) % 2 → EV q 323 18 [some (.ref 367), some (vI x1), some (vI r), none] [vI y0] B none B' := fun y0 hy => by
        refine vc_MD_zeros_18 _ _ _ ?_
        rw [h.1, show w32 (s.1 : Int) = s.1 from w32_of (by omega), w2, w32_of (x := (r : Int) - y0) (by omega), Int.tdiv_eq_ediv_of_nonneg (by omega)]
        refine ⟨by omega, fun S2 q2 S3 q3 => ?_⟩
        have e3 : S2.1 367 72 = s.1 := by rw [q2, wI_no _ (by omega)]; exact h.1
        rw [e3, q2, show y0 - 1 = 1 - ((r % 2 : Nat) : Int) by omega, ← e1] at q3
        rw [q3]
        rw [show (((r - (2 - r % 2)) / 2 : Nat) : Int) = ((r : Int) - y0) / 2 by omega] at g3
        exact g3
      rw [show w32 (r : Int) = r from w32_of (by omega), w2, Int.tmod_eq_emod_of_nonneg (by omega), w32_of (x := (r : Int) % 2) (by omega)]
      refine cNo (by omega) ?_
      by_cases d : (r : Int) % 2 = 1
      · exact cNN d (k18 1 (by omega))
      · exact cY d (k18 2 (by omega))
/-- signPlace -/
theorem cl_plc {A : ms} {ls : Nat → Int} {c : Int} {m p : Nat} (hm : m ≤ 256) (hp : p < m) (hc : 0 ≤ c ∧ c < 256) (hl : ∀ j : Nat, j < m → (0 ≤ ls j ∧ ls j < 256) ∧ A.1 102 j = ls j) (h9 : A.1 94 9 = m) (h1 : ls p = c) (h2 : ∀ j : Nat, j < p → ls j ≠ c) : ∀ (v k : Nat), k + v = p → EV q 102 2 [some (.ref 94), some (vI c), some (vI k)] [] A (some (vI p)) A := by
  intro v
  induction v with
  | zero =>
    intro k hk
    have e : k = p := by omega
    subst e
    have l := hl k hp
    refine vc_Sorted_signPlace_2 _ _ ?_
    rw [h9, w32_of (x := (m : Int) - 1) (by omega), show w32 (k : Int) = k from w32_of (by omega), l.2, h1]
    by_cases d : (m : Int) - 1 ≤ k
    · exact cY d ⟨rfl, rfl⟩
    · exact cNo d ⟨by omega, cY rfl ⟨rfl, rfl⟩⟩
  | succ v ih =>
    intro k hk
    have l := hl k (by omega)
    have ne := h2 k (by omega)
    have g := ih (k + 1) (by omega)
    rw [show ((k + 1 : Nat) : Int) = (k : Int) + 1 by omega] at g
    refine vc_Sorted_signPlace_2 _ _ ?_
    rw [h9, w32_of (x := (m : Int) - 1) (by omega), show w32 (k : Int) = k from w32_of (by omega), l.2, w32_of (x := ls k) (by omega), w32_of (x := c) (by omega)]
    exact cNo (by omega) ⟨by omega, cNo ne g⟩
theorem cl_mtf {ls : Nat → Int} {m p : Nat} (hm : m ≤ 256) (hp : p < m) : ∀ (k : Nat) (A : ms), k ≤ p → (∀ j : Nat, j ≤ k → A.1 102 j = ls j) → (∀ j : Nat, k < j → j < m → A.1 102 j = mtF ls p j) → ∃ A', EX (fun a _ => a = 102) A A' ∧ (∀ j : Nat, j < m → A'.1 102 j = mtF ls p j) ∧ EV q 103 9 [some (.ref 94), some (vI p), some (vI (ls p)), some (vI k)] [] A (some (vI p)) A' := by
  intro k
  induction k with
  | zero =>
    intro A hk h1 h2
    refine ⟨wI A 102 0 (ls p), (EX.refl _ A).wr rfl, fun j hj => ?_, vc_Sorted_toFront_9 _ _ _ (cY (by decide) ?_)⟩
    · by_cases e : j = 0
      · rw [e]
        show (wI A 102 0 (ls p)).1 102 0 = _
        rw [wI_at]
        rfl
      · rw [wI_no _ (by omega)]
        exact h2 j (by omega) hj
    · rw [show w32 0 = 0 by decide]
      exact ⟨by decide, fun S2 q2 => ⟨rfl, q2.symm⟩⟩
  | succ k ih =>
    intro A hk h1 h2
    obtain ⟨A', g1, g2, g3⟩ := ih (wI A 102 ((k + 1 : Nat) : Int) (ls k)) (by omega) (fun j hj => by rw [wI_no _ (by omega)]; exact h1 j (by omega)) (fun j hj hm' => by
      by_cases e : j = k + 1
      · rw [e, wI_at]
        unfold mtF
        rw [if_neg (by omega), if_pos (by omega)]
        rfl
      · rw [wI_no _ (by omega)]
        exact h2 j (by omega) hm')
    refine ⟨A', ((EX.refl _ A).wr rfl).trans g1, g2, vc_Sorted_toFront_9 _ _ _ ?_⟩
    rw [w32_of (x := ((k + 1 : Nat) : Int)) (by omega), show ((k + 1 : Nat) : Int) - 1 = k by omega, show w32 (k : Int) = k from w32_of (by omega), h1 k (by omega)]
    exact cNo (by omega) ⟨by omega, by omega, fun S5 q5 => by rw [q5]; exact g3⟩
theorem md_mtf {ls : Nat → Int} {m p : Nat} (hm : m ≤ 256) (hp : p < m) : ∀ (k : Nat) (B : ms), k ≤ p → (∀ j : Nat, j ≤ k → B.1 410 j = b8 (ls j)) → (∀ j : Nat, k < j → j < m → B.1 410 j = b8 (mtF ls p j)) → ∃ B', EX (fun a _ => a = 410) B B' ∧ (∀ j : Nat, j < m → B'.1 410 j = b8 (mtF ls p j)) ∧ EV q 324 9 [some (.ref 367), some (vI p), some (vI (b8 (ls p))), some (vI k)] [] B none B' := by
  intro k
  induction k with
  | zero =>
    intro B hk h1 h2
    refine ⟨wI B 410 0 (b8 (ls p)), (EX.refl _ B).wr rfl, fun j hj => ?_, vc_MD_toFront_9 _ _ _ (cY (by decide) ?_)⟩
    · by_cases e : j = 0
      · rw [e]
        show (wI B 410 0 (b8 (ls p))).1 410 0 = _
        rw [wI_at]
        rfl
      · rw [wI_no _ (by omega)]
        exact h2 j (by omega) hj
    · rw [show w32 0 = 0 by decide, b8_i]
      exact ⟨by decide, fun S2 q2 => ⟨rfl, q2.symm⟩⟩
  | succ k ih =>
    intro B hk h1 h2
    obtain ⟨B', g1, g2, g3⟩ := ih (wI B 410 ((k + 1 : Nat) : Int) (b8 (ls k))) (by omega) (fun j hj => by rw [wI_no _ (by omega)]; exact h1 j (by omega)) (fun j hj hm' => by
      by_cases e : j = k + 1
      · rw [e, wI_at]
        unfold mtF
        rw [if_neg (by omega), if_pos (by omega)]
        rfl
      · rw [wI_no _ (by omega)]
        exact h2 j (by omega) hm')
    refine ⟨B', ((EX.refl _ B).wr rfl).trans g1, g2, vc_MD_toFront_9 _ _ _ ?_⟩
    rw [w32_of (x := ((k + 1 : Nat) : Int)) (by omega), show ((k + 1 : Nat) : Int) - 1 = k by omega, show w32 (k : Int) = k from w32_of (by omega), h1 k (by omega), b8_i (ls k)]
    refine cNo (by omega) ⟨by omega, by omega, fun S5 q5 => ?_⟩
    rw [q5]
    exact g3
end PSym
